theorem dX13_fete_0 : decode cX13_fete 0 = .ok (.aload_n 0, 1) := by decide +kernel
theorem dX13_fete_1 : decode cX13_fete 1 = .ok (.iconst 0, 1) := by decide +kernel
theorem dX13_fete_2 : decode cX13_fete 2 = .ok (.putfield 148, 3) := by decide +kernel
theorem dX13_fete_5 : decode cX13_fete 5 = .ok (.aload_n 0, 1) := by decide +kernel
theorem dX13_fete_6 : decode cX13_fete 6 = .ok (.iload_n 1, 1) := by decide +kernel
theorem dX13_fete_7 : decode cX13_fete 7 = .ok (.invokevirtual 495, 3) := by decide +kernel
theorem dX13_fete_10 : decode cX13_fete 10 = .ok (.ifCond .eq 14, 3) := by decide +kernel
theorem dX13_fete_13 : decode cX13_fete 13 = .ok (.iload 4, 2) := by decide +kernel
theorem dX13_fete_15 : decode cX13_fete 15 = .ok (.i2l, 1) := by decide +kernel
theorem dX13_fete_16 : decode cX13_fete 16 = .ok (.lconst 0, 1) := by decide +kernel
theorem dX13_fete_17 : decode cX13_fete 17 = .ok (.lconst 1, 1) := by decide +kernel
theorem dX13_fete_18 : decode cX13_fete 18 = .ok (.invokestatic 269, 3) := by decide +kernel
theorem dX13_fete_21 : decode cX13_fete 21 = .ok (.ifCond .ne 5, 3) := by decide +kernel
theorem dX13_fete_24 : decode cX13_fete 24 = .ok (.iconst (-1), 1) := by decide +kernel
theorem dX13_fete_25 : decode cX13_fete 25 = .ok (.ireturn, 1) := by decide +kernel
theorem dX13_fete_26 : decode cX13_fete 26 = .ok (.aload_n 0, 1) := by decide +kernel
theorem dX13_fete_27 : decode cX13_fete 27 = .ok (.lload_n 2, 1) := by decide +kernel
theorem dX13_fete_28 : decode cX13_fete 28 = .ok (.putfield 488, 3) := by decide +kernel
theorem dX13_fete_31 : decode cX13_fete 31 = .ok (.iconst 1, 1) := by decide +kernel
theorem dX13_fete_32 : decode cX13_fete 32 = .ok (.aload_n 0, 1) := by decide +kernel
theorem dX13_fete_33 : decode cX13_fete 33 = .ok (.getfield 485, 3) := by decide +kernel
theorem dX13_fete_36 : decode cX13_fete 36 = .ok (.ishl, 1) := by decide +kernel
theorem dX13_fete_37 : decode cX13_fete 37 = .ok (.iconst 1, 1) := by decide +kernel
theorem dX13_fete_38 : decode cX13_fete 38 = .ok (.isub, 1) := by decide +kernel
theorem dX13_fete_39 : decode cX13_fete 39 = .ok (.istore 5, 2) := by decide +kernel
theorem dX13_fete_41 : decode cX13_fete 41 = .ok (.iconst 0, 1) := by decide +kernel
theorem dX13_fete_42 : decode cX13_fete 42 = .ok (.istore 6, 2) := by decide +kernel
theorem dX13_fete_44 : decode cX13_fete 44 = .ok (.iconst 0, 1) := by decide +kernel
theorem dX13_fete_45 : decode cX13_fete 45 = .ok (.istore 7, 2) := by decide +kernel
theorem dX13_fete_47 : decode cX13_fete 47 = .ok (.iload 5, 2) := by decide +kernel
theorem dX13_fete_49 : decode cX13_fete 49 = .ok (.invokestatic 498, 3) := by decide +kernel
theorem dX13_fete_52 : decode cX13_fete 52 = .ok (.iconst 1, 1) := by decide +kernel
theorem dX13_fete_53 : decode cX13_fete 53 = .ok (.if_icmp .le 136, 3) := by decide +kernel
theorem dX13_fete_56 : decode cX13_fete 56 = .ok (.aload_n 0, 1) := by decide +kernel
theorem dX13_fete_57 : decode cX13_fete 57 = .ok (.getfield 37, 3) := by decide +kernel
theorem dX13_fete_60 : decode cX13_fete 60 = .ok (.iconst 3, 1) := by decide +kernel
theorem dX13_fete_61 : decode cX13_fete 61 = .ok (.iaload, 1) := by decide +kernel
theorem dX13_fete_62 : decode cX13_fete 62 = .ok (.iload 7, 2) := by decide +kernel
theorem dX13_fete_64 : decode cX13_fete 64 = .ok (.aload_n 0, 1) := by decide +kernel
theorem dX13_fete_65 : decode cX13_fete 65 = .ok (.getfield 37, 3) := by decide +kernel
theorem dX13_fete_68 : decode cX13_fete 68 = .ok (.iconst 2, 1) := by decide +kernel
theorem dX13_fete_69 : decode cX13_fete 69 = .ok (.iaload, 1) := by decide +kernel
theorem dX13_fete_70 : decode cX13_fete 70 = .ok (.imul, 1) := by decide +kernel
theorem dX13_fete_71 : decode cX13_fete 71 = .ok (.iadd, 1) := by decide +kernel
theorem dX13_fete_72 : decode cX13_fete 72 = .ok (.bipush 60, 2) := by decide +kernel
theorem dX13_fete_74 : decode cX13_fete 74 = .ok (.if_icmp .gt 115, 3) := by decide +kernel
theorem dX13_fete_77 : decode cX13_fete 77 = .ok (.iconst 0, 1) := by decide +kernel
theorem dX13_fete_78 : decode cX13_fete 78 = .ok (.istore 6, 2) := by decide +kernel
theorem dX13_fete_80 : decode cX13_fete 80 = .ok (.iconst 0, 1) := by decide +kernel
theorem dX13_fete_81 : decode cX13_fete 81 = .ok (.istore 8, 2) := by decide +kernel
theorem dX13_fete_83 : decode cX13_fete 83 = .ok (.iload 8, 2) := by decide +kernel
theorem dX13_fete_85 : decode cX13_fete 85 = .ok (.aload_n 0, 1) := by decide +kernel
theorem dX13_fete_86 : decode cX13_fete 86 = .ok (.getfield 485, 3) := by decide +kernel
theorem dX13_fete_89 : decode cX13_fete 89 = .ok (.if_icmp .ge 85, 3) := by decide +kernel
theorem dX13_fete_92 : decode cX13_fete 92 = .ok (.iload 5, 2) := by decide +kernel
theorem dX13_fete_94 : decode cX13_fete 94 = .ok (.iload 8, 2) := by decide +kernel
theorem dX13_fete_96 : decode cX13_fete 96 = .ok (.invokestatic 296, 3) := by decide +kernel
theorem dX13_fete_99 : decode cX13_fete 99 = .ok (.ifCond .eq 69, 3) := by decide +kernel
theorem dX13_fete_102 : decode cX13_fete 102 = .ok (.aload_n 0, 1) := by decide +kernel
theorem dX13_fete_103 : decode cX13_fete 103 = .ok (.bipush 10, 2) := by decide +kernel
theorem dX13_fete_105 : decode cX13_fete 105 = .ok (.aload_n 0, 1) := by decide +kernel
theorem dX13_fete_106 : decode cX13_fete 106 = .ok (.getfield 100, 3) := by decide +kernel
theorem dX13_fete_109 : decode cX13_fete 109 = .ok (.iload 8, 2) := by decide +kernel
theorem dX13_fete_111 : decode cX13_fete 111 = .ok (.iaload, 1) := by decide +kernel
theorem dX13_fete_112 : decode cX13_fete 112 = .ok (.imul, 1) := by decide +kernel
theorem dX13_fete_113 : decode cX13_fete 113 = .ok (.aload_n 0, 1) := by decide +kernel
theorem dX13_fete_114 : decode cX13_fete 114 = .ok (.getfield 79, 3) := by decide +kernel
theorem dX13_fete_117 : decode cX13_fete 117 = .ok (.aload_n 0, 1) := by decide +kernel
theorem dX13_fete_118 : decode cX13_fete 118 = .ok (.getfield 100, 3) := by decide +kernel
theorem dX13_fete_121 : decode cX13_fete 121 = .ok (.iload 8, 2) := by decide +kernel
theorem dX13_fete_123 : decode cX13_fete 123 = .ok (.iaload, 1) := by decide +kernel
theorem dX13_fete_124 : decode cX13_fete 124 = .ok (.iaload, 1) := by decide +kernel
theorem dX13_fete_125 : decode cX13_fete 125 = .ok (.iadd, 1) := by decide +kernel
theorem dX13_fete_126 : decode cX13_fete 126 = .ok (.iload 8, 2) := by decide +kernel
theorem dX13_fete_128 : decode cX13_fete 128 = .ok (.aload_n 0, 1) := by decide +kernel
theorem dX13_fete_129 : decode cX13_fete 129 = .ok (.getfield 338, 3) := by decide +kernel
theorem dX13_fete_132 : decode cX13_fete 132 = .ok (.irem, 1) := by decide +kernel
theorem dX13_fete_133 : decode cX13_fete 133 = .ok (.iload 7, 2) := by decide +kernel
theorem dX13_fete_135 : decode cX13_fete 135 = .ok (.iconst 1, 1) := by decide +kernel
theorem dX13_fete_136 : decode cX13_fete 136 = .ok (.iadd, 1) := by decide +kernel
theorem dX13_fete_137 : decode cX13_fete 137 = .ok (.aload_n 0, 1) := by decide +kernel
theorem dX13_fete_138 : decode cX13_fete 138 = .ok (.getfield 37, 3) := by decide +kernel
theorem dX13_fete_141 : decode cX13_fete 141 = .ok (.iconst 3, 1) := by decide +kernel
theorem dX13_fete_142 : decode cX13_fete 142 = .ok (.iaload, 1) := by decide +kernel
theorem dX13_fete_143 : decode cX13_fete 143 = .ok (.iload 7, 2) := by decide +kernel
theorem dX13_fete_145 : decode cX13_fete 145 = .ok (.aload_n 0, 1) := by decide +kernel
theorem dX13_fete_146 : decode cX13_fete 146 = .ok (.getfield 37, 3) := by decide +kernel
theorem dX13_fete_149 : decode cX13_fete 149 = .ok (.iconst 2, 1) := by decide +kernel
theorem dX13_fete_150 : decode cX13_fete 150 = .ok (.iaload, 1) := by decide +kernel
theorem dX13_fete_151 : decode cX13_fete 151 = .ok (.imul, 1) := by decide +kernel
theorem dX13_fete_152 : decode cX13_fete 152 = .ok (.iadd, 1) := by decide +kernel
theorem dX13_fete_153 : decode cX13_fete 153 = .ok (.invokevirtual 503, 3) := by decide +kernel
theorem dX13_fete_156 : decode cX13_fete 156 = .ok (.ifCond .ne 12, 3) := by decide +kernel
theorem dX13_fete_159 : decode cX13_fete 159 = .ok (.iload 6, 2) := by decide +kernel
theorem dX13_fete_161 : decode cX13_fete 161 = .ok (.iconst 1, 1) := by decide +kernel
theorem dX13_fete_162 : decode cX13_fete 162 = .ok (.iload 8, 2) := by decide +kernel
theorem dX13_fete_164 : decode cX13_fete 164 = .ok (.ishl, 1) := by decide +kernel
theorem dX13_fete_165 : decode cX13_fete 165 = .ok (.ior, 1) := by decide +kernel
theorem dX13_fete_166 : decode cX13_fete 166 = .ok (.istore 6, 2) := by decide +kernel
theorem dX13_fete_168 : decode cX13_fete 168 = .ok (.iinc 8 1, 3) := by decide +kernel
theorem dX13_fete_171 : decode cX13_fete 171 = .ok (.goto (-88), 3) := by decide +kernel
theorem dX13_fete_174 : decode cX13_fete 174 = .ok (.iload 5, 2) := by decide +kernel
theorem dX13_fete_176 : decode cX13_fete 176 = .ok (.iload 6, 2) := by decide +kernel
theorem dX13_fete_178 : decode cX13_fete 178 = .ok (.iconst (-1), 1) := by decide +kernel
theorem dX13_fete_179 : decode cX13_fete 179 = .ok (.ixor, 1) := by decide +kernel
theorem dX13_fete_180 : decode cX13_fete 180 = .ok (.iand, 1) := by decide +kernel
theorem dX13_fete_181 : decode cX13_fete 181 = .ok (.istore 5, 2) := by decide +kernel
theorem dX13_fete_183 : decode cX13_fete 183 = .ok (.iinc 7 1, 3) := by decide +kernel
theorem dX13_fete_186 : decode cX13_fete 186 = .ok (.goto (-139), 3) := by decide +kernel
theorem dX13_fete_189 : decode cX13_fete 189 = .ok (.iconst 0, 1) := by decide +kernel
theorem dX13_fete_190 : decode cX13_fete 190 = .ok (.istore 8, 2) := by decide +kernel
theorem dX13_fete_192 : decode cX13_fete 192 = .ok (.iconst 0, 1) := by decide +kernel
theorem dX13_fete_193 : decode cX13_fete 193 = .ok (.istore 9, 2) := by decide +kernel
theorem dX13_fete_195 : decode cX13_fete 195 = .ok (.iload 9, 2) := by decide +kernel
theorem dX13_fete_197 : decode cX13_fete 197 = .ok (.aload_n 0, 1) := by decide +kernel
theorem dX13_fete_198 : decode cX13_fete 198 = .ok (.getfield 485, 3) := by decide +kernel
theorem dX13_fete_201 : decode cX13_fete 201 = .ok (.if_icmp .ge 43, 3) := by decide +kernel
theorem dX13_fete_204 : decode cX13_fete 204 = .ok (.iload 5, 2) := by decide +kernel
theorem dX13_fete_206 : decode cX13_fete 206 = .ok (.ifCond .ne 8, 3) := by decide +kernel
theorem dX13_fete_209 : decode cX13_fete 209 = .ok (.iload 6, 2) := by decide +kernel
theorem dX13_fete_211 : decode cX13_fete 211 = .ok (.goto 5, 3) := by decide +kernel
theorem dX13_fete_214 : decode cX13_fete 214 = .ok (.iload 5, 2) := by decide +kernel
theorem dX13_fete_216 : decode cX13_fete 216 = .ok (.iload 9, 2) := by decide +kernel
theorem dX13_fete_218 : decode cX13_fete 218 = .ok (.invokestatic 296, 3) := by decide +kernel
theorem dX13_fete_221 : decode cX13_fete 221 = .ok (.ifCond .eq 17, 3) := by decide +kernel
theorem dX13_fete_224 : decode cX13_fete 224 = .ok (.iload 8, 2) := by decide +kernel
theorem dX13_fete_226 : decode cX13_fete 226 = .ok (.iconst 1, 1) := by decide +kernel
theorem dX13_fete_227 : decode cX13_fete 227 = .ok (.aload_n 0, 1) := by decide +kernel
theorem dX13_fete_228 : decode cX13_fete 228 = .ok (.getfield 100, 3) := by decide +kernel
theorem dX13_fete_231 : decode cX13_fete 231 = .ok (.iload 9, 2) := by decide +kernel
theorem dX13_fete_233 : decode cX13_fete 233 = .ok (.iaload, 1) := by decide +kernel
theorem dX13_fete_234 : decode cX13_fete 234 = .ok (.ishl, 1) := by decide +kernel
theorem dX13_fete_235 : decode cX13_fete 235 = .ok (.ior, 1) := by decide +kernel
theorem dX13_fete_236 : decode cX13_fete 236 = .ok (.istore 8, 2) := by decide +kernel
theorem dX13_fete_238 : decode cX13_fete 238 = .ok (.iinc 9 1, 3) := by decide +kernel
theorem dX13_fete_241 : decode cX13_fete 241 = .ok (.goto (-46), 3) := by decide +kernel
theorem dX13_fete_244 : decode cX13_fete 244 = .ok (.iload 4, 2) := by decide +kernel
theorem dX13_fete_246 : decode cX13_fete 246 = .ok (.ifCond .ne 8, 3) := by decide +kernel
theorem dX13_fete_249 : decode cX13_fete 249 = .ok (.iload 8, 2) := by decide +kernel
theorem dX13_fete_251 : decode cX13_fete 251 = .ok (.goto 5, 3) := by decide +kernel
theorem dX13_fete_254 : decode cX13_fete 254 = .ok (.iload 7, 2) := by decide +kernel
theorem dX13_fete_256 : decode cX13_fete 256 = .ok (.ireturn, 1) := by decide +kernel
def fX13_fete_L83 : Nat → eg_H → Nat → Int32 → Int32 → Int32 → Int32 → Int32 → Option (Nat × Int32 × Int32 × Int32 × Int32 × eg_H)
  | 0, _, _, _, _, _, _, _ => none
  | n + 1, h, l0, l4, l5, l6, l7, l8 =>
    (eg_gI h 13 54 l0).bind fun v1 =>
    if v1 ≤ l8 then
      (some (l0, l4, l5, l6, l7, h))
    else
      (fX13_has h l5 l8).bind fun ⟨v5, h4⟩ =>
      if v5 = 0 then
        (fX13_fete_L83 n h4 l0 l4 l5 l6 l7 (l8 + (1 : Int32)))
      else
        (eg_gR h4 13 53 l0).bind fun p8 =>
        (eg_aI h4 100 p8 l8).bind fun v10 =>
        (eg_gR h4 13 43 l0).bind fun p12 =>
        (eg_gR h4 13 53 l0).bind fun p14 =>
        (eg_aI h4 100 p14 l8).bind fun v16 =>
        (eg_aI h4 100 p12 v16).bind fun v18 =>
        (eg_gI h4 13 26 l0).bind fun v20 =>
        if v20 = 0 then none else
        (eg_gR h4 13 18 l0).bind fun p23 =>
        (eg_aI h4 100 p23 (3 : Int32)).bind fun v25 =>
        (eg_gR h4 13 18 l0).bind fun p27 =>
        (eg_aI h4 100 p27 (2 : Int32)).bind fun v29 =>
        (fX13_isThrownWell h4 l0 (((10 : Int32) * v10) + v18) (l8 % v20) (l7 + (1 : Int32)) (v25 + (l7 * v29))).bind fun ⟨v32, h31⟩ =>
        if v32 = 0 then
          ((some ((l6 ||| ((1 : Int32) <<< (l8 &&& 31))))).bind fun v35 =>
          fX13_fete_L83 n h31 l0 l4 l5 v35 l7 (l8 + (1 : Int32)))
        else
          fX13_fete_L83 n h31 l0 l4 l5 l6 l7 (l8 + (1 : Int32))
set_option maxRecDepth 20000 in
theorem fX13_fete_L83_ok {h0 : eg_H} {Z : eg_C → State → Prop} {N S : Nat} : ∀ (n : Nat) (h : eg_H) (l0 : Nat) (l4 : Int32) (l5 : Int32) (l6 : Int32) (l7 : Int32) (l8 : Int32) (eE : Nat × Int32 × Int32 × Int32 × Int32 × eg_H), fX13_fete_L83 n h l0 l4 l5 l6 l7 l8 = some eE → (hk0 : ∀ (l0 : Nat) (l4 : Int32) (l5 : Int32) (l6 : Int32) (l7 : Int32) (h : eg_H), eE = (l0, l4, l5, l6, l7, h) → eg_AW (RX13, cX13_fete, 10, 399, none, "fete", (some .int)) Z N S h0 174 [(0, .ref l0), (4, .int l4), (5, .int l5), (6, .int l6), (7, .int l7)] [] h) → eg_AW (RX13, cX13_fete, 10, 399, none, "fete", (some .int)) Z N S h0 83 [(0, .ref l0), (4, .int l4), (5, .int l5), (6, .int l6), (7, .int l7), (8, .int l8)] [] h := by
  intro n
  induction n with
  | zero => intro h l0 l4 l5 l6 l7 l8 eE hF; exact absurd hF (by intro q; cases q)
  | succ n ih =>
    intro h l0 l4 l5 l6 l7 l8 eE hF hk0
    have hrec := fun (h' : eg_H) (l0 : Nat) (l4 : Int32) (l5 : Int32) (l6 : Int32) (l7 : Int32) (l8 : Int32) hq => ih h' l0 l4 l5 l6 l7 l8 eE hq hk0
    refine eg_iload (i := 8) 5 dX13_fete_83 rfl ?_
    refine eg_aload_n (i := 0) 0 dX13_fete_85 rfl rfl ?_
    replace hF := eg_bind hF; obtain ⟨v1, e2, hF⟩ := hF
    refine eg_getI dX13_fete_86 e2 (Nat.le_of_ble_eq_true rfl) (Nat.le_of_ble_eq_true rfl) rfl ew_1488 ?_
    refine eg_ic_ge 174 dX13_fete_89 rfl (fun c3 => ?_) (fun c3 => ?_)
    · replace hF := eg_it c3 hF
      exact eg_sub [0, 1, 2, 3, 4] [(0, .ref l0), (4, .int l4), (5, .int l5), (6, .int l6), (7, .int l7)] rfl (hk0 l0 l4 l5 l6 l7 h (Option.some.inj hF).symm)
    · replace hF := eg_if c3 hF
      refine eg_iload (i := 5) 2 dX13_fete_92 rfl ?_
      refine eg_iload (i := 8) 5 dX13_fete_94 rfl ?_
      replace hF := eg_bind hF; obtain ⟨⟨v5, h4⟩, e6, hF⟩ := hF
      refine eg_callS (n := 2) [.int l5, .int l8] dX13_fete_96 (mX13_has e6) rfl ew_1777 ew_1778 ew_110 ew_1779 hy_X13_has.2 rfl (Nat.le_of_ble_eq_true rfl) (Nat.le_of_ble_eq_true rfl) (Nat.le_of_ble_eq_true rfl) ?_
      refine eg_if_eq 168 dX13_fete_99 rfl (fun c7 => ?_) (fun c7 => ?_)
      · replace hF := eg_it c7 hF
        refine eg_iinc (i := 8) (v := (l8 + (1 : Int32))) 5 [(8, .int (l8 + (1 : Int32))), (0, .ref l0), (4, .int l4), (5, .int l5), (6, .int l6), (7, .int l7)] dX13_fete_168 rfl rfl (Nat.le_of_ble_eq_true rfl) rfl ?_
        refine eg_goto 83 dX13_fete_171 rfl ?_
        exact eg_sub [1, 2, 3, 4, 5, 0] [(0, .ref l0), (4, .int l4), (5, .int l5), (6, .int l6), (7, .int l7), (8, .int (l8 + (1 : Int32)))] rfl (hrec h4 l0 l4 l5 l6 l7 (l8 + (1 : Int32)) hF)
      · replace hF := eg_if c7 hF
        refine eg_aload_n (i := 0) 0 dX13_fete_102 rfl rfl ?_
        refine eg_bipush (v := (10 : Int32)) dX13_fete_103 (by decide) ?_
        refine eg_aload_n (i := 0) 0 dX13_fete_105 rfl rfl ?_
        replace hF := eg_bind hF; obtain ⟨p8, e9, hF⟩ := hF
        refine eg_getR dX13_fete_106 e9 (Nat.le_of_ble_eq_true rfl) (Nat.le_of_ble_eq_true rfl) rfl ew_1487 ?_
        refine eg_iload (i := 8) 5 dX13_fete_109 rfl ?_
        replace hF := eg_bind hF; obtain ⟨v10, e11, hF⟩ := hF
        refine eg_iald dX13_fete_111 e11 ?_
        refine eg_imul dX13_fete_112 ?_
        refine eg_aload_n (i := 0) 0 dX13_fete_113 rfl rfl ?_
        replace hF := eg_bind hF; obtain ⟨p12, e13, hF⟩ := hF
        refine eg_getR dX13_fete_114 e13 (Nat.le_of_ble_eq_true rfl) (Nat.le_of_ble_eq_true rfl) rfl ew_1477 ?_
        refine eg_aload_n (i := 0) 0 dX13_fete_117 rfl rfl ?_
        replace hF := eg_bind hF; obtain ⟨p14, e15, hF⟩ := hF
        refine eg_getR dX13_fete_118 e15 (Nat.le_of_ble_eq_true rfl) (Nat.le_of_ble_eq_true rfl) rfl ew_1487 ?_
        refine eg_iload (i := 8) 5 dX13_fete_121 rfl ?_
        replace hF := eg_bind hF; obtain ⟨v16, e17, hF⟩ := hF
        refine eg_iald dX13_fete_123 e17 ?_
        replace hF := eg_bind hF; obtain ⟨v18, e19, hF⟩ := hF
        refine eg_iald dX13_fete_124 e19 ?_
        refine eg_iadd dX13_fete_125 ?_
        refine eg_iload (i := 8) 5 dX13_fete_126 rfl ?_
        refine eg_aload_n (i := 0) 0 dX13_fete_128 rfl rfl ?_
        replace hF := eg_bind hF; obtain ⟨v20, e21, hF⟩ := hF
        refine eg_getI dX13_fete_129 e21 (Nat.le_of_ble_eq_true rfl) (Nat.le_of_ble_eq_true rfl) rfl ew_1460 ?_
        replace hF := eg_nif hF; obtain ⟨c22, hF⟩ := hF
        refine eg_irem dX13_fete_132 c22 ?_
        refine eg_iload (i := 7) 4 dX13_fete_133 rfl ?_
        refine eg_iconst (v := (1 : Int32)) dX13_fete_135 (by decide) ?_
        refine eg_iadd dX13_fete_136 ?_
        refine eg_aload_n (i := 0) 0 dX13_fete_137 rfl rfl ?_
        replace hF := eg_bind hF; obtain ⟨p23, e24, hF⟩ := hF
        refine eg_getR dX13_fete_138 e24 (Nat.le_of_ble_eq_true rfl) (Nat.le_of_ble_eq_true rfl) rfl ew_1452 ?_
        refine eg_iconst (v := (3 : Int32)) dX13_fete_141 (by decide) ?_
        replace hF := eg_bind hF; obtain ⟨v25, e26, hF⟩ := hF
        refine eg_iald dX13_fete_142 e26 ?_
        refine eg_iload (i := 7) 4 dX13_fete_143 rfl ?_
        refine eg_aload_n (i := 0) 0 dX13_fete_145 rfl rfl ?_
        replace hF := eg_bind hF; obtain ⟨p27, e28, hF⟩ := hF
        refine eg_getR dX13_fete_146 e28 (Nat.le_of_ble_eq_true rfl) (Nat.le_of_ble_eq_true rfl) rfl ew_1452 ?_
        refine eg_iconst (v := (2 : Int32)) dX13_fete_149 (by decide) ?_
        replace hF := eg_bind hF; obtain ⟨v29, e30, hF⟩ := hF
        refine eg_iald dX13_fete_150 e30 ?_
        refine eg_imul dX13_fete_151 ?_
        refine eg_iadd dX13_fete_152 ?_
        replace hF := eg_bind hF; obtain ⟨⟨v32, h31⟩, e33, hF⟩ := hF
        refine eg_callV (c := 13) (n := 4) [.int (((10 : Int32) * v10) + v18), .int (l8 % v20), .int (l7 + (1 : Int32)), .int (v25 + (l7 * v29))] dX13_fete_153 (mX13_isThrownWell e33) rfl (fX13_isThrownWell_O e33) (Nat.le_of_ble_eq_true rfl) rfl ew_2107 ew_2109 ew_93 ew_110 ew_2110 hy_X13_isThrownWell rfl (Nat.le_of_ble_eq_true rfl) (Nat.le_of_ble_eq_true rfl) (Nat.le_of_ble_eq_true rfl) ?_
        refine eg_if_ne 168 dX13_fete_156 rfl (fun c34 => ?_) (fun c34 => ?_)
        · replace hF := eg_it c34 hF
          refine eg_iload (i := 6) 3 dX13_fete_159 rfl ?_
          refine eg_iconst (v := (1 : Int32)) dX13_fete_161 (by decide) ?_
          refine eg_iload (i := 8) 5 dX13_fete_162 rfl ?_
          refine eg_ishl dX13_fete_164 ?_
          refine eg_ior dX13_fete_165 ?_
          replace hF := eg_bind hF; obtain ⟨v35, e36, hF⟩ := hF
          replace e36 := Option.some.inj e36
          rw [e36]
          refine eg_istore (i := 6) [(6, .int v35), (0, .ref l0), (4, .int l4), (5, .int l5), (7, .int l7), (8, .int l8)] dX13_fete_166 (Nat.le_of_ble_eq_true rfl) rfl ?_
          refine eg_iinc (i := 8) (v := (l8 + (1 : Int32))) 5 [(8, .int (l8 + (1 : Int32))), (6, .int v35), (0, .ref l0), (4, .int l4), (5, .int l5), (7, .int l7)] dX13_fete_168 rfl rfl (Nat.le_of_ble_eq_true rfl) rfl ?_
          refine eg_goto 83 dX13_fete_171 rfl ?_
          exact eg_sub [2, 3, 4, 1, 5, 0] [(0, .ref l0), (4, .int l4), (5, .int l5), (6, .int v35), (7, .int l7), (8, .int (l8 + (1 : Int32)))] rfl (hrec h31 l0 l4 l5 v35 l7 (l8 + (1 : Int32)) hF)
        · replace hF := eg_if c34 hF
          refine eg_iinc (i := 8) (v := (l8 + (1 : Int32))) 5 [(8, .int (l8 + (1 : Int32))), (0, .ref l0), (4, .int l4), (5, .int l5), (6, .int l6), (7, .int l7)] dX13_fete_168 rfl rfl (Nat.le_of_ble_eq_true rfl) rfl ?_
          refine eg_goto 83 dX13_fete_171 rfl ?_
          exact eg_sub [1, 2, 3, 4, 5, 0] [(0, .ref l0), (4, .int l4), (5, .int l5), (6, .int l6), (7, .int l7), (8, .int (l8 + (1 : Int32)))] rfl (hrec h31 l0 l4 l5 l6 l7 (l8 + (1 : Int32)) hF)
def fX13_fete_L47 : Nat → eg_H → Nat → Int32 → Int32 → Int32 → Int32 → Option (Nat × Int32 × Int32 × Int32 × Int32 × eg_H)
  | 0, _, _, _, _, _, _ => none
  | n + 1, h, l0, l4, l5, l6, l7 =>
    (fJ6_bitCount_0f7a4 h l5).bind fun ⟨v2, h1⟩ =>
    if v2 ≤ (1 : Int32) then
      (some (l0, l4, l5, l6, l7, h1))
    else
      (eg_gR h1 13 18 l0).bind fun p5 =>
      (eg_aI h1 100 p5 (3 : Int32)).bind fun v7 =>
      (eg_gR h1 13 18 l0).bind fun p9 =>
      (eg_aI h1 100 p9 (2 : Int32)).bind fun v11 =>
      if (60 : Int32) < (v7 + (l7 * v11)) then
        (some (l0, l4, l5, l6, l7, h1))
      else
        (fX13_fete_L83 eg_F h1 l0 l4 l5 (0 : Int32) l7 (0 : Int32)).bind fun e =>
        match e with
        | (p16, v17, v18, v19, v20, h21) =>
          (some ((v18 &&& (v19 ^^^ (-1 : Int32))))).bind fun v22 =>
          fX13_fete_L47 n h21 p16 v17 v22 v19 (v20 + (1 : Int32))
set_option maxRecDepth 20000 in
theorem fX13_fete_L47_ok {h0 : eg_H} {Z : eg_C → State → Prop} {N S : Nat} : ∀ (n : Nat) (h : eg_H) (l0 : Nat) (l4 : Int32) (l5 : Int32) (l6 : Int32) (l7 : Int32) (eE : Nat × Int32 × Int32 × Int32 × Int32 × eg_H), fX13_fete_L47 n h l0 l4 l5 l6 l7 = some eE → (hk0 : ∀ (l0 : Nat) (l4 : Int32) (l5 : Int32) (l6 : Int32) (l7 : Int32) (h : eg_H), eE = (l0, l4, l5, l6, l7, h) → eg_AW (RX13, cX13_fete, 10, 399, none, "fete", (some .int)) Z N S h0 189 [(0, .ref l0), (4, .int l4), (5, .int l5), (6, .int l6), (7, .int l7)] [] h) → eg_AW (RX13, cX13_fete, 10, 399, none, "fete", (some .int)) Z N S h0 47 [(0, .ref l0), (4, .int l4), (5, .int l5), (6, .int l6), (7, .int l7)] [] h := by
  intro n
  induction n with
  | zero => intro h l0 l4 l5 l6 l7 eE hF; exact absurd hF (by intro q; cases q)
  | succ n ih =>
    intro h l0 l4 l5 l6 l7 eE hF hk0
    have hrec := fun (h' : eg_H) (l0 : Nat) (l4 : Int32) (l5 : Int32) (l6 : Int32) (l7 : Int32) hq => ih h' l0 l4 l5 l6 l7 eE hq hk0
    refine eg_iload (i := 5) 2 dX13_fete_47 rfl ?_
    replace hF := eg_bind hF; obtain ⟨⟨v2, h1⟩, e3, hF⟩ := hF
    refine eg_callS (n := 1) [.int l5] dX13_fete_49 (mJ6_bitCount_0f7a4 e3) rfl ew_2106 ew_825 ew_124 ew_826 hy_J6_bitCount_0f7a4.2 rfl (Nat.le_of_ble_eq_true rfl) (Nat.le_of_ble_eq_true rfl) (Nat.le_of_ble_eq_true rfl) ?_
    refine eg_iconst (v := (1 : Int32)) dX13_fete_52 (by decide) ?_
    refine eg_ic_le 189 dX13_fete_53 rfl (fun c4 => ?_) (fun c4 => ?_)
    · replace hF := eg_it c4 hF
      exact (hk0 l0 l4 l5 l6 l7 h1 (Option.some.inj hF).symm)
    · replace hF := eg_if c4 hF
      refine eg_aload_n (i := 0) 0 dX13_fete_56 rfl rfl ?_
      replace hF := eg_bind hF; obtain ⟨p5, e6, hF⟩ := hF
      refine eg_getR dX13_fete_57 e6 (Nat.le_of_ble_eq_true rfl) (Nat.le_of_ble_eq_true rfl) rfl ew_1452 ?_
      refine eg_iconst (v := (3 : Int32)) dX13_fete_60 (by decide) ?_
      replace hF := eg_bind hF; obtain ⟨v7, e8, hF⟩ := hF
      refine eg_iald dX13_fete_61 e8 ?_
      refine eg_iload (i := 7) 4 dX13_fete_62 rfl ?_
      refine eg_aload_n (i := 0) 0 dX13_fete_64 rfl rfl ?_
      replace hF := eg_bind hF; obtain ⟨p9, e10, hF⟩ := hF
      refine eg_getR dX13_fete_65 e10 (Nat.le_of_ble_eq_true rfl) (Nat.le_of_ble_eq_true rfl) rfl ew_1452 ?_
      refine eg_iconst (v := (2 : Int32)) dX13_fete_68 (by decide) ?_
      replace hF := eg_bind hF; obtain ⟨v11, e12, hF⟩ := hF
      refine eg_iald dX13_fete_69 e12 ?_
      refine eg_imul dX13_fete_70 ?_
      refine eg_iadd dX13_fete_71 ?_
      refine eg_bipush (v := (60 : Int32)) dX13_fete_72 (by decide) ?_
      refine eg_ic_gt 189 dX13_fete_74 rfl (fun c13 => ?_) (fun c13 => ?_)
      · replace hF := eg_it c13 hF
        exact (hk0 l0 l4 l5 l6 l7 h1 (Option.some.inj hF).symm)
      · replace hF := eg_if c13 hF
        refine eg_iconst (v := (0 : Int32)) dX13_fete_77 (by decide) ?_
        refine eg_istore (i := 6) [(6, .int (0 : Int32)), (0, .ref l0), (4, .int l4), (5, .int l5), (7, .int l7)] dX13_fete_78 (Nat.le_of_ble_eq_true rfl) rfl ?_
        refine eg_iconst (v := (0 : Int32)) dX13_fete_80 (by decide) ?_
        refine eg_istore (i := 8) [(8, .int (0 : Int32)), (6, .int (0 : Int32)), (0, .ref l0), (4, .int l4), (5, .int l5), (7, .int l7)] dX13_fete_81 (Nat.le_of_ble_eq_true rfl) rfl ?_
        replace hF := eg_bind hF; obtain ⟨x15, e14, hF⟩ := hF
        refine eg_sub [2, 3, 4, 1, 5, 0] [(0, .ref l0), (4, .int l4), (5, .int l5), (6, .int (0 : Int32)), (7, .int l7), (8, .int (0 : Int32))] rfl (fX13_fete_L83_ok eg_F h1 l0 l4 l5 (0 : Int32) l7 (0 : Int32) x15 e14 ?_)
        · intro p16 v17 v18 v19 v20 h21 e24
          subst e24
          refine eg_iload (i := 5) 2 dX13_fete_174 rfl ?_
          refine eg_iload (i := 6) 3 dX13_fete_176 rfl ?_
          refine eg_iconst (v := (-1 : Int32)) dX13_fete_178 (by decide) ?_
          refine eg_ixor dX13_fete_179 ?_
          refine eg_iand dX13_fete_180 ?_
          replace hF := eg_bind hF; obtain ⟨v22, e23, hF⟩ := hF
          replace e23 := Option.some.inj e23
          rw [e23]
          refine eg_istore (i := 5) [(5, .int v22), (0, .ref p16), (4, .int v17), (6, .int v19), (7, .int v20)] dX13_fete_181 (Nat.le_of_ble_eq_true rfl) rfl ?_
          refine eg_iinc (i := 7) (v := (v20 + (1 : Int32))) 4 [(7, .int (v20 + (1 : Int32))), (5, .int v22), (0, .ref p16), (4, .int v17), (6, .int v19)] dX13_fete_183 rfl rfl (Nat.le_of_ble_eq_true rfl) rfl ?_
          refine eg_goto 47 dX13_fete_186 rfl ?_
          exact eg_sub [2, 3, 1, 4, 0] [(0, .ref p16), (4, .int v17), (5, .int v22), (6, .int v19), (7, .int (v20 + (1 : Int32)))] rfl (hrec h21 p16 v17 v22 v19 (v20 + (1 : Int32)) hF)
def fX13_fete_j216 (rec : eg_H → Nat → Int32 → Int32 → Int32 → Int32 → Int32 → Int32 → Option (Int32 × Int32 × Int32 × eg_H)) (h : eg_H) (l0 : Nat) (l4 : Int32) (l5 : Int32) (l6 : Int32) (l7 : Int32) (l8 : Int32) (l9 : Int32) (s0 : Int32) : Option (Int32 × Int32 × Int32 × eg_H) :=
  (fX13_has h s0 l9).bind fun ⟨v2, h1⟩ =>
  if v2 = 0 then
    (rec h1 l0 l4 l5 l6 l7 l8 (l9 + (1 : Int32)))
  else
    (eg_gR h1 13 53 l0).bind fun p5 =>
    (eg_aI h1 100 p5 l9).bind fun v7 =>
    (some ((l8 ||| ((1 : Int32) <<< (v7 &&& 31))))).bind fun v9 =>
    rec h1 l0 l4 l5 l6 l7 v9 (l9 + (1 : Int32))
set_option maxRecDepth 20000 in
theorem fX13_fete_j216_ok {rec : eg_H → Nat → Int32 → Int32 → Int32 → Int32 → Int32 → Int32 → Option (Int32 × Int32 × Int32 × eg_H)} {h0 : eg_H} {Z : eg_C → State → Prop} {N S : Nat} (h : eg_H) (l0 : Nat) (l4 : Int32) (l5 : Int32) (l6 : Int32) (l7 : Int32) (l8 : Int32) (l9 : Int32) (s0 : Int32) (eE : Int32 × Int32 × Int32 × eg_H) (hF : fX13_fete_j216 rec h l0 l4 l5 l6 l7 l8 l9 s0 = some eE) (hrec : ∀ (h : eg_H) (l0 : Nat) (l4 : Int32) (l5 : Int32) (l6 : Int32) (l7 : Int32) (l8 : Int32) (l9 : Int32), rec h l0 l4 l5 l6 l7 l8 l9 = some eE → eg_AW (RX13, cX13_fete, 10, 399, none, "fete", (some .int)) Z N S h0 195 [(0, .ref l0), (4, .int l4), (5, .int l5), (6, .int l6), (7, .int l7), (8, .int l8), (9, .int l9)] [] h) (hk0 : ∀ (l4 : Int32) (l7 : Int32) (l8 : Int32) (h : eg_H), eE = (l4, l7, l8, h) → eg_AW (RX13, cX13_fete, 10, 399, none, "fete", (some .int)) Z N S h0 244 [(4, .int l4), (7, .int l7), (8, .int l8)] [] h) : eg_AW (RX13, cX13_fete, 10, 399, none, "fete", (some .int)) Z N S h0 216 [(0, .ref l0), (4, .int l4), (5, .int l5), (6, .int l6), (7, .int l7), (8, .int l8), (9, .int l9)] [.int s0] h := by
  refine eg_iload (i := 9) 6 dX13_fete_216 rfl ?_
  replace hF := eg_bind hF; obtain ⟨⟨v2, h1⟩, e3, hF⟩ := hF
  refine eg_callS (n := 2) [.int s0, .int l9] dX13_fete_218 (mX13_has e3) rfl ew_1777 ew_1778 ew_110 ew_1779 hy_X13_has.2 rfl (Nat.le_of_ble_eq_true rfl) (Nat.le_of_ble_eq_true rfl) (Nat.le_of_ble_eq_true rfl) ?_
  refine eg_if_eq 238 dX13_fete_221 rfl (fun c4 => ?_) (fun c4 => ?_)
  · replace hF := eg_it c4 hF
    refine eg_iinc (i := 9) (v := (l9 + (1 : Int32))) 6 [(9, .int (l9 + (1 : Int32))), (0, .ref l0), (4, .int l4), (5, .int l5), (6, .int l6), (7, .int l7), (8, .int l8)] dX13_fete_238 rfl rfl (Nat.le_of_ble_eq_true rfl) rfl ?_
    refine eg_goto 195 dX13_fete_241 rfl ?_
    exact eg_sub [1, 2, 3, 4, 5, 6, 0] [(0, .ref l0), (4, .int l4), (5, .int l5), (6, .int l6), (7, .int l7), (8, .int l8), (9, .int (l9 + (1 : Int32)))] rfl (hrec h1 l0 l4 l5 l6 l7 l8 (l9 + (1 : Int32)) hF)
  · replace hF := eg_if c4 hF
    refine eg_iload (i := 8) 5 dX13_fete_224 rfl ?_
    refine eg_iconst (v := (1 : Int32)) dX13_fete_226 (by decide) ?_
    refine eg_aload_n (i := 0) 0 dX13_fete_227 rfl rfl ?_
    replace hF := eg_bind hF; obtain ⟨p5, e6, hF⟩ := hF
    refine eg_getR dX13_fete_228 e6 (Nat.le_of_ble_eq_true rfl) (Nat.le_of_ble_eq_true rfl) rfl ew_1487 ?_
    refine eg_iload (i := 9) 6 dX13_fete_231 rfl ?_
    replace hF := eg_bind hF; obtain ⟨v7, e8, hF⟩ := hF
    refine eg_iald dX13_fete_233 e8 ?_
    refine eg_ishl dX13_fete_234 ?_
    refine eg_ior dX13_fete_235 ?_
    replace hF := eg_bind hF; obtain ⟨v9, e10, hF⟩ := hF
    replace e10 := Option.some.inj e10
    rw [e10]
    refine eg_istore (i := 8) [(8, .int v9), (0, .ref l0), (4, .int l4), (5, .int l5), (6, .int l6), (7, .int l7), (9, .int l9)] dX13_fete_236 (Nat.le_of_ble_eq_true rfl) rfl ?_
    refine eg_iinc (i := 9) (v := (l9 + (1 : Int32))) 6 [(9, .int (l9 + (1 : Int32))), (8, .int v9), (0, .ref l0), (4, .int l4), (5, .int l5), (6, .int l6), (7, .int l7)] dX13_fete_238 rfl rfl (Nat.le_of_ble_eq_true rfl) rfl ?_
    refine eg_goto 195 dX13_fete_241 rfl ?_
    exact eg_sub [2, 3, 4, 5, 6, 1, 0] [(0, .ref l0), (4, .int l4), (5, .int l5), (6, .int l6), (7, .int l7), (8, .int v9), (9, .int (l9 + (1 : Int32)))] rfl (hrec h1 l0 l4 l5 l6 l7 v9 (l9 + (1 : Int32)) hF)
def fX13_fete_L195 : Nat → eg_H → Nat → Int32 → Int32 → Int32 → Int32 → Int32 → Int32 → Option (Int32 × Int32 × Int32 × eg_H)
  | 0, _, _, _, _, _, _, _, _ => none
  | n + 1, h, l0, l4, l5, l6, l7, l8, l9 =>
    (eg_gI h 13 54 l0).bind fun v1 =>
    if v1 ≤ l9 then
      (some (l4, l7, l8, h))
    else
      if l5 = 0 then
        (fX13_fete_j216 (fX13_fete_L195 n) h l0 l4 l5 l6 l7 l8 l9 l6)
      else
        fX13_fete_j216 (fX13_fete_L195 n) h l0 l4 l5 l6 l7 l8 l9 l5
set_option maxRecDepth 20000 in
theorem fX13_fete_L195_ok {h0 : eg_H} {Z : eg_C → State → Prop} {N S : Nat} : ∀ (n : Nat) (h : eg_H) (l0 : Nat) (l4 : Int32) (l5 : Int32) (l6 : Int32) (l7 : Int32) (l8 : Int32) (l9 : Int32) (eE : Int32 × Int32 × Int32 × eg_H), fX13_fete_L195 n h l0 l4 l5 l6 l7 l8 l9 = some eE → (hk0 : ∀ (l4 : Int32) (l7 : Int32) (l8 : Int32) (h : eg_H), eE = (l4, l7, l8, h) → eg_AW (RX13, cX13_fete, 10, 399, none, "fete", (some .int)) Z N S h0 244 [(4, .int l4), (7, .int l7), (8, .int l8)] [] h) → eg_AW (RX13, cX13_fete, 10, 399, none, "fete", (some .int)) Z N S h0 195 [(0, .ref l0), (4, .int l4), (5, .int l5), (6, .int l6), (7, .int l7), (8, .int l8), (9, .int l9)] [] h := by
  intro n
  induction n with
  | zero => intro h l0 l4 l5 l6 l7 l8 l9 eE hF; exact absurd hF (by intro q; cases q)
  | succ n ih =>
    intro h l0 l4 l5 l6 l7 l8 l9 eE hF hk0
    have hrec := fun (h' : eg_H) (l0 : Nat) (l4 : Int32) (l5 : Int32) (l6 : Int32) (l7 : Int32) (l8 : Int32) (l9 : Int32) hq => ih h' l0 l4 l5 l6 l7 l8 l9 eE hq hk0
    refine eg_iload (i := 9) 6 dX13_fete_195 rfl ?_
    refine eg_aload_n (i := 0) 0 dX13_fete_197 rfl rfl ?_
    replace hF := eg_bind hF; obtain ⟨v1, e2, hF⟩ := hF
    refine eg_getI dX13_fete_198 e2 (Nat.le_of_ble_eq_true rfl) (Nat.le_of_ble_eq_true rfl) rfl ew_1488 ?_
    refine eg_ic_ge 244 dX13_fete_201 rfl (fun c3 => ?_) (fun c3 => ?_)
    · replace hF := eg_it c3 hF
      exact eg_sub [1, 4, 5] [(4, .int l4), (7, .int l7), (8, .int l8)] rfl (hk0 l4 l7 l8 h (Option.some.inj hF).symm)
    · replace hF := eg_if c3 hF
      refine eg_iload (i := 5) 2 dX13_fete_204 rfl ?_
      refine eg_if_ne 214 dX13_fete_206 rfl (fun c4 => ?_) (fun c4 => ?_)
      · replace hF := eg_it c4 hF
        refine eg_iload (i := 6) 3 dX13_fete_209 rfl ?_
        refine eg_goto 216 dX13_fete_211 rfl ?_
        exact (fX13_fete_j216_ok h l0 l4 l5 l6 l7 l8 l9 l6 eE hF hrec hk0)
      · replace hF := eg_if c4 hF
        refine eg_iload (i := 5) 2 dX13_fete_214 rfl ?_
        exact (fX13_fete_j216_ok h l0 l4 l5 l6 l7 l8 l9 l5 eE hF hrec hk0)
def fX13_fete_j189 (h : eg_H) (l0 : Nat) (l4 : Int32) (l5 : Int32) (l6 : Int32) (l7 : Int32) : Option (Int32 × eg_H) :=
  (fX13_fete_L195 eg_F h l0 l4 l5 l6 l7 (0 : Int32) (0 : Int32)).bind fun e =>
  match e with
  | (v3, v4, v5, h6) =>
    if v3 = 0 then
      (some (v5, h6))
    else
      some (v4, h6)
set_option maxRecDepth 20000 in
theorem fX13_fete_j189_ok {h0 : eg_H} (h : eg_H) (l0 : Nat) (l4 : Int32) (l5 : Int32) (l6 : Int32) (l7 : Int32) {rE : Int32} {hE : eg_H} (hF : fX13_fete_j189 h l0 l4 l5 l6 l7 = some (rE, hE)) : eg_AW (RX13, cX13_fete, 10, 399, none, "fete", (some .int)) (eg_Zm (some (.int rE)) hE h0) (eg_nc hE) (eg_ns hE) h0 189 [(0, .ref l0), (4, .int l4), (5, .int l5), (6, .int l6), (7, .int l7)] [] h := by
  refine eg_iconst (v := (0 : Int32)) dX13_fete_189 (by decide) ?_
  refine eg_istore (i := 8) [(8, .int (0 : Int32)), (0, .ref l0), (4, .int l4), (5, .int l5), (6, .int l6), (7, .int l7)] dX13_fete_190 (Nat.le_of_ble_eq_true rfl) rfl ?_
  refine eg_iconst (v := (0 : Int32)) dX13_fete_192 (by decide) ?_
  refine eg_istore (i := 9) [(9, .int (0 : Int32)), (8, .int (0 : Int32)), (0, .ref l0), (4, .int l4), (5, .int l5), (6, .int l6), (7, .int l7)] dX13_fete_193 (Nat.le_of_ble_eq_true rfl) rfl ?_
  replace hF := eg_bind hF; obtain ⟨x2, e1, hF⟩ := hF
  refine eg_sub [2, 3, 4, 5, 6, 1, 0] [(0, .ref l0), (4, .int l4), (5, .int l5), (6, .int l6), (7, .int l7), (8, .int (0 : Int32)), (9, .int (0 : Int32))] rfl (fX13_fete_L195_ok eg_F h l0 l4 l5 l6 l7 (0 : Int32) (0 : Int32) x2 e1 ?_)
  · intro v3 v4 v5 h6 e8
    subst e8
    refine eg_iload (i := 4) 0 dX13_fete_244 rfl ?_
    refine eg_if_ne 254 dX13_fete_246 rfl (fun c7 => ?_) (fun c7 => ?_)
    · replace hF := eg_it c7 hF
      refine eg_iload (i := 8) 2 dX13_fete_249 rfl ?_
      refine eg_goto 256 dX13_fete_251 rfl ?_
      exact eg_iretE dX13_fete_256 hF
    · replace hF := eg_if c7 hF
      refine eg_iload (i := 7) 1 dX13_fete_254 rfl ?_
      exact eg_iretE dX13_fete_256 hF
def fX13_fete (h : eg_H) (l0 : Nat) (l1 : Int32) (l2 : Int64) (l4 : Int32) : Option (Int32 × eg_H) :=
  if eg_isO h 13 l0 then (
    (eg_pI h 13 0 l0 (0 : Int32)).bind fun h1 =>
    (fX13_layPairs h1 l0 l1).bind fun ⟨v4, h3⟩ =>
    if v4 = 0 then
      (some ((-1 : Int32), h3))
    else
      (fX13_isIn h3 l4.toInt64 (0 : Int64) (1 : Int64)).bind fun ⟨v8, h7⟩ =>
      if v8 = 0 then
        (some ((-1 : Int32), h7))
      else
        (eg_pL h7 13 55 l0 l2).bind fun h11 =>
        (eg_gI h11 13 54 l0).bind fun v13 =>
        (some ((((1 : Int32) <<< (v13 &&& 31)) - (1 : Int32)))).bind fun v15 =>
        (fX13_fete_L47 eg_F h11 l0 l4 v15 (0 : Int32) (0 : Int32)).bind fun e =>
        match e with
        | (p19, v20, v21, v22, v23, h24) =>
          fX13_fete_j189 h24 p19 v20 v21 v22 v23) else none
theorem fX13_fete_O {h : eg_H} {l0 : Nat} {l1 : Int32} {l2 : Int64} {l4 : Int32} {rE : Int32} {hE : eg_H} (hF : fX13_fete h l0 l1 l2 l4 = some (rE, hE)) : eg_isO h 13 l0 := (eg_ifn hF).1
set_option maxRecDepth 20000 in
theorem mX13_fete {h : eg_H} {l0 : Nat} {l1 : Int32} {l2 : Int64} {l4 : Int32} {rE : Int32} {hE : eg_H} (hF : fX13_fete h l0 l1 l2 l4 = some (rE, hE)) : eg_Met yX13_fete cX13_fete 10 (some .int) 399 [.ref l0, .int l1, .long l2, .int l4] h (some (.int rE)) hE := by
  refine eg_enter rfl (Nat.le_of_ble_eq_true rfl) ?_
  show eg_AW (RX13, cX13_fete, 10, 399, none, "fete", (some .int)) (eg_Zm (some (.int rE)) hE h) (eg_nc hE) (eg_ns hE) h 0 [(0, .ref l0), (1, .int l1), (2, .long l2), (4, .int l4)] [] h
  replace hF := (eg_ifn hF).2
  refine eg_aload_n (i := 0) 0 dX13_fete_0 rfl rfl ?_
  refine eg_iconst (v := (0 : Int32)) dX13_fete_1 (by decide) ?_
  replace hF := eg_bind hF; obtain ⟨h1, e2, hF⟩ := hF
  refine eg_putI dX13_fete_2 e2 (Nat.le_of_ble_eq_true rfl) (Nat.le_of_ble_eq_true rfl) rfl ew_1434 (Or.inl rfl) ?_
  refine eg_aload_n (i := 0) 0 dX13_fete_5 rfl rfl ?_
  refine eg_iload_n (i := 1) 1 dX13_fete_6 rfl rfl ?_
  replace hF := eg_bind hF; obtain ⟨⟨v4, h3⟩, e5, hF⟩ := hF
  refine eg_callV (c := 13) (n := 1) [.int l1] dX13_fete_7 (mX13_layPairs e5) rfl (fX13_layPairs_O e5) (Nat.le_of_ble_eq_true rfl) rfl ew_2102 ew_2104 ew_92 ew_110 ew_2105 hy_X13_layPairs rfl (Nat.le_of_ble_eq_true rfl) (Nat.le_of_ble_eq_true rfl) (Nat.le_of_ble_eq_true rfl) ?_
  refine eg_if_eq 24 dX13_fete_10 rfl (fun c6 => ?_) (fun c6 => ?_)
  · replace hF := eg_it c6 hF
    refine eg_iconst (v := (-1 : Int32)) dX13_fete_24 (by decide) ?_
    exact eg_iretE dX13_fete_25 hF
  · replace hF := eg_if c6 hF
    refine eg_iload (i := 4) 3 dX13_fete_13 rfl ?_
    refine eg_i2l dX13_fete_15 ?_
    refine eg_lconst (v := (0 : Int64)) dX13_fete_16 (by decide) ?_
    refine eg_lconst (v := (1 : Int64)) dX13_fete_17 (by decide) ?_
    replace hF := eg_bind hF; obtain ⟨⟨v8, h7⟩, e9, hF⟩ := hF
    refine eg_callS (n := 3) [.long l4.toInt64, .long (0 : Int64), .long (1 : Int64)] dX13_fete_18 (mX13_isIn e9) rfl ew_1697 ew_1698 ew_110 ew_1699 hy_X13_isIn.2 rfl (Nat.le_of_ble_eq_true rfl) (Nat.le_of_ble_eq_true rfl) (Nat.le_of_ble_eq_true rfl) ?_
    refine eg_if_ne 26 dX13_fete_21 rfl (fun c10 => ?_) (fun c10 => ?_)
    · replace hF := eg_it c10 hF
      refine eg_iconst (v := (-1 : Int32)) dX13_fete_24 (by decide) ?_
      exact eg_iretE dX13_fete_25 hF
    · replace hF := eg_if c10 hF
      refine eg_aload_n (i := 0) 0 dX13_fete_26 rfl rfl ?_
      refine eg_lload_n (i := 2) 2 dX13_fete_27 rfl rfl ?_
      replace hF := eg_bind hF; obtain ⟨h11, e12, hF⟩ := hF
      refine eg_putL dX13_fete_28 e12 (Nat.le_of_ble_eq_true rfl) (Nat.le_of_ble_eq_true rfl) rfl ew_1489 rfl ?_
      refine eg_iconst (v := (1 : Int32)) dX13_fete_31 (by decide) ?_
      refine eg_aload_n (i := 0) 0 dX13_fete_32 rfl rfl ?_
      replace hF := eg_bind hF; obtain ⟨v13, e14, hF⟩ := hF
      refine eg_getI dX13_fete_33 e14 (Nat.le_of_ble_eq_true rfl) (Nat.le_of_ble_eq_true rfl) rfl ew_1488 ?_
      refine eg_ishl dX13_fete_36 ?_
      refine eg_iconst (v := (1 : Int32)) dX13_fete_37 (by decide) ?_
      refine eg_isub dX13_fete_38 ?_
      replace hF := eg_bind hF; obtain ⟨v15, e16, hF⟩ := hF
      replace e16 := Option.some.inj e16
      rw [e16]
      refine eg_istore (i := 5) [(5, .int v15), (0, .ref l0), (1, .int l1), (2, .long l2), (4, .int l4)] dX13_fete_39 (Nat.le_of_ble_eq_true rfl) rfl ?_
      refine eg_iconst (v := (0 : Int32)) dX13_fete_41 (by decide) ?_
      refine eg_istore (i := 6) [(6, .int (0 : Int32)), (5, .int v15), (0, .ref l0), (1, .int l1), (2, .long l2), (4, .int l4)] dX13_fete_42 (Nat.le_of_ble_eq_true rfl) rfl ?_
      refine eg_iconst (v := (0 : Int32)) dX13_fete_44 (by decide) ?_
      refine eg_istore (i := 7) [(7, .int (0 : Int32)), (6, .int (0 : Int32)), (5, .int v15), (0, .ref l0), (1, .int l1), (2, .long l2), (4, .int l4)] dX13_fete_45 (Nat.le_of_ble_eq_true rfl) rfl ?_
      replace hF := eg_bind hF; obtain ⟨x18, e17, hF⟩ := hF
      refine eg_sub [3, 6, 2, 1, 0] [(0, .ref l0), (4, .int l4), (5, .int v15), (6, .int (0 : Int32)), (7, .int (0 : Int32))] rfl (fX13_fete_L47_ok eg_F h11 l0 l4 v15 (0 : Int32) (0 : Int32) x18 e17 ?_)
      · intro p19 v20 v21 v22 v23 h24 e25
        subst e25
        exact (fX13_fete_j189_ok h24 p19 v20 v21 v22 v23 hF)
theorem dX13_crown_0 : decode cX13_crown 0 = .ok (.aload_n 0, 1) := by decide +kernel
theorem dX13_crown_1 : decode cX13_crown 1 = .ok (.iconst 0, 1) := by decide +kernel
theorem dX13_crown_2 : decode cX13_crown 2 = .ok (.putfield 148, 3) := by decide +kernel
theorem dX13_crown_5 : decode cX13_crown 5 = .ok (.aload_n 0, 1) := by decide +kernel
theorem dX13_crown_6 : decode cX13_crown 6 = .ok (.iload_n 1, 1) := by decide +kernel
theorem dX13_crown_7 : decode cX13_crown 7 = .ok (.invokevirtual 495, 3) := by decide +kernel
theorem dX13_crown_10 : decode cX13_crown 10 = .ok (.ifCond .eq 21, 3) := by decide +kernel
theorem dX13_crown_13 : decode cX13_crown 13 = .ok (.aload_n 0, 1) := by decide +kernel
theorem dX13_crown_14 : decode cX13_crown 14 = .ok (.iload_n 2, 1) := by decide +kernel
theorem dX13_crown_15 : decode cX13_crown 15 = .ok (.invokevirtual 353, 3) := by decide +kernel
theorem dX13_crown_18 : decode cX13_crown 18 = .ok (.ifCond .eq 13, 3) := by decide +kernel
theorem dX13_crown_21 : decode cX13_crown 21 = .ok (.aload_n 0, 1) := by decide +kernel
theorem dX13_crown_22 : decode cX13_crown 22 = .ok (.getfield 79, 3) := by decide +kernel
theorem dX13_crown_25 : decode cX13_crown 25 = .ok (.iload_n 2, 1) := by decide +kernel
theorem dX13_crown_26 : decode cX13_crown 26 = .ok (.iaload, 1) := by decide +kernel
theorem dX13_crown_27 : decode cX13_crown 27 = .ok (.iload_n 2, 1) := by decide +kernel
theorem dX13_crown_28 : decode cX13_crown 28 = .ok (.if_icmp .ge 7, 3) := by decide +kernel
theorem dX13_crown_31 : decode cX13_crown 31 = .ok (.ldc2_w 444, 3) := by decide +kernel
theorem dX13_crown_34 : decode cX13_crown 34 = .ok (.lreturn, 1) := by decide +kernel
theorem dX13_crown_35 : decode cX13_crown 35 = .ok (.iconst (-1), 1) := by decide +kernel
theorem dX13_crown_36 : decode cX13_crown 36 = .ok (.istore_n 3, 1) := by decide +kernel
theorem dX13_crown_37 : decode cX13_crown 37 = .ok (.iconst 0, 1) := by decide +kernel
theorem dX13_crown_38 : decode cX13_crown 38 = .ok (.istore 4, 2) := by decide +kernel
theorem dX13_crown_40 : decode cX13_crown 40 = .ok (.iload 4, 2) := by decide +kernel
theorem dX13_crown_42 : decode cX13_crown 42 = .ok (.aload_n 0, 1) := by decide +kernel
theorem dX13_crown_43 : decode cX13_crown 43 = .ok (.getfield 485, 3) := by decide +kernel
theorem dX13_crown_46 : decode cX13_crown 46 = .ok (.if_icmp .ge 104, 3) := by decide +kernel
theorem dX13_crown_49 : decode cX13_crown 49 = .ok (.aload_n 0, 1) := by decide +kernel
theorem dX13_crown_50 : decode cX13_crown 50 = .ok (.bipush 10, 2) := by decide +kernel
theorem dX13_crown_52 : decode cX13_crown 52 = .ok (.aload_n 0, 1) := by decide +kernel
theorem dX13_crown_53 : decode cX13_crown 53 = .ok (.getfield 100, 3) := by decide +kernel
theorem dX13_crown_56 : decode cX13_crown 56 = .ok (.iload 4, 2) := by decide +kernel
theorem dX13_crown_58 : decode cX13_crown 58 = .ok (.iaload, 1) := by decide +kernel
theorem dX13_crown_59 : decode cX13_crown 59 = .ok (.imul, 1) := by decide +kernel
theorem dX13_crown_60 : decode cX13_crown 60 = .ok (.aload_n 0, 1) := by decide +kernel
theorem dX13_crown_61 : decode cX13_crown 61 = .ok (.getfield 79, 3) := by decide +kernel
theorem dX13_crown_64 : decode cX13_crown 64 = .ok (.aload_n 0, 1) := by decide +kernel
theorem dX13_crown_65 : decode cX13_crown 65 = .ok (.getfield 100, 3) := by decide +kernel
theorem dX13_crown_68 : decode cX13_crown 68 = .ok (.iload 4, 2) := by decide +kernel
theorem dX13_crown_70 : decode cX13_crown 70 = .ok (.iaload, 1) := by decide +kernel
theorem dX13_crown_71 : decode cX13_crown 71 = .ok (.iaload, 1) := by decide +kernel
theorem dX13_crown_72 : decode cX13_crown 72 = .ok (.iadd, 1) := by decide +kernel
theorem dX13_crown_73 : decode cX13_crown 73 = .ok (.bipush 10, 2) := by decide +kernel
theorem dX13_crown_75 : decode cX13_crown 75 = .ok (.iload 4, 2) := by decide +kernel
theorem dX13_crown_77 : decode cX13_crown 77 = .ok (.aload_n 0, 1) := by decide +kernel
theorem dX13_crown_78 : decode cX13_crown 78 = .ok (.getfield 338, 3) := by decide +kernel
theorem dX13_crown_81 : decode cX13_crown 81 = .ok (.irem, 1) := by decide +kernel
theorem dX13_crown_82 : decode cX13_crown 82 = .ok (.imul, 1) := by decide +kernel
theorem dX13_crown_83 : decode cX13_crown 83 = .ok (.aload_n 0, 1) := by decide +kernel
theorem dX13_crown_84 : decode cX13_crown 84 = .ok (.getfield 91, 3) := by decide +kernel
theorem dX13_crown_87 : decode cX13_crown 87 = .ok (.invokevirtual 468, 3) := by decide +kernel
theorem dX13_crown_90 : decode cX13_crown 90 = .ok (.iconst 0, 1) := by decide +kernel
theorem dX13_crown_91 : decode cX13_crown 91 = .ok (.istore 5, 2) := by decide +kernel
theorem dX13_crown_93 : decode cX13_crown 93 = .ok (.iload 5, 2) := by decide +kernel
theorem dX13_crown_95 : decode cX13_crown 95 = .ok (.bipush 62, 2) := by decide +kernel
theorem dX13_crown_97 : decode cX13_crown 97 = .ok (.if_icmp .ge 29, 3) := by decide +kernel
theorem dX13_crown_100 : decode cX13_crown 100 = .ok (.aload_n 0, 1) := by decide +kernel
theorem dX13_crown_101 : decode cX13_crown 101 = .ok (.getfield 103, 3) := by decide +kernel
theorem dX13_crown_104 : decode cX13_crown 104 = .ok (.bipush 62, 2) := by decide +kernel
theorem dX13_crown_106 : decode cX13_crown 106 = .ok (.iload 4, 2) := by decide +kernel
theorem dX13_crown_108 : decode cX13_crown 108 = .ok (.imul, 1) := by decide +kernel
theorem dX13_crown_109 : decode cX13_crown 109 = .ok (.iload 5, 2) := by decide +kernel
theorem dX13_crown_111 : decode cX13_crown 111 = .ok (.iadd, 1) := by decide +kernel
theorem dX13_crown_112 : decode cX13_crown 112 = .ok (.aload_n 0, 1) := by decide +kernel
theorem dX13_crown_113 : decode cX13_crown 113 = .ok (.getfield 91, 3) := by decide +kernel
theorem dX13_crown_116 : decode cX13_crown 116 = .ok (.iload 5, 2) := by decide +kernel
theorem dX13_crown_118 : decode cX13_crown 118 = .ok (.iaload, 1) := by decide +kernel
theorem dX13_crown_119 : decode cX13_crown 119 = .ok (.iastore, 1) := by decide +kernel
theorem dX13_crown_120 : decode cX13_crown 120 = .ok (.iinc 5 1, 3) := by decide +kernel
theorem dX13_crown_123 : decode cX13_crown 123 = .ok (.goto (-30), 3) := by decide +kernel
theorem dX13_crown_126 : decode cX13_crown 126 = .ok (.aload_n 0, 1) := by decide +kernel
theorem dX13_crown_127 : decode cX13_crown 127 = .ok (.getfield 100, 3) := by decide +kernel
theorem dX13_crown_130 : decode cX13_crown 130 = .ok (.iload 4, 2) := by decide +kernel
theorem dX13_crown_132 : decode cX13_crown 132 = .ok (.iaload, 1) := by decide +kernel
theorem dX13_crown_133 : decode cX13_crown 133 = .ok (.iload_n 2, 1) := by decide +kernel
theorem dX13_crown_134 : decode cX13_crown 134 = .ok (.if_icmp .ne 8, 3) := by decide +kernel
theorem dX13_crown_137 : decode cX13_crown 137 = .ok (.iload 4, 2) := by decide +kernel
theorem dX13_crown_139 : decode cX13_crown 139 = .ok (.goto 4, 3) := by decide +kernel
theorem dX13_crown_142 : decode cX13_crown 142 = .ok (.iload_n 3, 1) := by decide +kernel
theorem dX13_crown_143 : decode cX13_crown 143 = .ok (.istore_n 3, 1) := by decide +kernel
theorem dX13_crown_144 : decode cX13_crown 144 = .ok (.iinc 4 1, 3) := by decide +kernel
theorem dX13_crown_147 : decode cX13_crown 147 = .ok (.goto (-107), 3) := by decide +kernel
theorem dX13_crown_150 : decode cX13_crown 150 = .ok (.lconst 0, 1) := by decide +kernel
theorem dX13_crown_151 : decode cX13_crown 151 = .ok (.lstore 4, 2) := by decide +kernel
theorem dX13_crown_153 : decode cX13_crown 153 = .ok (.iconst 0, 1) := by decide +kernel
theorem dX13_crown_154 : decode cX13_crown 154 = .ok (.istore 6, 2) := by decide +kernel
theorem dX13_crown_156 : decode cX13_crown 156 = .ok (.iload 6, 2) := by decide +kernel
theorem dX13_crown_158 : decode cX13_crown 158 = .ok (.bipush 60, 2) := by decide +kernel
theorem dX13_crown_160 : decode cX13_crown 160 = .ok (.if_icmp .gt 97, 3) := by decide +kernel
theorem dX13_crown_163 : decode cX13_crown 163 = .ok (.aload_n 0, 1) := by decide +kernel
theorem dX13_crown_164 : decode cX13_crown 164 = .ok (.getfield 103, 3) := by decide +kernel
theorem dX13_crown_167 : decode cX13_crown 167 = .ok (.bipush 62, 2) := by decide +kernel
theorem dX13_crown_169 : decode cX13_crown 169 = .ok (.iload_n 3, 1) := by decide +kernel
theorem dX13_crown_170 : decode cX13_crown 170 = .ok (.imul, 1) := by decide +kernel
theorem dX13_crown_171 : decode cX13_crown 171 = .ok (.iload 6, 2) := by decide +kernel
theorem dX13_crown_173 : decode cX13_crown 173 = .ok (.iadd, 1) := by decide +kernel
theorem dX13_crown_174 : decode cX13_crown 174 = .ok (.iaload, 1) := by decide +kernel
theorem dX13_crown_175 : decode cX13_crown 175 = .ok (.aload_n 0, 1) := by decide +kernel
theorem dX13_crown_176 : decode cX13_crown 176 = .ok (.getfield 103, 3) := by decide +kernel
theorem dX13_crown_179 : decode cX13_crown 179 = .ok (.bipush 62, 2) := by decide +kernel
theorem dX13_crown_181 : decode cX13_crown 181 = .ok (.iload_n 3, 1) := by decide +kernel
theorem dX13_crown_182 : decode cX13_crown 182 = .ok (.imul, 1) := by decide +kernel
theorem dX13_crown_183 : decode cX13_crown 183 = .ok (.iload 6, 2) := by decide +kernel
theorem dX13_crown_185 : decode cX13_crown 185 = .ok (.iadd, 1) := by decide +kernel
theorem dX13_crown_186 : decode cX13_crown 186 = .ok (.iconst 1, 1) := by decide +kernel
theorem dX13_crown_187 : decode cX13_crown 187 = .ok (.iadd, 1) := by decide +kernel
theorem dX13_crown_188 : decode cX13_crown 188 = .ok (.iaload, 1) := by decide +kernel
theorem dX13_crown_189 : decode cX13_crown 189 = .ok (.isub, 1) := by decide +kernel
theorem dX13_crown_190 : decode cX13_crown 190 = .ok (.i2l, 1) := by decide +kernel
theorem dX13_crown_191 : decode cX13_crown 191 = .ok (.lstore 7, 2) := by decide +kernel
theorem dX13_crown_193 : decode cX13_crown 193 = .ok (.iconst 0, 1) := by decide +kernel
theorem dX13_crown_194 : decode cX13_crown 194 = .ok (.istore 9, 2) := by decide +kernel
theorem dX13_crown_196 : decode cX13_crown 196 = .ok (.iload 9, 2) := by decide +kernel
theorem dX13_crown_198 : decode cX13_crown 198 = .ok (.aload_n 0, 1) := by decide +kernel
theorem dX13_crown_199 : decode cX13_crown 199 = .ok (.getfield 485, 3) := by decide +kernel
theorem dX13_crown_202 : decode cX13_crown 202 = .ok (.if_icmp .ge 42, 3) := by decide +kernel
theorem dX13_crown_205 : decode cX13_crown 205 = .ok (.iload 9, 2) := by decide +kernel
theorem dX13_crown_207 : decode cX13_crown 207 = .ok (.iload_n 3, 1) := by decide +kernel
theorem dX13_crown_208 : decode cX13_crown 208 = .ok (.if_icmp .eq 30, 3) := by decide +kernel
theorem dX13_crown_211 : decode cX13_crown 211 = .ok (.lload 7, 2) := by decide +kernel
theorem dX13_crown_213 : decode cX13_crown 213 = .ok (.ldc_w 429, 3) := by decide +kernel
theorem dX13_crown_216 : decode cX13_crown 216 = .ok (.aload_n 0, 1) := by decide +kernel
theorem dX13_crown_217 : decode cX13_crown 217 = .ok (.getfield 103, 3) := by decide +kernel
theorem dX13_crown_220 : decode cX13_crown 220 = .ok (.bipush 62, 2) := by decide +kernel
theorem dX13_crown_222 : decode cX13_crown 222 = .ok (.iload 9, 2) := by decide +kernel
theorem dX13_crown_224 : decode cX13_crown 224 = .ok (.imul, 1) := by decide +kernel
theorem dX13_crown_225 : decode cX13_crown 225 = .ok (.iload 6, 2) := by decide +kernel
theorem dX13_crown_227 : decode cX13_crown 227 = .ok (.iadd, 1) := by decide +kernel
theorem dX13_crown_228 : decode cX13_crown 228 = .ok (.iaload, 1) := by decide +kernel
theorem dX13_crown_229 : decode cX13_crown 229 = .ok (.isub, 1) := by decide +kernel
theorem dX13_crown_230 : decode cX13_crown 230 = .ok (.i2l, 1) := by decide +kernel
theorem dX13_crown_231 : decode cX13_crown 231 = .ok (.lmul, 1) := by decide +kernel
theorem dX13_crown_232 : decode cX13_crown 232 = .ok (.ldc2_w 472, 3) := by decide +kernel
theorem dX13_crown_235 : decode cX13_crown 235 = .ok (.ldiv, 1) := by decide +kernel
theorem dX13_crown_236 : decode cX13_crown 236 = .ok (.lstore 7, 2) := by decide +kernel
theorem dX13_crown_238 : decode cX13_crown 238 = .ok (.iinc 9 1, 3) := by decide +kernel
theorem dX13_crown_241 : decode cX13_crown 241 = .ok (.goto (-45), 3) := by decide +kernel
theorem dX13_crown_244 : decode cX13_crown 244 = .ok (.lload 4, 2) := by decide +kernel
theorem dX13_crown_246 : decode cX13_crown 246 = .ok (.lload 7, 2) := by decide +kernel
theorem dX13_crown_248 : decode cX13_crown 248 = .ok (.ladd, 1) := by decide +kernel
theorem dX13_crown_249 : decode cX13_crown 249 = .ok (.lstore 4, 2) := by decide +kernel
theorem dX13_crown_251 : decode cX13_crown 251 = .ok (.iinc 6 1, 3) := by decide +kernel
theorem dX13_crown_254 : decode cX13_crown 254 = .ok (.goto (-98), 3) := by decide +kernel
theorem dX13_crown_257 : decode cX13_crown 257 = .ok (.lload 4, 2) := by decide +kernel
theorem dX13_crown_259 : decode cX13_crown 259 = .ok (.lreturn, 1) := by decide +kernel
def fX13_crown_L93 : Nat → eg_H → Nat → Int32 → Int32 → Int32 → Int32 → Option (Nat × Int32 × Int32 × Int32 × eg_H)
  | 0, _, _, _, _, _, _ => none
  | n + 1, h, l0, l2, l3, l4, l5 =>
    if (62 : Int32) ≤ l5 then
      (some (l0, l2, l3, l4, h))
    else
      (eg_gR h 13 56 l0).bind fun p2 =>
      (eg_gR h 13 50 l0).bind fun p4 =>
      (eg_aI h 100 p4 l5).bind fun v6 =>
      (eg_wI h 100 p2 (((62 : Int32) * l4) + l5) v6).bind fun h8 =>
      fX13_crown_L93 n h8 l0 l2 l3 l4 (l5 + (1 : Int32))
set_option maxRecDepth 20000 in
theorem fX13_crown_L93_ok {h0 : eg_H} {Z : eg_C → State → Prop} {N S : Nat} : ∀ (n : Nat) (h : eg_H) (l0 : Nat) (l2 : Int32) (l3 : Int32) (l4 : Int32) (l5 : Int32) (eE : Nat × Int32 × Int32 × Int32 × eg_H), fX13_crown_L93 n h l0 l2 l3 l4 l5 = some eE → (hk0 : ∀ (l0 : Nat) (l2 : Int32) (l3 : Int32) (l4 : Int32) (h : eg_H), eE = (l0, l2, l3, l4, h) → eg_AW (RX13, cX13_crown, 10, 400, none, "crown", (some .long)) Z N S h0 126 [(0, .ref l0), (2, .int l2), (3, .int l3), (4, .int l4)] [] h) → eg_AW (RX13, cX13_crown, 10, 400, none, "crown", (some .long)) Z N S h0 93 [(0, .ref l0), (2, .int l2), (3, .int l3), (4, .int l4), (5, .int l5)] [] h := by
  intro n
  induction n with
  | zero => intro h l0 l2 l3 l4 l5 eE hF; exact absurd hF (by intro q; cases q)
  | succ n ih =>
    intro h l0 l2 l3 l4 l5 eE hF hk0
    have hrec := fun (h' : eg_H) (l0 : Nat) (l2 : Int32) (l3 : Int32) (l4 : Int32) (l5 : Int32) hq => ih h' l0 l2 l3 l4 l5 eE hq hk0
    refine eg_iload (i := 5) 4 dX13_crown_93 rfl ?_
    refine eg_bipush (v := (62 : Int32)) dX13_crown_95 (by decide) ?_
    refine eg_ic_ge 126 dX13_crown_97 rfl (fun c1 => ?_) (fun c1 => ?_)
    · replace hF := eg_it c1 hF
      exact eg_sub [0, 1, 2, 3] [(0, .ref l0), (2, .int l2), (3, .int l3), (4, .int l4)] rfl (hk0 l0 l2 l3 l4 h (Option.some.inj hF).symm)
    · replace hF := eg_if c1 hF
      refine eg_aload_n (i := 0) 0 dX13_crown_100 rfl rfl ?_
      replace hF := eg_bind hF; obtain ⟨p2, e3, hF⟩ := hF
      refine eg_getR dX13_crown_101 e3 (Nat.le_of_ble_eq_true rfl) (Nat.le_of_ble_eq_true rfl) rfl ew_1490 ?_
      refine eg_bipush (v := (62 : Int32)) dX13_crown_104 (by decide) ?_
      refine eg_iload (i := 4) 3 dX13_crown_106 rfl ?_
      refine eg_imul dX13_crown_108 ?_
      refine eg_iload (i := 5) 4 dX13_crown_109 rfl ?_
      refine eg_iadd dX13_crown_111 ?_
      refine eg_aload_n (i := 0) 0 dX13_crown_112 rfl rfl ?_
      replace hF := eg_bind hF; obtain ⟨p4, e5, hF⟩ := hF
      refine eg_getR dX13_crown_113 e5 (Nat.le_of_ble_eq_true rfl) (Nat.le_of_ble_eq_true rfl) rfl ew_1484 ?_
      refine eg_iload (i := 5) 4 dX13_crown_116 rfl ?_
      replace hF := eg_bind hF; obtain ⟨v6, e7, hF⟩ := hF
      refine eg_iald dX13_crown_118 e7 ?_
      replace hF := eg_bind hF; obtain ⟨h8, e9, hF⟩ := hF
      refine eg_iast dX13_crown_119 e9 ?_
      refine eg_iinc (i := 5) (v := (l5 + (1 : Int32))) 4 [(5, .int (l5 + (1 : Int32))), (0, .ref l0), (2, .int l2), (3, .int l3), (4, .int l4)] dX13_crown_120 rfl rfl (Nat.le_of_ble_eq_true rfl) rfl ?_
      refine eg_goto 93 dX13_crown_123 rfl ?_
      exact eg_sub [1, 2, 3, 4, 0] [(0, .ref l0), (2, .int l2), (3, .int l3), (4, .int l4), (5, .int (l5 + (1 : Int32)))] rfl (hrec h8 l0 l2 l3 l4 (l5 + (1 : Int32)) hF)
def fX13_crown_L40 : Nat → eg_H → Nat → Int32 → Int32 → Int32 → Option (Nat × Int32 × eg_H)
  | 0, _, _, _, _, _ => none
  | n + 1, h, l0, l2, l3, l4 =>
    (eg_gI h 13 54 l0).bind fun v1 =>
    if v1 ≤ l4 then
      (some (l0, l3, h))
    else
      (eg_gR h 13 53 l0).bind fun p4 =>
      (eg_aI h 100 p4 l4).bind fun v6 =>
      (eg_gR h 13 43 l0).bind fun p8 =>
      (eg_gR h 13 53 l0).bind fun p10 =>
      (eg_aI h 100 p10 l4).bind fun v12 =>
      (eg_aI h 100 p8 v12).bind fun v14 =>
      (eg_gI h 13 26 l0).bind fun v16 =>
      if v16 = 0 then none else
      (eg_gR h 13 50 l0).bind fun p19 =>
      (fX13_layComes h l0 (((10 : Int32) * v6) + v14) ((10 : Int32) * (l4 % v16)) p19).bind fun h21 =>
      (fX13_crown_L93 eg_F h21 l0 l2 l3 l4 (0 : Int32)).bind fun e =>
      match e with
      | (p25, v26, v27, v28, h29) =>
        (eg_gR h29 13 53 p25).bind fun p30 =>
        (eg_aI h29 100 p30 v28).bind fun v32 =>
        if v32 = v26 then
          (fX13_crown_L40 n h29 p25 v26 v28 (v28 + (1 : Int32)))
        else
          fX13_crown_L40 n h29 p25 v26 v27 (v28 + (1 : Int32))
set_option maxRecDepth 20000 in
theorem fX13_crown_L40_ok {h0 : eg_H} {Z : eg_C → State → Prop} {N S : Nat} : ∀ (n : Nat) (h : eg_H) (l0 : Nat) (l2 : Int32) (l3 : Int32) (l4 : Int32) (eE : Nat × Int32 × eg_H), fX13_crown_L40 n h l0 l2 l3 l4 = some eE → (hk0 : ∀ (l0 : Nat) (l3 : Int32) (h : eg_H), eE = (l0, l3, h) → eg_AW (RX13, cX13_crown, 10, 400, none, "crown", (some .long)) Z N S h0 150 [(0, .ref l0), (3, .int l3)] [] h) → eg_AW (RX13, cX13_crown, 10, 400, none, "crown", (some .long)) Z N S h0 40 [(0, .ref l0), (2, .int l2), (3, .int l3), (4, .int l4)] [] h := by
  intro n
  induction n with
  | zero => intro h l0 l2 l3 l4 eE hF; exact absurd hF (by intro q; cases q)
  | succ n ih =>
    intro h l0 l2 l3 l4 eE hF hk0
    have hrec := fun (h' : eg_H) (l0 : Nat) (l2 : Int32) (l3 : Int32) (l4 : Int32) hq => ih h' l0 l2 l3 l4 eE hq hk0
    refine eg_iload (i := 4) 3 dX13_crown_40 rfl ?_
    refine eg_aload_n (i := 0) 0 dX13_crown_42 rfl rfl ?_
    replace hF := eg_bind hF; obtain ⟨v1, e2, hF⟩ := hF
    refine eg_getI dX13_crown_43 e2 (Nat.le_of_ble_eq_true rfl) (Nat.le_of_ble_eq_true rfl) rfl ew_1488 ?_
    refine eg_ic_ge 150 dX13_crown_46 rfl (fun c3 => ?_) (fun c3 => ?_)
    · replace hF := eg_it c3 hF
      exact eg_sub [0, 2] [(0, .ref l0), (3, .int l3)] rfl (hk0 l0 l3 h (Option.some.inj hF).symm)
    · replace hF := eg_if c3 hF
      refine eg_aload_n (i := 0) 0 dX13_crown_49 rfl rfl ?_
      refine eg_bipush (v := (10 : Int32)) dX13_crown_50 (by decide) ?_
      refine eg_aload_n (i := 0) 0 dX13_crown_52 rfl rfl ?_
      replace hF := eg_bind hF; obtain ⟨p4, e5, hF⟩ := hF
      refine eg_getR dX13_crown_53 e5 (Nat.le_of_ble_eq_true rfl) (Nat.le_of_ble_eq_true rfl) rfl ew_1487 ?_
      refine eg_iload (i := 4) 3 dX13_crown_56 rfl ?_
      replace hF := eg_bind hF; obtain ⟨v6, e7, hF⟩ := hF
      refine eg_iald dX13_crown_58 e7 ?_
      refine eg_imul dX13_crown_59 ?_
      refine eg_aload_n (i := 0) 0 dX13_crown_60 rfl rfl ?_
      replace hF := eg_bind hF; obtain ⟨p8, e9, hF⟩ := hF
      refine eg_getR dX13_crown_61 e9 (Nat.le_of_ble_eq_true rfl) (Nat.le_of_ble_eq_true rfl) rfl ew_1477 ?_
      refine eg_aload_n (i := 0) 0 dX13_crown_64 rfl rfl ?_
      replace hF := eg_bind hF; obtain ⟨p10, e11, hF⟩ := hF
      refine eg_getR dX13_crown_65 e11 (Nat.le_of_ble_eq_true rfl) (Nat.le_of_ble_eq_true rfl) rfl ew_1487 ?_
      refine eg_iload (i := 4) 3 dX13_crown_68 rfl ?_
      replace hF := eg_bind hF; obtain ⟨v12, e13, hF⟩ := hF
      refine eg_iald dX13_crown_70 e13 ?_
      replace hF := eg_bind hF; obtain ⟨v14, e15, hF⟩ := hF
      refine eg_iald dX13_crown_71 e15 ?_
      refine eg_iadd dX13_crown_72 ?_
      refine eg_bipush (v := (10 : Int32)) dX13_crown_73 (by decide) ?_
      refine eg_iload (i := 4) 3 dX13_crown_75 rfl ?_
      refine eg_aload_n (i := 0) 0 dX13_crown_77 rfl rfl ?_
      replace hF := eg_bind hF; obtain ⟨v16, e17, hF⟩ := hF
      refine eg_getI dX13_crown_78 e17 (Nat.le_of_ble_eq_true rfl) (Nat.le_of_ble_eq_true rfl) rfl ew_1460 ?_
      replace hF := eg_nif hF; obtain ⟨c18, hF⟩ := hF
      refine eg_irem dX13_crown_81 c18 ?_
      refine eg_imul dX13_crown_82 ?_
      refine eg_aload_n (i := 0) 0 dX13_crown_83 rfl rfl ?_
      replace hF := eg_bind hF; obtain ⟨p19, e20, hF⟩ := hF
      refine eg_getR dX13_crown_84 e20 (Nat.le_of_ble_eq_true rfl) (Nat.le_of_ble_eq_true rfl) rfl ew_1484 ?_
      replace hF := eg_bind hF; obtain ⟨h21, e22, hF⟩ := hF
      refine eg_callV (c := 13) (n := 3) [.int (((10 : Int32) * v6) + v14), .int ((10 : Int32) * (l4 % v16)), .ref p19] dX13_crown_87 (mX13_layComes e22) rfl (fX13_layComes_O e22) (Nat.le_of_ble_eq_true rfl) rfl ew_2037 ew_2039 ew_89 ew_110 ew_2040 hy_X13_layComes rfl (Nat.le_of_ble_eq_true rfl) (Nat.le_of_ble_eq_true rfl) (Nat.le_of_ble_eq_true rfl) ?_
      refine eg_iconst (v := (0 : Int32)) dX13_crown_90 (by decide) ?_
      refine eg_istore (i := 5) [(5, .int (0 : Int32)), (0, .ref l0), (2, .int l2), (3, .int l3), (4, .int l4)] dX13_crown_91 (Nat.le_of_ble_eq_true rfl) rfl ?_
      replace hF := eg_bind hF; obtain ⟨x24, e23, hF⟩ := hF
      refine eg_sub [1, 2, 3, 4, 0] [(0, .ref l0), (2, .int l2), (3, .int l3), (4, .int l4), (5, .int (0 : Int32))] rfl (fX13_crown_L93_ok eg_F h21 l0 l2 l3 l4 (0 : Int32) x24 e23 ?_)
      · intro p25 v26 v27 v28 h29 e35
        subst e35
        refine eg_aload_n (i := 0) 0 dX13_crown_126 rfl rfl ?_
        replace hF := eg_bind hF; obtain ⟨p30, e31, hF⟩ := hF
        refine eg_getR dX13_crown_127 e31 (Nat.le_of_ble_eq_true rfl) (Nat.le_of_ble_eq_true rfl) rfl ew_1487 ?_
        refine eg_iload (i := 4) 3 dX13_crown_130 rfl ?_
        replace hF := eg_bind hF; obtain ⟨v32, e33, hF⟩ := hF
        refine eg_iald dX13_crown_132 e33 ?_
        refine eg_iload_n (i := 2) 1 dX13_crown_133 rfl rfl ?_
        refine eg_ic_ne 142 dX13_crown_134 rfl (fun c34 => ?_) (fun c34 => ?_)
        · replace hF := eg_it c34 hF
          refine eg_iload (i := 4) 3 dX13_crown_137 rfl ?_
          refine eg_goto 143 dX13_crown_139 rfl ?_
          refine eg_istore_n (i := 3) [(3, .int v28), (0, .ref p25), (2, .int v26), (4, .int v28)] dX13_crown_143 rfl (Nat.le_of_ble_eq_true rfl) rfl ?_
          refine eg_iinc (i := 4) (v := (v28 + (1 : Int32))) 3 [(4, .int (v28 + (1 : Int32))), (3, .int v28), (0, .ref p25), (2, .int v26)] dX13_crown_144 rfl rfl (Nat.le_of_ble_eq_true rfl) rfl ?_
          refine eg_goto 40 dX13_crown_147 rfl ?_
          exact eg_sub [2, 3, 1, 0] [(0, .ref p25), (2, .int v26), (3, .int v28), (4, .int (v28 + (1 : Int32)))] rfl (hrec h29 p25 v26 v28 (v28 + (1 : Int32)) hF)
        · replace hF := eg_if c34 hF
          refine eg_iload_n (i := 3) 2 dX13_crown_142 rfl rfl ?_
          refine eg_istore_n (i := 3) [(3, .int v27), (0, .ref p25), (2, .int v26), (4, .int v28)] dX13_crown_143 rfl (Nat.le_of_ble_eq_true rfl) rfl ?_
          refine eg_iinc (i := 4) (v := (v28 + (1 : Int32))) 3 [(4, .int (v28 + (1 : Int32))), (3, .int v27), (0, .ref p25), (2, .int v26)] dX13_crown_144 rfl rfl (Nat.le_of_ble_eq_true rfl) rfl ?_
          refine eg_goto 40 dX13_crown_147 rfl ?_
          exact eg_sub [2, 3, 1, 0] [(0, .ref p25), (2, .int v26), (3, .int v27), (4, .int (v28 + (1 : Int32)))] rfl (hrec h29 p25 v26 v27 (v28 + (1 : Int32)) hF)
def fX13_crown_L196 : Nat → eg_H → Nat → Int32 → Int64 → Int32 → Int64 → Int32 → Option (Nat × Int32 × Int64 × Int32 × Int64 × eg_H)
  | 0, _, _, _, _, _, _, _ => none
  | n + 1, h, l0, l3, l4, l6, l7, l9 =>
    (eg_gI h 13 54 l0).bind fun v1 =>
    if v1 ≤ l9 then
      (some (l0, l3, l4, l6, l7, h))
    else
      if l9 = l3 then
        (fX13_crown_L196 n h l0 l3 l4 l6 l7 (l9 + (1 : Int32)))
      else
        (eg_gR h 13 56 l0).bind fun p5 =>
        (eg_aI h 100 p5 (((62 : Int32) * l9) + l6)).bind fun v7 =>
        (some (((l7 * ((1000000000 : Int32) - v7).toInt64) / (1000000000 : Int64)))).bind fun v9 =>
        fX13_crown_L196 n h l0 l3 l4 l6 v9 (l9 + (1 : Int32))
set_option maxRecDepth 20000 in
theorem fX13_crown_L196_ok {h0 : eg_H} {Z : eg_C → State → Prop} {N S : Nat} : ∀ (n : Nat) (h : eg_H) (l0 : Nat) (l3 : Int32) (l4 : Int64) (l6 : Int32) (l7 : Int64) (l9 : Int32) (eE : Nat × Int32 × Int64 × Int32 × Int64 × eg_H), fX13_crown_L196 n h l0 l3 l4 l6 l7 l9 = some eE → (hk0 : ∀ (l0 : Nat) (l3 : Int32) (l4 : Int64) (l6 : Int32) (l7 : Int64) (h : eg_H), eE = (l0, l3, l4, l6, l7, h) → eg_AW (RX13, cX13_crown, 10, 400, none, "crown", (some .long)) Z N S h0 244 [(0, .ref l0), (3, .int l3), (4, .long l4), (6, .int l6), (7, .long l7)] [] h) → eg_AW (RX13, cX13_crown, 10, 400, none, "crown", (some .long)) Z N S h0 196 [(0, .ref l0), (3, .int l3), (4, .long l4), (6, .int l6), (7, .long l7), (9, .int l9)] [] h := by
  intro n
  induction n with
  | zero => intro h l0 l3 l4 l6 l7 l9 eE hF; exact absurd hF (by intro q; cases q)
  | succ n ih =>
    intro h l0 l3 l4 l6 l7 l9 eE hF hk0
    have hrec := fun (h' : eg_H) (l0 : Nat) (l3 : Int32) (l4 : Int64) (l6 : Int32) (l7 : Int64) (l9 : Int32) hq => ih h' l0 l3 l4 l6 l7 l9 eE hq hk0
    refine eg_iload (i := 9) 5 dX13_crown_196 rfl ?_
    refine eg_aload_n (i := 0) 0 dX13_crown_198 rfl rfl ?_
    replace hF := eg_bind hF; obtain ⟨v1, e2, hF⟩ := hF
    refine eg_getI dX13_crown_199 e2 (Nat.le_of_ble_eq_true rfl) (Nat.le_of_ble_eq_true rfl) rfl ew_1488 ?_
    refine eg_ic_ge 244 dX13_crown_202 rfl (fun c3 => ?_) (fun c3 => ?_)
    · replace hF := eg_it c3 hF
      exact eg_sub [0, 1, 2, 3, 4] [(0, .ref l0), (3, .int l3), (4, .long l4), (6, .int l6), (7, .long l7)] rfl (hk0 l0 l3 l4 l6 l7 h (Option.some.inj hF).symm)
    · replace hF := eg_if c3 hF
      refine eg_iload (i := 9) 5 dX13_crown_205 rfl ?_
      refine eg_iload_n (i := 3) 1 dX13_crown_207 rfl rfl ?_
      refine eg_ic_eq 238 dX13_crown_208 rfl (fun c4 => ?_) (fun c4 => ?_)
      · replace hF := eg_it c4 hF
        refine eg_iinc (i := 9) (v := (l9 + (1 : Int32))) 5 [(9, .int (l9 + (1 : Int32))), (0, .ref l0), (3, .int l3), (4, .long l4), (6, .int l6), (7, .long l7)] dX13_crown_238 rfl rfl (Nat.le_of_ble_eq_true rfl) rfl ?_
        refine eg_goto 196 dX13_crown_241 rfl ?_
        exact eg_sub [1, 2, 3, 4, 5, 0] [(0, .ref l0), (3, .int l3), (4, .long l4), (6, .int l6), (7, .long l7), (9, .int (l9 + (1 : Int32)))] rfl (hrec h l0 l3 l4 l6 l7 (l9 + (1 : Int32)) hF)
      · replace hF := eg_if c4 hF
        refine eg_lload (i := 7) 4 dX13_crown_211 rfl ?_
        refine eg_ldcw (v := (1000000000 : Int32)) dX13_crown_213 ew_1977 ?_
        refine eg_aload_n (i := 0) 0 dX13_crown_216 rfl rfl ?_
        replace hF := eg_bind hF; obtain ⟨p5, e6, hF⟩ := hF
        refine eg_getR dX13_crown_217 e6 (Nat.le_of_ble_eq_true rfl) (Nat.le_of_ble_eq_true rfl) rfl ew_1490 ?_
        refine eg_bipush (v := (62 : Int32)) dX13_crown_220 (by decide) ?_
        refine eg_iload (i := 9) 5 dX13_crown_222 rfl ?_
        refine eg_imul dX13_crown_224 ?_
        refine eg_iload (i := 6) 3 dX13_crown_225 rfl ?_
        refine eg_iadd dX13_crown_227 ?_
        replace hF := eg_bind hF; obtain ⟨v7, e8, hF⟩ := hF
        refine eg_iald dX13_crown_228 e8 ?_
        refine eg_isub dX13_crown_229 ?_
        refine eg_i2l dX13_crown_230 ?_
        refine eg_lmul dX13_crown_231 ?_
        refine eg_ldc2 (v := (1000000000 : Int64)) dX13_crown_232 ew_2041 ?_
        refine eg_ldiv dX13_crown_235 (by decide) ?_
        replace hF := eg_bind hF; obtain ⟨v9, e10, hF⟩ := hF
        replace e10 := Option.some.inj e10
        rw [e10]
        refine eg_lstore (i := 7) [(7, .long v9), (0, .ref l0), (3, .int l3), (4, .long l4), (6, .int l6), (9, .int l9)] dX13_crown_236 (Nat.le_of_ble_eq_true rfl) rfl ?_
        refine eg_iinc (i := 9) (v := (l9 + (1 : Int32))) 5 [(9, .int (l9 + (1 : Int32))), (7, .long v9), (0, .ref l0), (3, .int l3), (4, .long l4), (6, .int l6)] dX13_crown_238 rfl rfl (Nat.le_of_ble_eq_true rfl) rfl ?_
        refine eg_goto 196 dX13_crown_241 rfl ?_
        exact eg_sub [2, 3, 4, 5, 1, 0] [(0, .ref l0), (3, .int l3), (4, .long l4), (6, .int l6), (7, .long v9), (9, .int (l9 + (1 : Int32)))] rfl (hrec h l0 l3 l4 l6 v9 (l9 + (1 : Int32)) hF)
def fX13_crown_L156 : Nat → eg_H → Nat → Int32 → Int64 → Int32 → Option (Int64 × eg_H)
  | 0, _, _, _, _, _ => none
  | n + 1, h, l0, l3, l4, l6 =>
    if (60 : Int32) < l6 then
      (some (l4, h))
    else
      (eg_gR h 13 56 l0).bind fun p2 =>
      (eg_aI h 100 p2 (((62 : Int32) * l3) + l6)).bind fun v4 =>
      (eg_gR h 13 56 l0).bind fun p6 =>
      (eg_aI h 100 p6 ((((62 : Int32) * l3) + l6) + (1 : Int32))).bind fun v8 =>
      (some ((v4 - v8).toInt64)).bind fun v10 =>
      (fX13_crown_L196 eg_F h l0 l3 l4 l6 v10 (0 : Int32)).bind fun e =>
      match e with
      | (p14, v15, v16, v17, v18, h19) =>
        (some ((v16 + v18))).bind fun v20 =>
        fX13_crown_L156 n h19 p14 v15 v20 (v17 + (1 : Int32))
set_option maxRecDepth 20000 in
theorem fX13_crown_L156_ok {h0 : eg_H} {Z : eg_C → State → Prop} {N S : Nat} : ∀ (n : Nat) (h : eg_H) (l0 : Nat) (l3 : Int32) (l4 : Int64) (l6 : Int32) (eE : Int64 × eg_H), fX13_crown_L156 n h l0 l3 l4 l6 = some eE → (hk0 : ∀ (l4 : Int64) (h : eg_H), eE = (l4, h) → eg_AW (RX13, cX13_crown, 10, 400, none, "crown", (some .long)) Z N S h0 257 [(4, .long l4)] [] h) → eg_AW (RX13, cX13_crown, 10, 400, none, "crown", (some .long)) Z N S h0 156 [(0, .ref l0), (3, .int l3), (4, .long l4), (6, .int l6)] [] h := by
  intro n
  induction n with
  | zero => intro h l0 l3 l4 l6 eE hF; exact absurd hF (by intro q; cases q)
  | succ n ih =>
    intro h l0 l3 l4 l6 eE hF hk0
    have hrec := fun (h' : eg_H) (l0 : Nat) (l3 : Int32) (l4 : Int64) (l6 : Int32) hq => ih h' l0 l3 l4 l6 eE hq hk0
    refine eg_iload (i := 6) 3 dX13_crown_156 rfl ?_
    refine eg_bipush (v := (60 : Int32)) dX13_crown_158 (by decide) ?_
    refine eg_ic_gt 257 dX13_crown_160 rfl (fun c1 => ?_) (fun c1 => ?_)
    · replace hF := eg_it c1 hF
      exact eg_sub [2] [(4, .long l4)] rfl (hk0 l4 h (Option.some.inj hF).symm)
    · replace hF := eg_if c1 hF
      refine eg_aload_n (i := 0) 0 dX13_crown_163 rfl rfl ?_
      replace hF := eg_bind hF; obtain ⟨p2, e3, hF⟩ := hF
      refine eg_getR dX13_crown_164 e3 (Nat.le_of_ble_eq_true rfl) (Nat.le_of_ble_eq_true rfl) rfl ew_1490 ?_
      refine eg_bipush (v := (62 : Int32)) dX13_crown_167 (by decide) ?_
      refine eg_iload_n (i := 3) 1 dX13_crown_169 rfl rfl ?_
      refine eg_imul dX13_crown_170 ?_
      refine eg_iload (i := 6) 3 dX13_crown_171 rfl ?_
      refine eg_iadd dX13_crown_173 ?_
      replace hF := eg_bind hF; obtain ⟨v4, e5, hF⟩ := hF
      refine eg_iald dX13_crown_174 e5 ?_
      refine eg_aload_n (i := 0) 0 dX13_crown_175 rfl rfl ?_
      replace hF := eg_bind hF; obtain ⟨p6, e7, hF⟩ := hF
      refine eg_getR dX13_crown_176 e7 (Nat.le_of_ble_eq_true rfl) (Nat.le_of_ble_eq_true rfl) rfl ew_1490 ?_
      refine eg_bipush (v := (62 : Int32)) dX13_crown_179 (by decide) ?_
      refine eg_iload_n (i := 3) 1 dX13_crown_181 rfl rfl ?_
      refine eg_imul dX13_crown_182 ?_
      refine eg_iload (i := 6) 3 dX13_crown_183 rfl ?_
      refine eg_iadd dX13_crown_185 ?_
      refine eg_iconst (v := (1 : Int32)) dX13_crown_186 (by decide) ?_
      refine eg_iadd dX13_crown_187 ?_
      replace hF := eg_bind hF; obtain ⟨v8, e9, hF⟩ := hF
      refine eg_iald dX13_crown_188 e9 ?_
      refine eg_isub dX13_crown_189 ?_
      refine eg_i2l dX13_crown_190 ?_
      replace hF := eg_bind hF; obtain ⟨v10, e11, hF⟩ := hF
      replace e11 := Option.some.inj e11
      rw [e11]
      refine eg_lstore (i := 7) [(7, .long v10), (0, .ref l0), (3, .int l3), (4, .long l4), (6, .int l6)] dX13_crown_191 (Nat.le_of_ble_eq_true rfl) rfl ?_
      refine eg_iconst (v := (0 : Int32)) dX13_crown_193 (by decide) ?_
      refine eg_istore (i := 9) [(9, .int (0 : Int32)), (7, .long v10), (0, .ref l0), (3, .int l3), (4, .long l4), (6, .int l6)] dX13_crown_194 (Nat.le_of_ble_eq_true rfl) rfl ?_
      replace hF := eg_bind hF; obtain ⟨x13, e12, hF⟩ := hF
      refine eg_sub [2, 3, 4, 5, 1, 0] [(0, .ref l0), (3, .int l3), (4, .long l4), (6, .int l6), (7, .long v10), (9, .int (0 : Int32))] rfl (fX13_crown_L196_ok eg_F h l0 l3 l4 l6 v10 (0 : Int32) x13 e12 ?_)
      · intro p14 v15 v16 v17 v18 h19 e22
        subst e22
        refine eg_lload (i := 4) 2 dX13_crown_244 rfl ?_
        refine eg_lload (i := 7) 4 dX13_crown_246 rfl ?_
        refine eg_ladd dX13_crown_248 ?_
        replace hF := eg_bind hF; obtain ⟨v20, e21, hF⟩ := hF
        replace e21 := Option.some.inj e21
        rw [e21]
        refine eg_lstore (i := 4) [(4, .long v20), (0, .ref p14), (3, .int v15), (6, .int v17), (7, .long v18)] dX13_crown_249 (Nat.le_of_ble_eq_true rfl) rfl ?_
        refine eg_iinc (i := 6) (v := (v17 + (1 : Int32))) 3 [(6, .int (v17 + (1 : Int32))), (4, .long v20), (0, .ref p14), (3, .int v15), (7, .long v18)] dX13_crown_251 rfl rfl (Nat.le_of_ble_eq_true rfl) rfl ?_
        refine eg_goto 156 dX13_crown_254 rfl ?_
        exact eg_sub [2, 3, 1, 0] [(0, .ref p14), (3, .int v15), (4, .long v20), (6, .int (v17 + (1 : Int32)))] rfl (hrec h19 p14 v15 v20 (v17 + (1 : Int32)) hF)
def fX13_crown (h : eg_H) (l0 : Nat) (l1 : Int32) (l2 : Int32) : Option (Int64 × eg_H) :=
  if eg_isO h 13 l0 then (
    (eg_pI h 13 0 l0 (0 : Int32)).bind fun h1 =>
    (fX13_layPairs h1 l0 l1).bind fun ⟨v4, h3⟩ =>
    if v4 = 0 then
      (some ((-1 : Int64), h3))
    else
      (fX13_isPerson h3 l0 l2).bind fun ⟨v8, h7⟩ =>
      if v8 = 0 then
        (some ((-1 : Int64), h7))
      else
        (eg_gR h7 13 43 l0).bind fun p11 =>
        (eg_aI h7 100 p11 l2).bind fun v13 =>
        if l2 ≤ v13 then
          ((fX13_crown_L40 eg_F h7 l0 l2 (-1 : Int32) (0 : Int32)).bind fun e =>
          match e with
          | (p18, v19, h20) =>
            (fX13_crown_L156 eg_F h20 p18 v19 (0 : Int64) (0 : Int32)).bind fun e =>
            match e with
            | (v23, h24) =>
              some (v23, h24))
        else
          some ((-1 : Int64), h7)) else none
theorem fX13_crown_O {h : eg_H} {l0 : Nat} {l1 : Int32} {l2 : Int32} {rE : Int64} {hE : eg_H} (hF : fX13_crown h l0 l1 l2 = some (rE, hE)) : eg_isO h 13 l0 := (eg_ifn hF).1
set_option maxRecDepth 20000 in
theorem mX13_crown {h : eg_H} {l0 : Nat} {l1 : Int32} {l2 : Int32} {rE : Int64} {hE : eg_H} (hF : fX13_crown h l0 l1 l2 = some (rE, hE)) : eg_Met yX13_crown cX13_crown 10 (some .long) 400 [.ref l0, .int l1, .int l2] h (some (.long rE)) hE := by
  refine eg_enter rfl (Nat.le_of_ble_eq_true rfl) ?_
  show eg_AW (RX13, cX13_crown, 10, 400, none, "crown", (some .long)) (eg_Zm (some (.long rE)) hE h) (eg_nc hE) (eg_ns hE) h 0 [(0, .ref l0), (1, .int l1), (2, .int l2)] [] h
  replace hF := (eg_ifn hF).2
  refine eg_aload_n (i := 0) 0 dX13_crown_0 rfl rfl ?_
  refine eg_iconst (v := (0 : Int32)) dX13_crown_1 (by decide) ?_
  replace hF := eg_bind hF; obtain ⟨h1, e2, hF⟩ := hF
  refine eg_putI dX13_crown_2 e2 (Nat.le_of_ble_eq_true rfl) (Nat.le_of_ble_eq_true rfl) rfl ew_1434 (Or.inl rfl) ?_
  refine eg_aload_n (i := 0) 0 dX13_crown_5 rfl rfl ?_
  refine eg_iload_n (i := 1) 1 dX13_crown_6 rfl rfl ?_
  replace hF := eg_bind hF; obtain ⟨⟨v4, h3⟩, e5, hF⟩ := hF
  refine eg_callV (c := 13) (n := 1) [.int l1] dX13_crown_7 (mX13_layPairs e5) rfl (fX13_layPairs_O e5) (Nat.le_of_ble_eq_true rfl) rfl ew_2102 ew_2104 ew_92 ew_110 ew_2105 hy_X13_layPairs rfl (Nat.le_of_ble_eq_true rfl) (Nat.le_of_ble_eq_true rfl) (Nat.le_of_ble_eq_true rfl) ?_
  refine eg_if_eq 31 dX13_crown_10 rfl (fun c6 => ?_) (fun c6 => ?_)
  · replace hF := eg_it c6 hF
    refine eg_ldc2 (v := (-1 : Int64)) dX13_crown_31 ew_1990 ?_
    exact eg_lretE dX13_crown_34 hF
  · replace hF := eg_if c6 hF
    refine eg_aload_n (i := 0) 0 dX13_crown_13 rfl rfl ?_
    refine eg_iload_n (i := 2) 2 dX13_crown_14 rfl rfl ?_
    replace hF := eg_bind hF; obtain ⟨⟨v8, h7⟩, e9, hF⟩ := hF
    refine eg_callV (c := 13) (n := 1) [.int l2] dX13_crown_15 (mX13_isPerson e9) rfl (fX13_isPerson_O e9) (Nat.le_of_ble_eq_true rfl) rfl ew_1872 ew_1874 ew_71 ew_110 ew_1875 hy_X13_isPerson rfl (Nat.le_of_ble_eq_true rfl) (Nat.le_of_ble_eq_true rfl) (Nat.le_of_ble_eq_true rfl) ?_
    refine eg_if_eq 31 dX13_crown_18 rfl (fun c10 => ?_) (fun c10 => ?_)
    · replace hF := eg_it c10 hF
      refine eg_ldc2 (v := (-1 : Int64)) dX13_crown_31 ew_1990 ?_
      exact eg_lretE dX13_crown_34 hF
    · replace hF := eg_if c10 hF
      refine eg_aload_n (i := 0) 0 dX13_crown_21 rfl rfl ?_
      replace hF := eg_bind hF; obtain ⟨p11, e12, hF⟩ := hF
      refine eg_getR dX13_crown_22 e12 (Nat.le_of_ble_eq_true rfl) (Nat.le_of_ble_eq_true rfl) rfl ew_1477 ?_
      refine eg_iload_n (i := 2) 2 dX13_crown_25 rfl rfl ?_
      replace hF := eg_bind hF; obtain ⟨v13, e14, hF⟩ := hF
      refine eg_iald dX13_crown_26 e14 ?_
      refine eg_iload_n (i := 2) 2 dX13_crown_27 rfl rfl ?_
      refine eg_ic_ge 35 dX13_crown_28 rfl (fun c15 => ?_) (fun c15 => ?_)
      · replace hF := eg_it c15 hF
        refine eg_iconst (v := (-1 : Int32)) dX13_crown_35 (by decide) ?_
        refine eg_istore_n (i := 3) [(3, .int (-1 : Int32)), (0, .ref l0), (1, .int l1), (2, .int l2)] dX13_crown_36 rfl (Nat.le_of_ble_eq_true rfl) rfl ?_
        refine eg_iconst (v := (0 : Int32)) dX13_crown_37 (by decide) ?_
        refine eg_istore (i := 4) [(4, .int (0 : Int32)), (3, .int (-1 : Int32)), (0, .ref l0), (1, .int l1), (2, .int l2)] dX13_crown_38 (Nat.le_of_ble_eq_true rfl) rfl ?_
        replace hF := eg_bind hF; obtain ⟨x17, e16, hF⟩ := hF
        refine eg_sub [2, 4, 1, 0] [(0, .ref l0), (2, .int l2), (3, .int (-1 : Int32)), (4, .int (0 : Int32))] rfl (fX13_crown_L40_ok eg_F h7 l0 l2 (-1 : Int32) (0 : Int32) x17 e16 ?_)
        · intro p18 v19 h20 e26
          subst e26
          refine eg_lconst (v := (0 : Int64)) dX13_crown_150 (by decide) ?_
          refine eg_lstore (i := 4) [(4, .long (0 : Int64)), (0, .ref p18), (3, .int v19)] dX13_crown_151 (Nat.le_of_ble_eq_true rfl) rfl ?_
          refine eg_iconst (v := (0 : Int32)) dX13_crown_153 (by decide) ?_
          refine eg_istore (i := 6) [(6, .int (0 : Int32)), (4, .long (0 : Int64)), (0, .ref p18), (3, .int v19)] dX13_crown_154 (Nat.le_of_ble_eq_true rfl) rfl ?_
          replace hF := eg_bind hF; obtain ⟨x22, e21, hF⟩ := hF
          refine eg_sub [2, 3, 1, 0] [(0, .ref p18), (3, .int v19), (4, .long (0 : Int64)), (6, .int (0 : Int32))] rfl (fX13_crown_L156_ok eg_F h20 p18 v19 (0 : Int64) (0 : Int32) x22 e21 ?_)
          · intro v23 h24 e25
            subst e25
            refine eg_lload (i := 4) 0 dX13_crown_257 rfl ?_
            exact eg_lretE dX13_crown_259 hF
      · replace hF := eg_if c15 hF
        refine eg_ldc2 (v := (-1 : Int64)) dX13_crown_31 ew_1990 ?_
        exact eg_lretE dX13_crown_34 hF
theorem dX13_goCarton_0 : decode cX13_goCarton 0 = .ok (.iload_n 1, 1) := by decide +kernel
theorem dX13_goCarton_1 : decode cX13_goCarton 1 = .ok (.iload_n 2, 1) := by decide +kernel
theorem dX13_goCarton_2 : decode cX13_goCarton 2 = .ok (.if_icmp .ne 26, 3) := by decide +kernel
theorem dX13_goCarton_5 : decode cX13_goCarton 5 = .ok (.iload 5, 2) := by decide +kernel
theorem dX13_goCarton_7 : decode cX13_goCarton 7 = .ok (.aload_n 0, 1) := by decide +kernel
theorem dX13_goCarton_8 : decode cX13_goCarton 8 = .ok (.getfield 507, 3) := by decide +kernel
theorem dX13_goCarton_11 : decode cX13_goCarton 11 = .ok (.if_icmp .gt 4, 3) := by decide +kernel
theorem dX13_goCarton_14 : decode cX13_goCarton 14 = .ok (.return_, 1) := by decide +kernel
theorem dX13_goCarton_15 : decode cX13_goCarton 15 = .ok (.aload_n 0, 1) := by decide +kernel
theorem dX13_goCarton_16 : decode cX13_goCarton 16 = .ok (.iload 4, 2) := by decide +kernel
theorem dX13_goCarton_18 : decode cX13_goCarton 18 = .ok (.putfield 510, 3) := by decide +kernel
theorem dX13_goCarton_21 : decode cX13_goCarton 21 = .ok (.aload_n 0, 1) := by decide +kernel
theorem dX13_goCarton_22 : decode cX13_goCarton 22 = .ok (.iload 5, 2) := by decide +kernel
theorem dX13_goCarton_24 : decode cX13_goCarton 24 = .ok (.putfield 507, 3) := by decide +kernel
theorem dX13_goCarton_27 : decode cX13_goCarton 27 = .ok (.return_, 1) := by decide +kernel
theorem dX13_goCarton_28 : decode cX13_goCarton 28 = .ok (.iconst 0, 1) := by decide +kernel
theorem dX13_goCarton_29 : decode cX13_goCarton 29 = .ok (.istore 6, 2) := by decide +kernel
theorem dX13_goCarton_31 : decode cX13_goCarton 31 = .ok (.iload 6, 2) := by decide +kernel
theorem dX13_goCarton_33 : decode cX13_goCarton 33 = .ok (.aload_n 0, 1) := by decide +kernel
theorem dX13_goCarton_34 : decode cX13_goCarton 34 = .ok (.getfield 338, 3) := by decide +kernel
theorem dX13_goCarton_37 : decode cX13_goCarton 37 = .ok (.if_icmp .ge 66, 3) := by decide +kernel
theorem dX13_goCarton_40 : decode cX13_goCarton 40 = .ok (.iload_n 3, 1) := by decide +kernel
theorem dX13_goCarton_41 : decode cX13_goCarton 41 = .ok (.iload 6, 2) := by decide +kernel
theorem dX13_goCarton_43 : decode cX13_goCarton 43 = .ok (.invokestatic 296, 3) := by decide +kernel
theorem dX13_goCarton_46 : decode cX13_goCarton 46 = .ok (.ifCond .ne 51, 3) := by decide +kernel
theorem dX13_goCarton_49 : decode cX13_goCarton 49 = .ok (.aload_n 0, 1) := by decide +kernel
theorem dX13_goCarton_50 : decode cX13_goCarton 50 = .ok (.iload_n 1, 1) := by decide +kernel
theorem dX13_goCarton_51 : decode cX13_goCarton 51 = .ok (.iconst 1, 1) := by decide +kernel
theorem dX13_goCarton_52 : decode cX13_goCarton 52 = .ok (.iadd, 1) := by decide +kernel
theorem dX13_goCarton_53 : decode cX13_goCarton 53 = .ok (.iload_n 2, 1) := by decide +kernel
theorem dX13_goCarton_54 : decode cX13_goCarton 54 = .ok (.iload_n 3, 1) := by decide +kernel
theorem dX13_goCarton_55 : decode cX13_goCarton 55 = .ok (.iconst 1, 1) := by decide +kernel
theorem dX13_goCarton_56 : decode cX13_goCarton 56 = .ok (.iload 6, 2) := by decide +kernel
theorem dX13_goCarton_58 : decode cX13_goCarton 58 = .ok (.ishl, 1) := by decide +kernel
theorem dX13_goCarton_59 : decode cX13_goCarton 59 = .ok (.ior, 1) := by decide +kernel
theorem dX13_goCarton_60 : decode cX13_goCarton 60 = .ok (.bipush 10, 2) := by decide +kernel
theorem dX13_goCarton_62 : decode cX13_goCarton 62 = .ok (.iload 4, 2) := by decide +kernel
theorem dX13_goCarton_64 : decode cX13_goCarton 64 = .ok (.imul, 1) := by decide +kernel
theorem dX13_goCarton_65 : decode cX13_goCarton 65 = .ok (.iload 6, 2) := by decide +kernel
theorem dX13_goCarton_67 : decode cX13_goCarton 67 = .ok (.iadd, 1) := by decide +kernel
theorem dX13_goCarton_68 : decode cX13_goCarton 68 = .ok (.iload 5, 2) := by decide +kernel
theorem dX13_goCarton_70 : decode cX13_goCarton 70 = .ok (.i2l, 1) := by decide +kernel
theorem dX13_goCarton_71 : decode cX13_goCarton 71 = .ok (.aload_n 0, 1) := by decide +kernel
theorem dX13_goCarton_72 : decode cX13_goCarton 72 = .ok (.getfield 106, 3) := by decide +kernel
theorem dX13_goCarton_75 : decode cX13_goCarton 75 = .ok (.bipush 6, 2) := by decide +kernel
theorem dX13_goCarton_77 : decode cX13_goCarton 77 = .ok (.iload_n 1, 1) := by decide +kernel
theorem dX13_goCarton_78 : decode cX13_goCarton 78 = .ok (.imul, 1) := by decide +kernel
theorem dX13_goCarton_79 : decode cX13_goCarton 79 = .ok (.iload 6, 2) := by decide +kernel
theorem dX13_goCarton_81 : decode cX13_goCarton 81 = .ok (.iadd, 1) := by decide +kernel
theorem dX13_goCarton_82 : decode cX13_goCarton 82 = .ok (.iaload, 1) := by decide +kernel
theorem dX13_goCarton_83 : decode cX13_goCarton 83 = .ok (.i2l, 1) := by decide +kernel
theorem dX13_goCarton_84 : decode cX13_goCarton 84 = .ok (.lmul, 1) := by decide +kernel
theorem dX13_goCarton_85 : decode cX13_goCarton 85 = .ok (.aload_n 0, 1) := by decide +kernel
theorem dX13_goCarton_86 : decode cX13_goCarton 86 = .ok (.getfield 109, 3) := by decide +kernel
theorem dX13_goCarton_89 : decode cX13_goCarton 89 = .ok (.iload_n 1, 1) := by decide +kernel
theorem dX13_goCarton_90 : decode cX13_goCarton 90 = .ok (.iaload, 1) := by decide +kernel
theorem dX13_goCarton_91 : decode cX13_goCarton 91 = .ok (.i2l, 1) := by decide +kernel
theorem dX13_goCarton_92 : decode cX13_goCarton 92 = .ok (.ldiv, 1) := by decide +kernel
theorem dX13_goCarton_93 : decode cX13_goCarton 93 = .ok (.l2i, 1) := by decide +kernel
theorem dX13_goCarton_94 : decode cX13_goCarton 94 = .ok (.invokevirtual 513, 3) := by decide +kernel
theorem dX13_goCarton_97 : decode cX13_goCarton 97 = .ok (.iinc 6 1, 3) := by decide +kernel
theorem dX13_goCarton_100 : decode cX13_goCarton 100 = .ok (.goto (-69), 3) := by decide +kernel
theorem dX13_goCarton_103 : decode cX13_goCarton 103 = .ok (.return_, 1) := by decide +kernel
def fX13_goCarton_L31 (rc : eg_H → Nat → Int32 → Int32 → Int32 → Int32 → Int32 → Option (eg_H)) : Nat → eg_H → Nat → Int32 → Int32 → Int32 → Int32 → Int32 → Int32 → Option (eg_H)
  | 0, _, _, _, _, _, _, _, _ => none
  | n + 1, h, l0, l1, l2, l3, l4, l5, l6 =>
    (eg_gI h 13 26 l0).bind fun v1 =>
    if v1 ≤ l6 then
      (some h)
    else
      (fX13_has h l3 l6).bind fun ⟨v5, h4⟩ =>
      if v5 = 0 then
        ((eg_gR h4 13 57 l0).bind fun p8 =>
        (eg_aI h4 100 p8 (((6 : Int32) * l1) + l6)).bind fun v10 =>
        (eg_gR h4 13 58 l0).bind fun p12 =>
        (eg_aI h4 100 p12 l1).bind fun v14 =>
        if v14.toInt64 = 0 then none else
        if eg_isO h4 13 l0 then (
        (rc h4 l0 (l1 + (1 : Int32)) l2 (l3 ||| ((1 : Int32) <<< (l6 &&& 31))) (((10 : Int32) * l4) + l6) (((l5.toInt64 * v10.toInt64) / v14.toInt64).toInt32)).bind fun h17 =>
        fX13_goCarton_L31 rc n h17 l0 l1 l2 l3 l4 l5 (l6 + (1 : Int32))) else none)
      else
        fX13_goCarton_L31 rc n h4 l0 l1 l2 l3 l4 l5 (l6 + (1 : Int32))
set_option maxRecDepth 20000 in
theorem fX13_goCarton_L31_ok {rc : eg_H → Nat → Int32 → Int32 → Int32 → Int32 → Int32 → Option (eg_H)} {dr : Nat} (hdr : 1 ≤ dr) (hrc : ∀ (h : eg_H) (a0 : Nat) (a1 : Int32) (a2 : Int32) (a3 : Int32) (a4 : Int32) (a5 : Int32) (hE : eg_H), rc h a0 a1 a2 a3 a4 a5 = some hE → eg_Met yX13_goCarton cX13_goCarton 7 none dr [.ref a0, .int a1, .int a2, .int a3, .int a4, .int a5] h none hE) {h0 : eg_H} {Z : eg_C → State → Prop} {N S : Nat} : ∀ (n : Nat) (h : eg_H) (l0 : Nat) (l1 : Int32) (l2 : Int32) (l3 : Int32) (l4 : Int32) (l5 : Int32) (l6 : Int32) (eE : eg_H), fX13_goCarton_L31 rc n h l0 l1 l2 l3 l4 l5 l6 = some eE → (hk0 : ∀  (h : eg_H), eE = h → eg_AW (RX13, cX13_goCarton, 7, dr + 1, none, "goCarton", none) Z N S h0 103 [] [] h) → eg_AW (RX13, cX13_goCarton, 7, dr + 1, none, "goCarton", none) Z N S h0 31 [(0, .ref l0), (1, .int l1), (2, .int l2), (3, .int l3), (4, .int l4), (5, .int l5), (6, .int l6)] [] h := by
  intro n
  induction n with
  | zero => intro h l0 l1 l2 l3 l4 l5 l6 eE hF; exact absurd hF (by intro q; cases q)
  | succ n ih =>
    intro h l0 l1 l2 l3 l4 l5 l6 eE hF hk0
    have hrec := fun (h' : eg_H) (l0 : Nat) (l1 : Int32) (l2 : Int32) (l3 : Int32) (l4 : Int32) (l5 : Int32) (l6 : Int32) hq => ih h' l0 l1 l2 l3 l4 l5 l6 eE hq hk0
    refine eg_iload (i := 6) 6 dX13_goCarton_31 rfl ?_
    refine eg_aload_n (i := 0) 0 dX13_goCarton_33 rfl rfl ?_
    replace hF := eg_bind hF; obtain ⟨v1, e2, hF⟩ := hF
    refine eg_getI dX13_goCarton_34 e2 (Nat.le_of_ble_eq_true rfl) (Nat.le_of_ble_eq_true rfl) rfl ew_1460 ?_
    refine eg_ic_ge 103 dX13_goCarton_37 rfl (fun c3 => ?_) (fun c3 => ?_)
    · replace hF := eg_it c3 hF
      exact eg_sub [] [] rfl (hk0 h (Option.some.inj hF).symm)
    · replace hF := eg_if c3 hF
      refine eg_iload_n (i := 3) 3 dX13_goCarton_40 rfl rfl ?_
      refine eg_iload (i := 6) 6 dX13_goCarton_41 rfl ?_
      replace hF := eg_bind hF; obtain ⟨⟨v5, h4⟩, e6, hF⟩ := hF
      refine eg_callS (n := 2) [.int l3, .int l6] dX13_goCarton_43 (mX13_has e6) rfl ew_1777 ew_1778 ew_110 ew_1779 hy_X13_has.2 rfl (by have := eg_D_eq; omega) (Nat.le_of_ble_eq_true rfl) (Nat.le_of_ble_eq_true rfl) ?_
      refine eg_if_ne 97 dX13_goCarton_46 rfl (fun c7 => ?_) (fun c7 => ?_)
      · replace hF := eg_it c7 hF
        refine eg_aload_n (i := 0) 0 dX13_goCarton_49 rfl rfl ?_
        refine eg_iload_n (i := 1) 1 dX13_goCarton_50 rfl rfl ?_
        refine eg_iconst (v := (1 : Int32)) dX13_goCarton_51 (by decide) ?_
        refine eg_iadd dX13_goCarton_52 ?_
        refine eg_iload_n (i := 2) 2 dX13_goCarton_53 rfl rfl ?_
        refine eg_iload_n (i := 3) 3 dX13_goCarton_54 rfl rfl ?_
        refine eg_iconst (v := (1 : Int32)) dX13_goCarton_55 (by decide) ?_
        refine eg_iload (i := 6) 6 dX13_goCarton_56 rfl ?_
        refine eg_ishl dX13_goCarton_58 ?_
        refine eg_ior dX13_goCarton_59 ?_
        refine eg_bipush (v := (10 : Int32)) dX13_goCarton_60 (by decide) ?_
        refine eg_iload (i := 4) 4 dX13_goCarton_62 rfl ?_
        refine eg_imul dX13_goCarton_64 ?_
        refine eg_iload (i := 6) 6 dX13_goCarton_65 rfl ?_
        refine eg_iadd dX13_goCarton_67 ?_
        refine eg_iload (i := 5) 5 dX13_goCarton_68 rfl ?_
        refine eg_i2l dX13_goCarton_70 ?_
        refine eg_aload_n (i := 0) 0 dX13_goCarton_71 rfl rfl ?_
        replace hF := eg_bind hF; obtain ⟨p8, e9, hF⟩ := hF
        refine eg_getR dX13_goCarton_72 e9 (Nat.le_of_ble_eq_true rfl) (Nat.le_of_ble_eq_true rfl) rfl ew_1491 ?_
        refine eg_bipush (v := (6 : Int32)) dX13_goCarton_75 (by decide) ?_
        refine eg_iload_n (i := 1) 1 dX13_goCarton_77 rfl rfl ?_
        refine eg_imul dX13_goCarton_78 ?_
        refine eg_iload (i := 6) 6 dX13_goCarton_79 rfl ?_
        refine eg_iadd dX13_goCarton_81 ?_
        replace hF := eg_bind hF; obtain ⟨v10, e11, hF⟩ := hF
        refine eg_iald dX13_goCarton_82 e11 ?_
        refine eg_i2l dX13_goCarton_83 ?_
        refine eg_lmul dX13_goCarton_84 ?_
        refine eg_aload_n (i := 0) 0 dX13_goCarton_85 rfl rfl ?_
        replace hF := eg_bind hF; obtain ⟨p12, e13, hF⟩ := hF
        refine eg_getR dX13_goCarton_86 e13 (Nat.le_of_ble_eq_true rfl) (Nat.le_of_ble_eq_true rfl) rfl ew_1492 ?_
        refine eg_iload_n (i := 1) 1 dX13_goCarton_89 rfl rfl ?_
        replace hF := eg_bind hF; obtain ⟨v14, e15, hF⟩ := hF
        refine eg_iald dX13_goCarton_90 e15 ?_
        refine eg_i2l dX13_goCarton_91 ?_
        replace hF := eg_nif hF; obtain ⟨c16, hF⟩ := hF
        refine eg_ldiv dX13_goCarton_92 c16 ?_
        refine eg_l2i dX13_goCarton_93 ?_
        replace hF := eg_ifn hF; obtain ⟨c19, hF⟩ := hF
        replace hF := eg_bind hF; obtain ⟨h17, e18, hF⟩ := hF
        refine eg_callV (c := 13) (n := 5) [.int (l1 + (1 : Int32)), .int l2, .int (l3 ||| ((1 : Int32) <<< (l6 &&& 31))), .int (((10 : Int32) * l4) + l6), .int (((l5.toInt64 * v10.toInt64) / v14.toInt64).toInt32)] dX13_goCarton_94 (hrc _ _ _ _ _ _ _ _ e18) rfl c19 (Nat.le_of_ble_eq_true rfl) rfl ew_2121 ew_2123 ew_94 ew_110 ew_2124 hy_X13_goCarton rfl (by have := eg_D_eq; omega) (Nat.le_of_ble_eq_true rfl) (Nat.le_of_ble_eq_true rfl) ?_
        refine eg_iinc (i := 6) (v := (l6 + (1 : Int32))) 6 [(6, .int (l6 + (1 : Int32))), (0, .ref l0), (1, .int l1), (2, .int l2), (3, .int l3), (4, .int l4), (5, .int l5)] dX13_goCarton_97 rfl rfl (Nat.le_of_ble_eq_true rfl) rfl ?_
        refine eg_goto 31 dX13_goCarton_100 rfl ?_
        exact eg_sub [1, 2, 3, 4, 5, 6, 0] [(0, .ref l0), (1, .int l1), (2, .int l2), (3, .int l3), (4, .int l4), (5, .int l5), (6, .int (l6 + (1 : Int32)))] rfl (hrec h17 l0 l1 l2 l3 l4 l5 (l6 + (1 : Int32)) hF)
      · replace hF := eg_if c7 hF
        refine eg_iinc (i := 6) (v := (l6 + (1 : Int32))) 6 [(6, .int (l6 + (1 : Int32))), (0, .ref l0), (1, .int l1), (2, .int l2), (3, .int l3), (4, .int l4), (5, .int l5)] dX13_goCarton_97 rfl rfl (Nat.le_of_ble_eq_true rfl) rfl ?_
        refine eg_goto 31 dX13_goCarton_100 rfl ?_
        exact eg_sub [1, 2, 3, 4, 5, 6, 0] [(0, .ref l0), (1, .int l1), (2, .int l2), (3, .int l3), (4, .int l4), (5, .int l5), (6, .int (l6 + (1 : Int32)))] rfl (hrec h4 l0 l1 l2 l3 l4 l5 (l6 + (1 : Int32)) hF)
def fX13_goCartonB (rc : eg_H → Nat → Int32 → Int32 → Int32 → Int32 → Int32 → Option (eg_H)) (h : eg_H) (l0 : Nat) (l1 : Int32) (l2 : Int32) (l3 : Int32) (l4 : Int32) (l5 : Int32) : Option (eg_H) :=
  if eg_isO h 13 l0 then (
    if l1 = l2 then
      ((eg_gI h 13 60 l0).bind fun v2 =>
      if v2 < l5 then
        ((eg_pI h 13 59 l0 l4).bind fun h5 =>
        (eg_pI h5 13 60 l0 l5).bind fun h7 =>
        some h7)
      else
        some h)
    else
      (fX13_goCarton_L31 rc eg_F h l0 l1 l2 l3 l4 l5 (0 : Int32)).bind fun e =>
      match e with
      | h11 =>
        some h11) else none
theorem fX13_goCartonB_O {rc : eg_H → Nat → Int32 → Int32 → Int32 → Int32 → Int32 → Option (eg_H)} {h : eg_H} {l0 : Nat} {l1 : Int32} {l2 : Int32} {l3 : Int32} {l4 : Int32} {l5 : Int32} {hE : eg_H} (hF : fX13_goCartonB rc h l0 l1 l2 l3 l4 l5 = some hE) : eg_isO h 13 l0 := (eg_ifn hF).1
set_option maxRecDepth 20000 in
theorem mX13_goCartonB {rc : eg_H → Nat → Int32 → Int32 → Int32 → Int32 → Int32 → Option (eg_H)} {dr : Nat} (hdr : 1 ≤ dr) (hrc : ∀ (h : eg_H) (a0 : Nat) (a1 : Int32) (a2 : Int32) (a3 : Int32) (a4 : Int32) (a5 : Int32) (hE : eg_H), rc h a0 a1 a2 a3 a4 a5 = some hE → eg_Met yX13_goCarton cX13_goCarton 7 none dr [.ref a0, .int a1, .int a2, .int a3, .int a4, .int a5] h none hE) {h : eg_H} {l0 : Nat} {l1 : Int32} {l2 : Int32} {l3 : Int32} {l4 : Int32} {l5 : Int32} {hE : eg_H} (hF : fX13_goCartonB rc h l0 l1 l2 l3 l4 l5 = some hE) : eg_Met yX13_goCarton cX13_goCarton 7 none (dr + 1) [.ref l0, .int l1, .int l2, .int l3, .int l4, .int l5] h none hE := by
  refine eg_enter rfl (Nat.le_of_ble_eq_true rfl) ?_
  show eg_AW (RX13, cX13_goCarton, 7, dr + 1, none, "goCarton", none) (eg_Zm none hE h) (eg_nc hE) (eg_ns hE) h 0 [(0, .ref l0), (1, .int l1), (2, .int l2), (3, .int l3), (4, .int l4), (5, .int l5)] [] h
  replace hF := (eg_ifn hF).2
  refine eg_iload_n (i := 1) 1 dX13_goCarton_0 rfl rfl ?_
  refine eg_iload_n (i := 2) 2 dX13_goCarton_1 rfl rfl ?_
  refine eg_ic_ne 28 dX13_goCarton_2 rfl (fun c1 => ?_) (fun c1 => ?_)
  · replace hF := eg_it c1 hF
    refine eg_iload (i := 5) 5 dX13_goCarton_5 rfl ?_
    refine eg_aload_n (i := 0) 0 dX13_goCarton_7 rfl rfl ?_
    replace hF := eg_bind hF; obtain ⟨v2, e3, hF⟩ := hF
    refine eg_getI dX13_goCarton_8 e3 (Nat.le_of_ble_eq_true rfl) (Nat.le_of_ble_eq_true rfl) rfl ew_1494 ?_
    refine eg_ic_gt 15 dX13_goCarton_11 rfl (fun c4 => ?_) (fun c4 => ?_)
    · replace hF := eg_it c4 hF
      refine eg_aload_n (i := 0) 0 dX13_goCarton_15 rfl rfl ?_
      refine eg_iload (i := 4) 4 dX13_goCarton_16 rfl ?_
      replace hF := eg_bind hF; obtain ⟨h5, e6, hF⟩ := hF
      refine eg_putI dX13_goCarton_18 e6 (Nat.le_of_ble_eq_true rfl) (Nat.le_of_ble_eq_true rfl) rfl ew_1493 (Or.inl rfl) ?_
      refine eg_aload_n (i := 0) 0 dX13_goCarton_21 rfl rfl ?_
      refine eg_iload (i := 5) 5 dX13_goCarton_22 rfl ?_
      replace hF := eg_bind hF; obtain ⟨h7, e8, hF⟩ := hF
      refine eg_putI dX13_goCarton_24 e8 (Nat.le_of_ble_eq_true rfl) (Nat.le_of_ble_eq_true rfl) rfl ew_1494 (Or.inl rfl) ?_
      exact eg_vretE dX13_goCarton_27 hF
    · replace hF := eg_if c4 hF
      exact eg_vretE dX13_goCarton_14 hF
  · replace hF := eg_if c1 hF
    refine eg_iconst (v := (0 : Int32)) dX13_goCarton_28 (by decide) ?_
    refine eg_istore (i := 6) [(6, .int (0 : Int32)), (0, .ref l0), (1, .int l1), (2, .int l2), (3, .int l3), (4, .int l4), (5, .int l5)] dX13_goCarton_29 (Nat.le_of_ble_eq_true rfl) rfl ?_
    replace hF := eg_bind hF; obtain ⟨x10, e9, hF⟩ := hF
    refine eg_sub [1, 2, 3, 4, 5, 6, 0] [(0, .ref l0), (1, .int l1), (2, .int l2), (3, .int l3), (4, .int l4), (5, .int l5), (6, .int (0 : Int32))] rfl (fX13_goCarton_L31_ok hdr hrc eg_F h l0 l1 l2 l3 l4 l5 (0 : Int32) x10 e9 ?_)
    · intro h11 e12
      subst e12
      exact eg_vretE dX13_goCarton_103 hF
def fX13_goCarton : Nat → eg_H → Nat → Int32 → Int32 → Int32 → Int32 → Int32 → Option (eg_H)
  | 0 => fun _ _ _ _ _ _ _ => none
  | n + 1 => fX13_goCartonB (fX13_goCarton n)
theorem fX13_goCarton_O {n : Nat} {h : eg_H} {l0 : Nat} {l1 : Int32} {l2 : Int32} {l3 : Int32} {l4 : Int32} {l5 : Int32} {hE : eg_H} (hF : fX13_goCarton n h l0 l1 l2 l3 l4 l5 = some hE) : eg_isO h 13 l0 := by
  cases n with
  | zero => cases hF
  | succ n => exact fX13_goCartonB_O (rc := fX13_goCarton n) hF
theorem mX13_goCarton_x : ∀ (n : Nat) (h : eg_H) (l0 : Nat) (l1 : Int32) (l2 : Int32) (l3 : Int32) (l4 : Int32) (l5 : Int32) (hE : eg_H), fX13_goCarton n h l0 l1 l2 l3 l4 l5 = some hE → eg_Met yX13_goCarton cX13_goCarton 7 none (1 + 1 * n) [.ref l0, .int l1, .int l2, .int l3, .int l4, .int l5] h none hE := by
  intro n
  induction n with
  | zero => intro h l0 l1 l2 l3 l4 l5 hE hF; cases hF
  | succ n ih =>
    intro h l0 l1 l2 l3 l4 l5 hE hF
    exact mX13_goCartonB (rc := fX13_goCarton n) (dr := 1 + 1 * n) (by omega) ih hF
theorem mX13_goCarton (n : Nat) {h : eg_H} {l0 : Nat} {l1 : Int32} {l2 : Int32} {l3 : Int32} {l4 : Int32} {l5 : Int32} {hE : eg_H} (hF : fX13_goCarton n h l0 l1 l2 l3 l4 l5 = some hE) : eg_Met yX13_goCarton cX13_goCarton 7 none (1 + 1 * n) [.ref l0, .int l1, .int l2, .int l3, .int l4, .int l5] h none hE := mX13_goCarton_x n h l0 l1 l2 l3 l4 l5 hE hF
theorem dX13_carton_0 : decode cX13_carton 0 = .ok (.aload_n 0, 1) := by decide +kernel
theorem dX13_carton_1 : decode cX13_carton 1 = .ok (.iconst 0, 1) := by decide +kernel
theorem dX13_carton_2 : decode cX13_carton 2 = .ok (.putfield 148, 3) := by decide +kernel
theorem dX13_carton_5 : decode cX13_carton 5 = .ok (.aload_n 0, 1) := by decide +kernel
theorem dX13_carton_6 : decode cX13_carton 6 = .ok (.iload_n 1, 1) := by decide +kernel
theorem dX13_carton_7 : decode cX13_carton 7 = .ok (.invokevirtual 405, 3) := by decide +kernel
theorem dX13_carton_10 : decode cX13_carton 10 = .ok (.ifCond .eq 60, 3) := by decide +kernel
theorem dX13_carton_13 : decode cX13_carton 13 = .ok (.iload_n 2, 1) := by decide +kernel
theorem dX13_carton_14 : decode cX13_carton 14 = .ok (.i2l, 1) := by decide +kernel
theorem dX13_carton_15 : decode cX13_carton 15 = .ok (.lconst 0, 1) := by decide +kernel
theorem dX13_carton_16 : decode cX13_carton 16 = .ok (.lconst 1, 1) := by decide +kernel
theorem dX13_carton_17 : decode cX13_carton 17 = .ok (.invokestatic 269, 3) := by decide +kernel
theorem dX13_carton_20 : decode cX13_carton 20 = .ok (.ifCond .eq 50, 3) := by decide +kernel
theorem dX13_carton_23 : decode cX13_carton 23 = .ok (.iload_n 3, 1) := by decide +kernel
theorem dX13_carton_24 : decode cX13_carton 24 = .ok (.i2l, 1) := by decide +kernel
theorem dX13_carton_25 : decode cX13_carton 25 = .ok (.lconst 1, 1) := by decide +kernel
theorem dX13_carton_26 : decode cX13_carton 26 = .ok (.aload_n 0, 1) := by decide +kernel
theorem dX13_carton_27 : decode cX13_carton 27 = .ok (.getfield 338, 3) := by decide +kernel
theorem dX13_carton_30 : decode cX13_carton 30 = .ok (.i2l, 1) := by decide +kernel
theorem dX13_carton_31 : decode cX13_carton 31 = .ok (.invokestatic 269, 3) := by decide +kernel
theorem dX13_carton_34 : decode cX13_carton 34 = .ok (.ifCond .eq 36, 3) := by decide +kernel
theorem dX13_carton_37 : decode cX13_carton 37 = .ok (.iload 4, 2) := by decide +kernel
theorem dX13_carton_39 : decode cX13_carton 39 = .ok (.i2l, 1) := by decide +kernel
theorem dX13_carton_40 : decode cX13_carton 40 = .ok (.lconst 0, 1) := by decide +kernel
theorem dX13_carton_41 : decode cX13_carton 41 = .ok (.lconst 1, 1) := by decide +kernel
theorem dX13_carton_42 : decode cX13_carton 42 = .ok (.invokestatic 269, 3) := by decide +kernel
theorem dX13_carton_45 : decode cX13_carton 45 = .ok (.ifCond .eq 25, 3) := by decide +kernel
theorem dX13_carton_48 : decode cX13_carton 48 = .ok (.aload_n 0, 1) := by decide +kernel
theorem dX13_carton_49 : decode cX13_carton 49 = .ok (.getfield 37, 3) := by decide +kernel
theorem dX13_carton_52 : decode cX13_carton 52 = .ok (.iconst 3, 1) := by decide +kernel
theorem dX13_carton_53 : decode cX13_carton 53 = .ok (.iaload, 1) := by decide +kernel
theorem dX13_carton_54 : decode cX13_carton 54 = .ok (.iload_n 3, 1) := by decide +kernel
theorem dX13_carton_55 : decode cX13_carton 55 = .ok (.iconst 1, 1) := by decide +kernel
theorem dX13_carton_56 : decode cX13_carton 56 = .ok (.isub, 1) := by decide +kernel
theorem dX13_carton_57 : decode cX13_carton 57 = .ok (.aload_n 0, 1) := by decide +kernel
theorem dX13_carton_58 : decode cX13_carton 58 = .ok (.getfield 37, 3) := by decide +kernel
theorem dX13_carton_61 : decode cX13_carton 61 = .ok (.iconst 2, 1) := by decide +kernel
theorem dX13_carton_62 : decode cX13_carton 62 = .ok (.iaload, 1) := by decide +kernel
theorem dX13_carton_63 : decode cX13_carton 63 = .ok (.imul, 1) := by decide +kernel
theorem dX13_carton_64 : decode cX13_carton 64 = .ok (.iadd, 1) := by decide +kernel
theorem dX13_carton_65 : decode cX13_carton 65 = .ok (.bipush 60, 2) := by decide +kernel
theorem dX13_carton_67 : decode cX13_carton 67 = .ok (.if_icmp .le 5, 3) := by decide +kernel
theorem dX13_carton_70 : decode cX13_carton 70 = .ok (.iconst (-1), 1) := by decide +kernel
theorem dX13_carton_71 : decode cX13_carton 71 = .ok (.ireturn, 1) := by decide +kernel
theorem dX13_carton_72 : decode cX13_carton 72 = .ok (.iconst 0, 1) := by decide +kernel
theorem dX13_carton_73 : decode cX13_carton 73 = .ok (.istore 5, 2) := by decide +kernel
theorem dX13_carton_75 : decode cX13_carton 75 = .ok (.iload 5, 2) := by decide +kernel
theorem dX13_carton_77 : decode cX13_carton 77 = .ok (.iload_n 3, 1) := by decide +kernel
theorem dX13_carton_78 : decode cX13_carton 78 = .ok (.if_icmp .ge 152, 3) := by decide +kernel
theorem dX13_carton_81 : decode cX13_carton 81 = .ok (.aload_n 0, 1) := by decide +kernel
theorem dX13_carton_82 : decode cX13_carton 82 = .ok (.getfield 37, 3) := by decide +kernel
theorem dX13_carton_85 : decode cX13_carton 85 = .ok (.iconst 3, 1) := by decide +kernel
theorem dX13_carton_86 : decode cX13_carton 86 = .ok (.iaload, 1) := by decide +kernel
theorem dX13_carton_87 : decode cX13_carton 87 = .ok (.iload 5, 2) := by decide +kernel
theorem dX13_carton_89 : decode cX13_carton 89 = .ok (.aload_n 0, 1) := by decide +kernel
theorem dX13_carton_90 : decode cX13_carton 90 = .ok (.getfield 37, 3) := by decide +kernel
theorem dX13_carton_93 : decode cX13_carton 93 = .ok (.iconst 2, 1) := by decide +kernel
theorem dX13_carton_94 : decode cX13_carton 94 = .ok (.iaload, 1) := by decide +kernel
theorem dX13_carton_95 : decode cX13_carton 95 = .ok (.imul, 1) := by decide +kernel
theorem dX13_carton_96 : decode cX13_carton 96 = .ok (.iadd, 1) := by decide +kernel
theorem dX13_carton_97 : decode cX13_carton 97 = .ok (.istore 6, 2) := by decide +kernel
theorem dX13_carton_99 : decode cX13_carton 99 = .ok (.iload 5, 2) := by decide +kernel
theorem dX13_carton_101 : decode cX13_carton 101 = .ok (.iconst 2, 1) := by decide +kernel
theorem dX13_carton_102 : decode cX13_carton 102 = .ok (.irem, 1) := by decide +kernel
theorem dX13_carton_103 : decode cX13_carton 103 = .ok (.ifCond .ne 10, 3) := by decide +kernel
theorem dX13_carton_106 : decode cX13_carton 106 = .ok (.iload_n 1, 1) := by decide +kernel
theorem dX13_carton_107 : decode cX13_carton 107 = .ok (.bipush 10, 2) := by decide +kernel
theorem dX13_carton_109 : decode cX13_carton 109 = .ok (.idiv, 1) := by decide +kernel
theorem dX13_carton_110 : decode cX13_carton 110 = .ok (.goto 7, 3) := by decide +kernel
theorem dX13_carton_113 : decode cX13_carton 113 = .ok (.iload_n 1, 1) := by decide +kernel
theorem dX13_carton_114 : decode cX13_carton 114 = .ok (.bipush 10, 2) := by decide +kernel
theorem dX13_carton_116 : decode cX13_carton 116 = .ok (.irem, 1) := by decide +kernel
theorem dX13_carton_117 : decode cX13_carton 117 = .ok (.istore 7, 2) := by decide +kernel
theorem dX13_carton_119 : decode cX13_carton 119 = .ok (.iload 5, 2) := by decide +kernel
theorem dX13_carton_121 : decode cX13_carton 121 = .ok (.iconst 2, 1) := by decide +kernel
theorem dX13_carton_122 : decode cX13_carton 122 = .ok (.irem, 1) := by decide +kernel
theorem dX13_carton_123 : decode cX13_carton 123 = .ok (.ifCond .ne 10, 3) := by decide +kernel
theorem dX13_carton_126 : decode cX13_carton 126 = .ok (.iload_n 1, 1) := by decide +kernel
theorem dX13_carton_127 : decode cX13_carton 127 = .ok (.bipush 10, 2) := by decide +kernel
theorem dX13_carton_129 : decode cX13_carton 129 = .ok (.irem, 1) := by decide +kernel
theorem dX13_carton_130 : decode cX13_carton 130 = .ok (.goto 7, 3) := by decide +kernel
theorem dX13_carton_133 : decode cX13_carton 133 = .ok (.iload_n 1, 1) := by decide +kernel
theorem dX13_carton_134 : decode cX13_carton 134 = .ok (.bipush 10, 2) := by decide +kernel
theorem dX13_carton_136 : decode cX13_carton 136 = .ok (.idiv, 1) := by decide +kernel
theorem dX13_carton_137 : decode cX13_carton 137 = .ok (.istore 8, 2) := by decide +kernel
theorem dX13_carton_139 : decode cX13_carton 139 = .ok (.aload_n 0, 1) := by decide +kernel
theorem dX13_carton_140 : decode cX13_carton 140 = .ok (.getfield 109, 3) := by decide +kernel
theorem dX13_carton_143 : decode cX13_carton 143 = .ok (.iload 5, 2) := by decide +kernel
theorem dX13_carton_145 : decode cX13_carton 145 = .ok (.iconst 2, 1) := by decide +kernel
theorem dX13_carton_146 : decode cX13_carton 146 = .ok (.aload_n 0, 1) := by decide +kernel
theorem dX13_carton_147 : decode cX13_carton 147 = .ok (.getfield 43, 3) := by decide +kernel
theorem dX13_carton_150 : decode cX13_carton 150 = .ok (.iconst 4, 1) := by decide +kernel
theorem dX13_carton_151 : decode cX13_carton 151 = .ok (.iload 7, 2) := by decide +kernel
theorem dX13_carton_153 : decode cX13_carton 153 = .ok (.imul, 1) := by decide +kernel
theorem dX13_carton_154 : decode cX13_carton 154 = .ok (.iaload, 1) := by decide +kernel
theorem dX13_carton_155 : decode cX13_carton 155 = .ok (.imul, 1) := by decide +kernel
theorem dX13_carton_156 : decode cX13_carton 156 = .ok (.iconst 1, 1) := by decide +kernel
theorem dX13_carton_157 : decode cX13_carton 157 = .ok (.iadd, 1) := by decide +kernel
theorem dX13_carton_158 : decode cX13_carton 158 = .ok (.iastore, 1) := by decide +kernel
theorem dX13_carton_159 : decode cX13_carton 159 = .ok (.iconst 0, 1) := by decide +kernel
theorem dX13_carton_160 : decode cX13_carton 160 = .ok (.istore 9, 2) := by decide +kernel
theorem dX13_carton_162 : decode cX13_carton 162 = .ok (.iload 9, 2) := by decide +kernel
theorem dX13_carton_164 : decode cX13_carton 164 = .ok (.aload_n 0, 1) := by decide +kernel
theorem dX13_carton_165 : decode cX13_carton 165 = .ok (.getfield 338, 3) := by decide +kernel
theorem dX13_carton_168 : decode cX13_carton 168 = .ok (.if_icmp .ge 56, 3) := by decide +kernel
theorem dX13_carton_171 : decode cX13_carton 171 = .ok (.aload_n 0, 1) := by decide +kernel
theorem dX13_carton_172 : decode cX13_carton 172 = .ok (.iload 7, 2) := by decide +kernel
theorem dX13_carton_174 : decode cX13_carton 174 = .ok (.iload 8, 2) := by decide +kernel
theorem dX13_carton_176 : decode cX13_carton 176 = .ok (.bipush 10, 2) := by decide +kernel
theorem dX13_carton_178 : decode cX13_carton 178 = .ok (.iload 9, 2) := by decide +kernel
theorem dX13_carton_180 : decode cX13_carton 180 = .ok (.imul, 1) := by decide +kernel
theorem dX13_carton_181 : decode cX13_carton 181 = .ok (.iload 5, 2) := by decide +kernel
theorem dX13_carton_183 : decode cX13_carton 183 = .ok (.iconst 2, 1) := by decide +kernel
theorem dX13_carton_184 : decode cX13_carton 184 = .ok (.irem, 1) := by decide +kernel
theorem dX13_carton_185 : decode cX13_carton 185 = .ok (.ifCond .ne 7, 3) := by decide +kernel
theorem dX13_carton_188 : decode cX13_carton 188 = .ok (.iload_n 2, 1) := by decide +kernel
theorem dX13_carton_189 : decode cX13_carton 189 = .ok (.goto 6, 3) := by decide +kernel
theorem dX13_carton_192 : decode cX13_carton 192 = .ok (.iconst 1, 1) := by decide +kernel
theorem dX13_carton_193 : decode cX13_carton 193 = .ok (.iload_n 2, 1) := by decide +kernel
theorem dX13_carton_194 : decode cX13_carton 194 = .ok (.isub, 1) := by decide +kernel
theorem dX13_carton_195 : decode cX13_carton 195 = .ok (.iadd, 1) := by decide +kernel
theorem dX13_carton_196 : decode cX13_carton 196 = .ok (.iload 6, 2) := by decide +kernel
theorem dX13_carton_198 : decode cX13_carton 198 = .ok (.invokevirtual 426, 3) := by decide +kernel
theorem dX13_carton_201 : decode cX13_carton 201 = .ok (.aload_n 0, 1) := by decide +kernel
theorem dX13_carton_202 : decode cX13_carton 202 = .ok (.getfield 106, 3) := by decide +kernel
theorem dX13_carton_205 : decode cX13_carton 205 = .ok (.bipush 6, 2) := by decide +kernel
theorem dX13_carton_207 : decode cX13_carton 207 = .ok (.iload 5, 2) := by decide +kernel
theorem dX13_carton_209 : decode cX13_carton 209 = .ok (.imul, 1) := by decide +kernel
theorem dX13_carton_210 : decode cX13_carton 210 = .ok (.iload 9, 2) := by decide +kernel
theorem dX13_carton_212 : decode cX13_carton 212 = .ok (.iadd, 1) := by decide +kernel
theorem dX13_carton_213 : decode cX13_carton 213 = .ok (.aload_n 0, 1) := by decide +kernel
theorem dX13_carton_214 : decode cX13_carton 214 = .ok (.getfield 417, 3) := by decide +kernel
theorem dX13_carton_217 : decode cX13_carton 217 = .ok (.iastore, 1) := by decide +kernel
theorem dX13_carton_218 : decode cX13_carton 218 = .ok (.iinc 9 1, 3) := by decide +kernel
theorem dX13_carton_221 : decode cX13_carton 221 = .ok (.goto (-59), 3) := by decide +kernel
theorem dX13_carton_224 : decode cX13_carton 224 = .ok (.iinc 5 1, 3) := by decide +kernel
theorem dX13_carton_227 : decode cX13_carton 227 = .ok (.goto (-152), 3) := by decide +kernel
theorem dX13_carton_230 : decode cX13_carton 230 = .ok (.aload_n 0, 1) := by decide +kernel
theorem dX13_carton_231 : decode cX13_carton 231 = .ok (.iconst (-1), 1) := by decide +kernel
theorem dX13_carton_232 : decode cX13_carton 232 = .ok (.putfield 507, 3) := by decide +kernel
theorem dX13_carton_235 : decode cX13_carton 235 = .ok (.aload_n 0, 1) := by decide +kernel
theorem dX13_carton_236 : decode cX13_carton 236 = .ok (.iconst 0, 1) := by decide +kernel
theorem dX13_carton_237 : decode cX13_carton 237 = .ok (.iload_n 3, 1) := by decide +kernel
theorem dX13_carton_238 : decode cX13_carton 238 = .ok (.iconst 0, 1) := by decide +kernel
theorem dX13_carton_239 : decode cX13_carton 239 = .ok (.iconst 0, 1) := by decide +kernel
theorem dX13_carton_240 : decode cX13_carton 240 = .ok (.ldc_w 429, 3) := by decide +kernel
theorem dX13_carton_243 : decode cX13_carton 243 = .ok (.invokevirtual 513, 3) := by decide +kernel
theorem dX13_carton_246 : decode cX13_carton 246 = .ok (.iload 4, 2) := by decide +kernel
theorem dX13_carton_248 : decode cX13_carton 248 = .ok (.ifCond .ne 10, 3) := by decide +kernel
theorem dX13_carton_251 : decode cX13_carton 251 = .ok (.aload_n 0, 1) := by decide +kernel
theorem dX13_carton_252 : decode cX13_carton 252 = .ok (.getfield 510, 3) := by decide +kernel
theorem dX13_carton_255 : decode cX13_carton 255 = .ok (.goto 7, 3) := by decide +kernel
theorem dX13_carton_258 : decode cX13_carton 258 = .ok (.aload_n 0, 1) := by decide +kernel
theorem dX13_carton_259 : decode cX13_carton 259 = .ok (.getfield 507, 3) := by decide +kernel
theorem dX13_carton_262 : decode cX13_carton 262 = .ok (.ireturn, 1) := by decide +kernel
def fX13_carton_j195 (rec : eg_H → Nat → Int32 → Int32 → Int32 → Int32 → Int32 → Int32 → Int32 → Int32 → Int32 → Option (Nat × Int32 × Int32 × Int32 × Int32 × Int32 × eg_H)) (h : eg_H) (l0 : Nat) (l1 : Int32) (l2 : Int32) (l3 : Int32) (l4 : Int32) (l5 : Int32) (l6 : Int32) (l7 : Int32) (l8 : Int32) (l9 : Int32) (s0 : Nat) (s1 : Int32) (s2 : Int32) (s3 : Int32) (s4 : Int32) : Option (Nat × Int32 × Int32 × Int32 × Int32 × Int32 × eg_H) :=
  (fX13_layBest h s0 s1 s2 (s3 + s4) l6).bind fun h1 =>
  (eg_gR h1 13 57 l0).bind fun p3 =>
  (eg_gI h1 13 38 l0).bind fun v5 =>
  (eg_wI h1 100 p3 (((6 : Int32) * l5) + l9) v5).bind fun h7 =>
  rec h7 l0 l1 l2 l3 l4 l5 l6 l7 l8 (l9 + (1 : Int32))
set_option maxRecDepth 20000 in
theorem fX13_carton_j195_ok {rec : eg_H → Nat → Int32 → Int32 → Int32 → Int32 → Int32 → Int32 → Int32 → Int32 → Int32 → Option (Nat × Int32 × Int32 × Int32 × Int32 × Int32 × eg_H)} {h0 : eg_H} {Z : eg_C → State → Prop} {N S : Nat} (h : eg_H) (l0 : Nat) (l1 : Int32) (l2 : Int32) (l3 : Int32) (l4 : Int32) (l5 : Int32) (l6 : Int32) (l7 : Int32) (l8 : Int32) (l9 : Int32) (s0 : Nat) (s1 : Int32) (s2 : Int32) (s3 : Int32) (s4 : Int32) (eE : Nat × Int32 × Int32 × Int32 × Int32 × Int32 × eg_H) (hF : fX13_carton_j195 rec h l0 l1 l2 l3 l4 l5 l6 l7 l8 l9 s0 s1 s2 s3 s4 = some eE) (hrec : ∀ (h : eg_H) (l0 : Nat) (l1 : Int32) (l2 : Int32) (l3 : Int32) (l4 : Int32) (l5 : Int32) (l6 : Int32) (l7 : Int32) (l8 : Int32) (l9 : Int32), rec h l0 l1 l2 l3 l4 l5 l6 l7 l8 l9 = some eE → eg_AW (RX13, cX13_carton, 10, 398, none, "carton", (some .int)) Z N S h0 162 [(0, .ref l0), (1, .int l1), (2, .int l2), (3, .int l3), (4, .int l4), (5, .int l5), (6, .int l6), (7, .int l7), (8, .int l8), (9, .int l9)] [] h) (hk0 : ∀ (l0 : Nat) (l1 : Int32) (l2 : Int32) (l3 : Int32) (l4 : Int32) (l5 : Int32) (h : eg_H), eE = (l0, l1, l2, l3, l4, l5, h) → eg_AW (RX13, cX13_carton, 10, 398, none, "carton", (some .int)) Z N S h0 224 [(0, .ref l0), (1, .int l1), (2, .int l2), (3, .int l3), (4, .int l4), (5, .int l5)] [] h) : eg_AW (RX13, cX13_carton, 10, 398, none, "carton", (some .int)) Z N S h0 195 [(0, .ref l0), (1, .int l1), (2, .int l2), (3, .int l3), (4, .int l4), (5, .int l5), (6, .int l6), (7, .int l7), (8, .int l8), (9, .int l9)] [.int s4, .int s3, .int s2, .int s1, .ref s0] h := by
  refine eg_iadd dX13_carton_195 ?_
  refine eg_iload (i := 6) 6 dX13_carton_196 rfl ?_
  replace hF := eg_bind hF; obtain ⟨h1, e2, hF⟩ := hF
  refine eg_callV (c := 13) (n := 4) [.int s1, .int s2, .int (s3 + s4), .int l6] dX13_carton_198 (mX13_layBest e2) rfl (fX13_layBest_O e2) (Nat.le_of_ble_eq_true rfl) rfl ew_1965 ew_1967 ew_84 ew_110 ew_1968 hy_X13_layBest rfl (Nat.le_of_ble_eq_true rfl) (Nat.le_of_ble_eq_true rfl) (Nat.le_of_ble_eq_true rfl) ?_
  refine eg_aload_n (i := 0) 0 dX13_carton_201 rfl rfl ?_
  replace hF := eg_bind hF; obtain ⟨p3, e4, hF⟩ := hF
  refine eg_getR dX13_carton_202 e4 (Nat.le_of_ble_eq_true rfl) (Nat.le_of_ble_eq_true rfl) rfl ew_1491 ?_
  refine eg_bipush (v := (6 : Int32)) dX13_carton_205 (by decide) ?_
  refine eg_iload (i := 5) 5 dX13_carton_207 rfl ?_
  refine eg_imul dX13_carton_209 ?_
  refine eg_iload (i := 9) 9 dX13_carton_210 rfl ?_
  refine eg_iadd dX13_carton_212 ?_
  refine eg_aload_n (i := 0) 0 dX13_carton_213 rfl rfl ?_
  replace hF := eg_bind hF; obtain ⟨v5, e6, hF⟩ := hF
  refine eg_getI dX13_carton_214 e6 (Nat.le_of_ble_eq_true rfl) (Nat.le_of_ble_eq_true rfl) rfl ew_1472 ?_
  replace hF := eg_bind hF; obtain ⟨h7, e8, hF⟩ := hF
  refine eg_iast dX13_carton_217 e8 ?_
  refine eg_iinc (i := 9) (v := (l9 + (1 : Int32))) 9 [(9, .int (l9 + (1 : Int32))), (0, .ref l0), (1, .int l1), (2, .int l2), (3, .int l3), (4, .int l4), (5, .int l5), (6, .int l6), (7, .int l7), (8, .int l8)] dX13_carton_218 rfl rfl (Nat.le_of_ble_eq_true rfl) rfl ?_
  refine eg_goto 162 dX13_carton_221 rfl ?_
  exact eg_sub [1, 2, 3, 4, 5, 6, 7, 8, 9, 0] [(0, .ref l0), (1, .int l1), (2, .int l2), (3, .int l3), (4, .int l4), (5, .int l5), (6, .int l6), (7, .int l7), (8, .int l8), (9, .int (l9 + (1 : Int32)))] rfl (hrec h7 l0 l1 l2 l3 l4 l5 l6 l7 l8 (l9 + (1 : Int32)) hF)
def fX13_carton_L162 : Nat → eg_H → Nat → Int32 → Int32 → Int32 → Int32 → Int32 → Int32 → Int32 → Int32 → Int32 → Option (Nat × Int32 × Int32 × Int32 × Int32 × Int32 × eg_H)
  | 0, _, _, _, _, _, _, _, _, _, _, _ => none
  | n + 1, h, l0, l1, l2, l3, l4, l5, l6, l7, l8, l9 =>
    (eg_gI h 13 26 l0).bind fun v1 =>
    if v1 ≤ l9 then
      (some (l0, l1, l2, l3, l4, l5, h))
    else
      if (l5 % (2 : Int32)) = 0 then
        (fX13_carton_j195 (fX13_carton_L162 n) h l0 l1 l2 l3 l4 l5 l6 l7 l8 l9 l0 l7 l8 ((10 : Int32) * l9) l2)
      else
        fX13_carton_j195 (fX13_carton_L162 n) h l0 l1 l2 l3 l4 l5 l6 l7 l8 l9 l0 l7 l8 ((10 : Int32) * l9) ((1 : Int32) - l2)
set_option maxRecDepth 20000 in
theorem fX13_carton_L162_ok {h0 : eg_H} {Z : eg_C → State → Prop} {N S : Nat} : ∀ (n : Nat) (h : eg_H) (l0 : Nat) (l1 : Int32) (l2 : Int32) (l3 : Int32) (l4 : Int32) (l5 : Int32) (l6 : Int32) (l7 : Int32) (l8 : Int32) (l9 : Int32) (eE : Nat × Int32 × Int32 × Int32 × Int32 × Int32 × eg_H), fX13_carton_L162 n h l0 l1 l2 l3 l4 l5 l6 l7 l8 l9 = some eE → (hk0 : ∀ (l0 : Nat) (l1 : Int32) (l2 : Int32) (l3 : Int32) (l4 : Int32) (l5 : Int32) (h : eg_H), eE = (l0, l1, l2, l3, l4, l5, h) → eg_AW (RX13, cX13_carton, 10, 398, none, "carton", (some .int)) Z N S h0 224 [(0, .ref l0), (1, .int l1), (2, .int l2), (3, .int l3), (4, .int l4), (5, .int l5)] [] h) → eg_AW (RX13, cX13_carton, 10, 398, none, "carton", (some .int)) Z N S h0 162 [(0, .ref l0), (1, .int l1), (2, .int l2), (3, .int l3), (4, .int l4), (5, .int l5), (6, .int l6), (7, .int l7), (8, .int l8), (9, .int l9)] [] h := by
  intro n
  induction n with
  | zero => intro h l0 l1 l2 l3 l4 l5 l6 l7 l8 l9 eE hF; exact absurd hF (by intro q; cases q)
  | succ n ih =>
    intro h l0 l1 l2 l3 l4 l5 l6 l7 l8 l9 eE hF hk0
    have hrec := fun (h' : eg_H) (l0 : Nat) (l1 : Int32) (l2 : Int32) (l3 : Int32) (l4 : Int32) (l5 : Int32) (l6 : Int32) (l7 : Int32) (l8 : Int32) (l9 : Int32) hq => ih h' l0 l1 l2 l3 l4 l5 l6 l7 l8 l9 eE hq hk0
    refine eg_iload (i := 9) 9 dX13_carton_162 rfl ?_
    refine eg_aload_n (i := 0) 0 dX13_carton_164 rfl rfl ?_
    replace hF := eg_bind hF; obtain ⟨v1, e2, hF⟩ := hF
    refine eg_getI dX13_carton_165 e2 (Nat.le_of_ble_eq_true rfl) (Nat.le_of_ble_eq_true rfl) rfl ew_1460 ?_
    refine eg_ic_ge 224 dX13_carton_168 rfl (fun c3 => ?_) (fun c3 => ?_)
    · replace hF := eg_it c3 hF
      exact eg_sub [0, 1, 2, 3, 4, 5] [(0, .ref l0), (1, .int l1), (2, .int l2), (3, .int l3), (4, .int l4), (5, .int l5)] rfl (hk0 l0 l1 l2 l3 l4 l5 h (Option.some.inj hF).symm)
    · replace hF := eg_if c3 hF
      refine eg_aload_n (i := 0) 0 dX13_carton_171 rfl rfl ?_
      refine eg_iload (i := 7) 7 dX13_carton_172 rfl ?_
      refine eg_iload (i := 8) 8 dX13_carton_174 rfl ?_
      refine eg_bipush (v := (10 : Int32)) dX13_carton_176 (by decide) ?_
      refine eg_iload (i := 9) 9 dX13_carton_178 rfl ?_
      refine eg_imul dX13_carton_180 ?_
      refine eg_iload (i := 5) 5 dX13_carton_181 rfl ?_
      refine eg_iconst (v := (2 : Int32)) dX13_carton_183 (by decide) ?_
      refine eg_irem dX13_carton_184 (by decide) ?_
      refine eg_if_ne 192 dX13_carton_185 rfl (fun c4 => ?_) (fun c4 => ?_)
      · replace hF := eg_it c4 hF
        refine eg_iload_n (i := 2) 2 dX13_carton_188 rfl rfl ?_
        refine eg_goto 195 dX13_carton_189 rfl ?_
        exact (fX13_carton_j195_ok h l0 l1 l2 l3 l4 l5 l6 l7 l8 l9 l0 l7 l8 ((10 : Int32) * l9) l2 eE hF hrec hk0)
      · replace hF := eg_if c4 hF
        refine eg_iconst (v := (1 : Int32)) dX13_carton_192 (by decide) ?_
        refine eg_iload_n (i := 2) 2 dX13_carton_193 rfl rfl ?_
        refine eg_isub dX13_carton_194 ?_
        exact (fX13_carton_j195_ok h l0 l1 l2 l3 l4 l5 l6 l7 l8 l9 l0 l7 l8 ((10 : Int32) * l9) ((1 : Int32) - l2) eE hF hrec hk0)
def fX13_carton_j137 (rec : eg_H → Nat → Int32 → Int32 → Int32 → Int32 → Int32 → Option (Nat × Int32 × Int32 × eg_H)) (h : eg_H) (l0 : Nat) (l1 : Int32) (l2 : Int32) (l3 : Int32) (l4 : Int32) (l5 : Int32) (l6 : Int32) (l7 : Int32) (s0 : Int32) : Option (Nat × Int32 × Int32 × eg_H) :=
  (eg_gR h 13 58 l0).bind fun p1 =>
  (eg_gR h 13 20 l0).bind fun p3 =>
  (eg_aI h 100 p3 ((4 : Int32) * l7)).bind fun v5 =>
  (eg_wI h 100 p1 l5 (((2 : Int32) * v5) + (1 : Int32))).bind fun h7 =>
  (fX13_carton_L162 eg_F h7 l0 l1 l2 l3 l4 l5 l6 l7 s0 (0 : Int32)).bind fun e =>
  match e with
  | (p11, v12, v13, v14, v15, v16, h17) =>
    rec h17 p11 v12 v13 v14 v15 (v16 + (1 : Int32))
set_option maxRecDepth 20000 in
theorem fX13_carton_j137_ok {rec : eg_H → Nat → Int32 → Int32 → Int32 → Int32 → Int32 → Option (Nat × Int32 × Int32 × eg_H)} {h0 : eg_H} {Z : eg_C → State → Prop} {N S : Nat} (h : eg_H) (l0 : Nat) (l1 : Int32) (l2 : Int32) (l3 : Int32) (l4 : Int32) (l5 : Int32) (l6 : Int32) (l7 : Int32) (s0 : Int32) (eE : Nat × Int32 × Int32 × eg_H) (hF : fX13_carton_j137 rec h l0 l1 l2 l3 l4 l5 l6 l7 s0 = some eE) (hrec : ∀ (h : eg_H) (l0 : Nat) (l1 : Int32) (l2 : Int32) (l3 : Int32) (l4 : Int32) (l5 : Int32), rec h l0 l1 l2 l3 l4 l5 = some eE → eg_AW (RX13, cX13_carton, 10, 398, none, "carton", (some .int)) Z N S h0 75 [(0, .ref l0), (1, .int l1), (2, .int l2), (3, .int l3), (4, .int l4), (5, .int l5)] [] h) (hk0 : ∀ (l0 : Nat) (l3 : Int32) (l4 : Int32) (h : eg_H), eE = (l0, l3, l4, h) → eg_AW (RX13, cX13_carton, 10, 398, none, "carton", (some .int)) Z N S h0 230 [(0, .ref l0), (3, .int l3), (4, .int l4)] [] h) : eg_AW (RX13, cX13_carton, 10, 398, none, "carton", (some .int)) Z N S h0 137 [(0, .ref l0), (1, .int l1), (2, .int l2), (3, .int l3), (4, .int l4), (5, .int l5), (6, .int l6), (7, .int l7)] [.int s0] h := by
  refine eg_istore (i := 8) [(8, .int s0), (0, .ref l0), (1, .int l1), (2, .int l2), (3, .int l3), (4, .int l4), (5, .int l5), (6, .int l6), (7, .int l7)] dX13_carton_137 (Nat.le_of_ble_eq_true rfl) rfl ?_
  refine eg_aload_n (i := 0) 1 dX13_carton_139 rfl rfl ?_
  replace hF := eg_bind hF; obtain ⟨p1, e2, hF⟩ := hF
  refine eg_getR dX13_carton_140 e2 (Nat.le_of_ble_eq_true rfl) (Nat.le_of_ble_eq_true rfl) rfl ew_1492 ?_
  refine eg_iload (i := 5) 6 dX13_carton_143 rfl ?_
  refine eg_iconst (v := (2 : Int32)) dX13_carton_145 (by decide) ?_
  refine eg_aload_n (i := 0) 1 dX13_carton_146 rfl rfl ?_
  replace hF := eg_bind hF; obtain ⟨p3, e4, hF⟩ := hF
  refine eg_getR dX13_carton_147 e4 (Nat.le_of_ble_eq_true rfl) (Nat.le_of_ble_eq_true rfl) rfl ew_1454 ?_
  refine eg_iconst (v := (4 : Int32)) dX13_carton_150 (by decide) ?_
  refine eg_iload (i := 7) 8 dX13_carton_151 rfl ?_
  refine eg_imul dX13_carton_153 ?_
  replace hF := eg_bind hF; obtain ⟨v5, e6, hF⟩ := hF
  refine eg_iald dX13_carton_154 e6 ?_
  refine eg_imul dX13_carton_155 ?_
  refine eg_iconst (v := (1 : Int32)) dX13_carton_156 (by decide) ?_
  refine eg_iadd dX13_carton_157 ?_
  replace hF := eg_bind hF; obtain ⟨h7, e8, hF⟩ := hF
  refine eg_iast dX13_carton_158 e8 ?_
  refine eg_iconst (v := (0 : Int32)) dX13_carton_159 (by decide) ?_
  refine eg_istore (i := 9) [(9, .int (0 : Int32)), (8, .int s0), (0, .ref l0), (1, .int l1), (2, .int l2), (3, .int l3), (4, .int l4), (5, .int l5), (6, .int l6), (7, .int l7)] dX13_carton_160 (Nat.le_of_ble_eq_true rfl) rfl ?_
  replace hF := eg_bind hF; obtain ⟨x10, e9, hF⟩ := hF
  refine eg_sub [2, 3, 4, 5, 6, 7, 8, 9, 1, 0] [(0, .ref l0), (1, .int l1), (2, .int l2), (3, .int l3), (4, .int l4), (5, .int l5), (6, .int l6), (7, .int l7), (8, .int s0), (9, .int (0 : Int32))] rfl (fX13_carton_L162_ok eg_F h7 l0 l1 l2 l3 l4 l5 l6 l7 s0 (0 : Int32) x10 e9 ?_)
  · intro p11 v12 v13 v14 v15 v16 h17 e18
    subst e18
    refine eg_iinc (i := 5) (v := (v16 + (1 : Int32))) 5 [(5, .int (v16 + (1 : Int32))), (0, .ref p11), (1, .int v12), (2, .int v13), (3, .int v14), (4, .int v15)] dX13_carton_224 rfl rfl (Nat.le_of_ble_eq_true rfl) rfl ?_
    refine eg_goto 75 dX13_carton_227 rfl ?_
    exact eg_sub [1, 2, 3, 4, 5, 0] [(0, .ref p11), (1, .int v12), (2, .int v13), (3, .int v14), (4, .int v15), (5, .int (v16 + (1 : Int32)))] rfl (hrec h17 p11 v12 v13 v14 v15 (v16 + (1 : Int32)) hF)
def fX13_carton_j117 (rec : eg_H → Nat → Int32 → Int32 → Int32 → Int32 → Int32 → Option (Nat × Int32 × Int32 × eg_H)) (h : eg_H) (l0 : Nat) (l1 : Int32) (l2 : Int32) (l3 : Int32) (l4 : Int32) (l5 : Int32) (l6 : Int32) (s0 : Int32) : Option (Nat × Int32 × Int32 × eg_H) :=
  if (l5 % (2 : Int32)) = 0 then
    (fX13_carton_j137 rec h l0 l1 l2 l3 l4 l5 l6 s0 (l1 % (10 : Int32)))
  else
    fX13_carton_j137 rec h l0 l1 l2 l3 l4 l5 l6 s0 (l1 / (10 : Int32))
set_option maxRecDepth 20000 in
theorem fX13_carton_j117_ok {rec : eg_H → Nat → Int32 → Int32 → Int32 → Int32 → Int32 → Option (Nat × Int32 × Int32 × eg_H)} {h0 : eg_H} {Z : eg_C → State → Prop} {N S : Nat} (h : eg_H) (l0 : Nat) (l1 : Int32) (l2 : Int32) (l3 : Int32) (l4 : Int32) (l5 : Int32) (l6 : Int32) (s0 : Int32) (eE : Nat × Int32 × Int32 × eg_H) (hF : fX13_carton_j117 rec h l0 l1 l2 l3 l4 l5 l6 s0 = some eE) (hrec : ∀ (h : eg_H) (l0 : Nat) (l1 : Int32) (l2 : Int32) (l3 : Int32) (l4 : Int32) (l5 : Int32), rec h l0 l1 l2 l3 l4 l5 = some eE → eg_AW (RX13, cX13_carton, 10, 398, none, "carton", (some .int)) Z N S h0 75 [(0, .ref l0), (1, .int l1), (2, .int l2), (3, .int l3), (4, .int l4), (5, .int l5)] [] h) (hk0 : ∀ (l0 : Nat) (l3 : Int32) (l4 : Int32) (h : eg_H), eE = (l0, l3, l4, h) → eg_AW (RX13, cX13_carton, 10, 398, none, "carton", (some .int)) Z N S h0 230 [(0, .ref l0), (3, .int l3), (4, .int l4)] [] h) : eg_AW (RX13, cX13_carton, 10, 398, none, "carton", (some .int)) Z N S h0 117 [(0, .ref l0), (1, .int l1), (2, .int l2), (3, .int l3), (4, .int l4), (5, .int l5), (6, .int l6)] [.int s0] h := by
  refine eg_istore (i := 7) [(7, .int s0), (0, .ref l0), (1, .int l1), (2, .int l2), (3, .int l3), (4, .int l4), (5, .int l5), (6, .int l6)] dX13_carton_117 (Nat.le_of_ble_eq_true rfl) rfl ?_
  refine eg_iload (i := 5) 6 dX13_carton_119 rfl ?_
  refine eg_iconst (v := (2 : Int32)) dX13_carton_121 (by decide) ?_
  refine eg_irem dX13_carton_122 (by decide) ?_
  refine eg_if_ne 133 dX13_carton_123 rfl (fun c1 => ?_) (fun c1 => ?_)
  · replace hF := eg_it c1 hF
    refine eg_iload_n (i := 1) 2 dX13_carton_126 rfl rfl ?_
    refine eg_bipush (v := (10 : Int32)) dX13_carton_127 (by decide) ?_
    refine eg_irem dX13_carton_129 (by decide) ?_
    refine eg_goto 137 dX13_carton_130 rfl ?_
    exact eg_sub [1, 2, 3, 4, 5, 6, 7, 0] [(0, .ref l0), (1, .int l1), (2, .int l2), (3, .int l3), (4, .int l4), (5, .int l5), (6, .int l6), (7, .int s0)] rfl (fX13_carton_j137_ok h l0 l1 l2 l3 l4 l5 l6 s0 (l1 % (10 : Int32)) eE hF hrec hk0)
  · replace hF := eg_if c1 hF
    refine eg_iload_n (i := 1) 2 dX13_carton_133 rfl rfl ?_
    refine eg_bipush (v := (10 : Int32)) dX13_carton_134 (by decide) ?_
    refine eg_idiv dX13_carton_136 (by decide) ?_
    exact eg_sub [1, 2, 3, 4, 5, 6, 7, 0] [(0, .ref l0), (1, .int l1), (2, .int l2), (3, .int l3), (4, .int l4), (5, .int l5), (6, .int l6), (7, .int s0)] rfl (fX13_carton_j137_ok h l0 l1 l2 l3 l4 l5 l6 s0 (l1 / (10 : Int32)) eE hF hrec hk0)
def fX13_carton_L75 : Nat → eg_H → Nat → Int32 → Int32 → Int32 → Int32 → Int32 → Option (Nat × Int32 × Int32 × eg_H)
  | 0, _, _, _, _, _, _, _ => none
  | n + 1, h, l0, l1, l2, l3, l4, l5 =>
    if l3 ≤ l5 then
      (some (l0, l3, l4, h))
    else
      (eg_gR h 13 18 l0).bind fun p2 =>
      (eg_aI h 100 p2 (3 : Int32)).bind fun v4 =>
      (eg_gR h 13 18 l0).bind fun p6 =>
      (eg_aI h 100 p6 (2 : Int32)).bind fun v8 =>
      (some ((v4 + (l5 * v8)))).bind fun v10 =>
      if (l5 % (2 : Int32)) = 0 then
        (fX13_carton_j117 (fX13_carton_L75 n) h l0 l1 l2 l3 l4 l5 v10 (l1 / (10 : Int32)))
      else
        fX13_carton_j117 (fX13_carton_L75 n) h l0 l1 l2 l3 l4 l5 v10 (l1 % (10 : Int32))
set_option maxRecDepth 20000 in
theorem fX13_carton_L75_ok {h0 : eg_H} {Z : eg_C → State → Prop} {N S : Nat} : ∀ (n : Nat) (h : eg_H) (l0 : Nat) (l1 : Int32) (l2 : Int32) (l3 : Int32) (l4 : Int32) (l5 : Int32) (eE : Nat × Int32 × Int32 × eg_H), fX13_carton_L75 n h l0 l1 l2 l3 l4 l5 = some eE → (hk0 : ∀ (l0 : Nat) (l3 : Int32) (l4 : Int32) (h : eg_H), eE = (l0, l3, l4, h) → eg_AW (RX13, cX13_carton, 10, 398, none, "carton", (some .int)) Z N S h0 230 [(0, .ref l0), (3, .int l3), (4, .int l4)] [] h) → eg_AW (RX13, cX13_carton, 10, 398, none, "carton", (some .int)) Z N S h0 75 [(0, .ref l0), (1, .int l1), (2, .int l2), (3, .int l3), (4, .int l4), (5, .int l5)] [] h := by
  intro n
  induction n with
  | zero => intro h l0 l1 l2 l3 l4 l5 eE hF; exact absurd hF (by intro q; cases q)
  | succ n ih =>
    intro h l0 l1 l2 l3 l4 l5 eE hF hk0
    have hrec := fun (h' : eg_H) (l0 : Nat) (l1 : Int32) (l2 : Int32) (l3 : Int32) (l4 : Int32) (l5 : Int32) hq => ih h' l0 l1 l2 l3 l4 l5 eE hq hk0
    refine eg_iload (i := 5) 5 dX13_carton_75 rfl ?_
    refine eg_iload_n (i := 3) 3 dX13_carton_77 rfl rfl ?_
    refine eg_ic_ge 230 dX13_carton_78 rfl (fun c1 => ?_) (fun c1 => ?_)
    · replace hF := eg_it c1 hF
      exact eg_sub [0, 3, 4] [(0, .ref l0), (3, .int l3), (4, .int l4)] rfl (hk0 l0 l3 l4 h (Option.some.inj hF).symm)
    · replace hF := eg_if c1 hF
      refine eg_aload_n (i := 0) 0 dX13_carton_81 rfl rfl ?_
      replace hF := eg_bind hF; obtain ⟨p2, e3, hF⟩ := hF
      refine eg_getR dX13_carton_82 e3 (Nat.le_of_ble_eq_true rfl) (Nat.le_of_ble_eq_true rfl) rfl ew_1452 ?_
      refine eg_iconst (v := (3 : Int32)) dX13_carton_85 (by decide) ?_
      replace hF := eg_bind hF; obtain ⟨v4, e5, hF⟩ := hF
      refine eg_iald dX13_carton_86 e5 ?_
      refine eg_iload (i := 5) 5 dX13_carton_87 rfl ?_
      refine eg_aload_n (i := 0) 0 dX13_carton_89 rfl rfl ?_
      replace hF := eg_bind hF; obtain ⟨p6, e7, hF⟩ := hF
      refine eg_getR dX13_carton_90 e7 (Nat.le_of_ble_eq_true rfl) (Nat.le_of_ble_eq_true rfl) rfl ew_1452 ?_
      refine eg_iconst (v := (2 : Int32)) dX13_carton_93 (by decide) ?_
      replace hF := eg_bind hF; obtain ⟨v8, e9, hF⟩ := hF
      refine eg_iald dX13_carton_94 e9 ?_
      refine eg_imul dX13_carton_95 ?_
      refine eg_iadd dX13_carton_96 ?_
      replace hF := eg_bind hF; obtain ⟨v10, e11, hF⟩ := hF
      replace e11 := Option.some.inj e11
      rw [e11]
      refine eg_istore (i := 6) [(6, .int v10), (0, .ref l0), (1, .int l1), (2, .int l2), (3, .int l3), (4, .int l4), (5, .int l5)] dX13_carton_97 (Nat.le_of_ble_eq_true rfl) rfl ?_
      refine eg_iload (i := 5) 6 dX13_carton_99 rfl ?_
      refine eg_iconst (v := (2 : Int32)) dX13_carton_101 (by decide) ?_
      refine eg_irem dX13_carton_102 (by decide) ?_
      refine eg_if_ne 113 dX13_carton_103 rfl (fun c12 => ?_) (fun c12 => ?_)
      · replace hF := eg_it c12 hF
        refine eg_iload_n (i := 1) 2 dX13_carton_106 rfl rfl ?_
        refine eg_bipush (v := (10 : Int32)) dX13_carton_107 (by decide) ?_
        refine eg_idiv dX13_carton_109 (by decide) ?_
        refine eg_goto 117 dX13_carton_110 rfl ?_
        exact eg_sub [1, 2, 3, 4, 5, 6, 0] [(0, .ref l0), (1, .int l1), (2, .int l2), (3, .int l3), (4, .int l4), (5, .int l5), (6, .int v10)] rfl (fX13_carton_j117_ok h l0 l1 l2 l3 l4 l5 v10 (l1 / (10 : Int32)) eE hF hrec hk0)
      · replace hF := eg_if c12 hF
        refine eg_iload_n (i := 1) 2 dX13_carton_113 rfl rfl ?_
        refine eg_bipush (v := (10 : Int32)) dX13_carton_114 (by decide) ?_
        refine eg_irem dX13_carton_116 (by decide) ?_
        exact eg_sub [1, 2, 3, 4, 5, 6, 0] [(0, .ref l0), (1, .int l1), (2, .int l2), (3, .int l3), (4, .int l4), (5, .int l5), (6, .int v10)] rfl (fX13_carton_j117_ok h l0 l1 l2 l3 l4 l5 v10 (l1 % (10 : Int32)) eE hF hrec hk0)
def fX13_carton (h : eg_H) (l0 : Nat) (l1 : Int32) (l2 : Int32) (l3 : Int32) (l4 : Int32) : Option (Int32 × eg_H) :=
  if eg_isO h 13 l0 then (
    (eg_pI h 13 0 l0 (0 : Int32)).bind fun h1 =>
    (fX13_isTwo h1 l0 l1).bind fun ⟨v4, h3⟩ =>
    if v4 = 0 then
      (some ((-1 : Int32), h3))
    else
      (fX13_isIn h3 l2.toInt64 (0 : Int64) (1 : Int64)).bind fun ⟨v8, h7⟩ =>
      if v8 = 0 then
        (some ((-1 : Int32), h7))
      else
        (eg_gI h7 13 26 l0).bind fun v11 =>
        (fX13_isIn h7 l3.toInt64 (1 : Int64) v11.toInt64).bind fun ⟨v14, h13⟩ =>
        if v14 = 0 then
          (some ((-1 : Int32), h13))
        else
          (fX13_isIn h13 l4.toInt64 (0 : Int64) (1 : Int64)).bind fun ⟨v18, h17⟩ =>
          if v18 = 0 then
            (some ((-1 : Int32), h17))
          else
            (eg_gR h17 13 18 l0).bind fun p21 =>
            (eg_aI h17 100 p21 (3 : Int32)).bind fun v23 =>
            (eg_gR h17 13 18 l0).bind fun p25 =>
            (eg_aI h17 100 p25 (2 : Int32)).bind fun v27 =>
            if (v23 + ((l3 - (1 : Int32)) * v27)) ≤ (60 : Int32) then
              ((fX13_carton_L75 eg_F h17 l0 l1 l2 l3 l4 (0 : Int32)).bind fun e =>
              match e with
              | (p32, v33, v34, h35) =>
                (eg_pI h35 13 60 p32 (-1 : Int32)).bind fun h36 =>
                (fX13_goCarton eg_D h36 p32 (0 : Int32) v33 (0 : Int32) (0 : Int32) (1000000000 : Int32)).bind fun h38 =>
                if v34 = 0 then
                  ((eg_gI h38 13 59 p32).bind fun v41 =>
                  some (v41, h38))
                else
                  (eg_gI h38 13 60 p32).bind fun v43 =>
                  some (v43, h38))
            else
              some ((-1 : Int32), h17)) else none
theorem fX13_carton_O {h : eg_H} {l0 : Nat} {l1 : Int32} {l2 : Int32} {l3 : Int32} {l4 : Int32} {rE : Int32} {hE : eg_H} (hF : fX13_carton h l0 l1 l2 l3 l4 = some (rE, hE)) : eg_isO h 13 l0 := (eg_ifn hF).1
set_option maxRecDepth 20000 in
theorem mX13_carton {h : eg_H} {l0 : Nat} {l1 : Int32} {l2 : Int32} {l3 : Int32} {l4 : Int32} {rE : Int32} {hE : eg_H} (hF : fX13_carton h l0 l1 l2 l3 l4 = some (rE, hE)) : eg_Met yX13_carton cX13_carton 10 (some .int) 398 [.ref l0, .int l1, .int l2, .int l3, .int l4] h (some (.int rE)) hE := by
  refine eg_enter rfl (Nat.le_of_ble_eq_true rfl) ?_
  show eg_AW (RX13, cX13_carton, 10, 398, none, "carton", (some .int)) (eg_Zm (some (.int rE)) hE h) (eg_nc hE) (eg_ns hE) h 0 [(0, .ref l0), (1, .int l1), (2, .int l2), (3, .int l3), (4, .int l4)] [] h
  replace hF := (eg_ifn hF).2
  refine eg_aload_n (i := 0) 0 dX13_carton_0 rfl rfl ?_
  refine eg_iconst (v := (0 : Int32)) dX13_carton_1 (by decide) ?_
  replace hF := eg_bind hF; obtain ⟨h1, e2, hF⟩ := hF
  refine eg_putI dX13_carton_2 e2 (Nat.le_of_ble_eq_true rfl) (Nat.le_of_ble_eq_true rfl) rfl ew_1434 (Or.inl rfl) ?_
  refine eg_aload_n (i := 0) 0 dX13_carton_5 rfl rfl ?_
  refine eg_iload_n (i := 1) 1 dX13_carton_6 rfl rfl ?_
  replace hF := eg_bind hF; obtain ⟨⟨v4, h3⟩, e5, hF⟩ := hF
  refine eg_callV (c := 13) (n := 1) [.int l1] dX13_carton_7 (mX13_isTwo e5) rfl (fX13_isTwo_O e5) (Nat.le_of_ble_eq_true rfl) rfl ew_1929 ew_1931 ew_76 ew_110 ew_1932 hy_X13_isTwo rfl (Nat.le_of_ble_eq_true rfl) (Nat.le_of_ble_eq_true rfl) (Nat.le_of_ble_eq_true rfl) ?_
  refine eg_if_eq 70 dX13_carton_10 rfl (fun c6 => ?_) (fun c6 => ?_)
  · replace hF := eg_it c6 hF
    refine eg_iconst (v := (-1 : Int32)) dX13_carton_70 (by decide) ?_
    exact eg_iretE dX13_carton_71 hF
  · replace hF := eg_if c6 hF
    refine eg_iload_n (i := 2) 2 dX13_carton_13 rfl rfl ?_
    refine eg_i2l dX13_carton_14 ?_
    refine eg_lconst (v := (0 : Int64)) dX13_carton_15 (by decide) ?_
    refine eg_lconst (v := (1 : Int64)) dX13_carton_16 (by decide) ?_
    replace hF := eg_bind hF; obtain ⟨⟨v8, h7⟩, e9, hF⟩ := hF
    refine eg_callS (n := 3) [.long l2.toInt64, .long (0 : Int64), .long (1 : Int64)] dX13_carton_17 (mX13_isIn e9) rfl ew_1697 ew_1698 ew_110 ew_1699 hy_X13_isIn.2 rfl (Nat.le_of_ble_eq_true rfl) (Nat.le_of_ble_eq_true rfl) (Nat.le_of_ble_eq_true rfl) ?_
    refine eg_if_eq 70 dX13_carton_20 rfl (fun c10 => ?_) (fun c10 => ?_)
    · replace hF := eg_it c10 hF
      refine eg_iconst (v := (-1 : Int32)) dX13_carton_70 (by decide) ?_
      exact eg_iretE dX13_carton_71 hF
    · replace hF := eg_if c10 hF
      refine eg_iload_n (i := 3) 3 dX13_carton_23 rfl rfl ?_
      refine eg_i2l dX13_carton_24 ?_
      refine eg_lconst (v := (1 : Int64)) dX13_carton_25 (by decide) ?_
      refine eg_aload_n (i := 0) 0 dX13_carton_26 rfl rfl ?_
      replace hF := eg_bind hF; obtain ⟨v11, e12, hF⟩ := hF
      refine eg_getI dX13_carton_27 e12 (Nat.le_of_ble_eq_true rfl) (Nat.le_of_ble_eq_true rfl) rfl ew_1460 ?_
      refine eg_i2l dX13_carton_30 ?_
      replace hF := eg_bind hF; obtain ⟨⟨v14, h13⟩, e15, hF⟩ := hF
      refine eg_callS (n := 3) [.long l3.toInt64, .long (1 : Int64), .long v11.toInt64] dX13_carton_31 (mX13_isIn e15) rfl ew_1697 ew_1698 ew_110 ew_1699 hy_X13_isIn.2 rfl (Nat.le_of_ble_eq_true rfl) (Nat.le_of_ble_eq_true rfl) (Nat.le_of_ble_eq_true rfl) ?_
      refine eg_if_eq 70 dX13_carton_34 rfl (fun c16 => ?_) (fun c16 => ?_)
      · replace hF := eg_it c16 hF
        refine eg_iconst (v := (-1 : Int32)) dX13_carton_70 (by decide) ?_
        exact eg_iretE dX13_carton_71 hF
      · replace hF := eg_if c16 hF
        refine eg_iload (i := 4) 4 dX13_carton_37 rfl ?_
        refine eg_i2l dX13_carton_39 ?_
        refine eg_lconst (v := (0 : Int64)) dX13_carton_40 (by decide) ?_
        refine eg_lconst (v := (1 : Int64)) dX13_carton_41 (by decide) ?_
        replace hF := eg_bind hF; obtain ⟨⟨v18, h17⟩, e19, hF⟩ := hF
        refine eg_callS (n := 3) [.long l4.toInt64, .long (0 : Int64), .long (1 : Int64)] dX13_carton_42 (mX13_isIn e19) rfl ew_1697 ew_1698 ew_110 ew_1699 hy_X13_isIn.2 rfl (Nat.le_of_ble_eq_true rfl) (Nat.le_of_ble_eq_true rfl) (Nat.le_of_ble_eq_true rfl) ?_
        refine eg_if_eq 70 dX13_carton_45 rfl (fun c20 => ?_) (fun c20 => ?_)
        · replace hF := eg_it c20 hF
          refine eg_iconst (v := (-1 : Int32)) dX13_carton_70 (by decide) ?_
          exact eg_iretE dX13_carton_71 hF
        · replace hF := eg_if c20 hF
          refine eg_aload_n (i := 0) 0 dX13_carton_48 rfl rfl ?_
          replace hF := eg_bind hF; obtain ⟨p21, e22, hF⟩ := hF
          refine eg_getR dX13_carton_49 e22 (Nat.le_of_ble_eq_true rfl) (Nat.le_of_ble_eq_true rfl) rfl ew_1452 ?_
          refine eg_iconst (v := (3 : Int32)) dX13_carton_52 (by decide) ?_
          replace hF := eg_bind hF; obtain ⟨v23, e24, hF⟩ := hF
          refine eg_iald dX13_carton_53 e24 ?_
          refine eg_iload_n (i := 3) 3 dX13_carton_54 rfl rfl ?_
          refine eg_iconst (v := (1 : Int32)) dX13_carton_55 (by decide) ?_
          refine eg_isub dX13_carton_56 ?_
          refine eg_aload_n (i := 0) 0 dX13_carton_57 rfl rfl ?_
          replace hF := eg_bind hF; obtain ⟨p25, e26, hF⟩ := hF
          refine eg_getR dX13_carton_58 e26 (Nat.le_of_ble_eq_true rfl) (Nat.le_of_ble_eq_true rfl) rfl ew_1452 ?_
          refine eg_iconst (v := (2 : Int32)) dX13_carton_61 (by decide) ?_
          replace hF := eg_bind hF; obtain ⟨v27, e28, hF⟩ := hF
          refine eg_iald dX13_carton_62 e28 ?_
          refine eg_imul dX13_carton_63 ?_
          refine eg_iadd dX13_carton_64 ?_
          refine eg_bipush (v := (60 : Int32)) dX13_carton_65 (by decide) ?_
          refine eg_ic_le 72 dX13_carton_67 rfl (fun c29 => ?_) (fun c29 => ?_)
          · replace hF := eg_it c29 hF
            refine eg_iconst (v := (0 : Int32)) dX13_carton_72 (by decide) ?_
            refine eg_istore (i := 5) [(5, .int (0 : Int32)), (0, .ref l0), (1, .int l1), (2, .int l2), (3, .int l3), (4, .int l4)] dX13_carton_73 (Nat.le_of_ble_eq_true rfl) rfl ?_
            replace hF := eg_bind hF; obtain ⟨x31, e30, hF⟩ := hF
            refine eg_sub [1, 2, 3, 4, 5, 0] [(0, .ref l0), (1, .int l1), (2, .int l2), (3, .int l3), (4, .int l4), (5, .int (0 : Int32))] rfl (fX13_carton_L75_ok eg_F h17 l0 l1 l2 l3 l4 (0 : Int32) x31 e30 ?_)
            · intro p32 v33 v34 h35 e45
              subst e45
              refine eg_aload_n (i := 0) 0 dX13_carton_230 rfl rfl ?_
              refine eg_iconst (v := (-1 : Int32)) dX13_carton_231 (by decide) ?_
              replace hF := eg_bind hF; obtain ⟨h36, e37, hF⟩ := hF
              refine eg_putI dX13_carton_232 e37 (Nat.le_of_ble_eq_true rfl) (Nat.le_of_ble_eq_true rfl) rfl ew_1494 (Or.inl rfl) ?_
              refine eg_aload_n (i := 0) 0 dX13_carton_235 rfl rfl ?_
              refine eg_iconst (v := (0 : Int32)) dX13_carton_236 (by decide) ?_
              refine eg_iload_n (i := 3) 1 dX13_carton_237 rfl rfl ?_
              refine eg_iconst (v := (0 : Int32)) dX13_carton_238 (by decide) ?_
              refine eg_iconst (v := (0 : Int32)) dX13_carton_239 (by decide) ?_
              refine eg_ldcw (v := (1000000000 : Int32)) dX13_carton_240 ew_1977 ?_
              replace hF := eg_bind hF; obtain ⟨h38, e39, hF⟩ := hF
              refine eg_callV (c := 13) (n := 5) [.int (0 : Int32), .int v33, .int (0 : Int32), .int (0 : Int32), .int (1000000000 : Int32)] dX13_carton_243 (mX13_goCarton eg_D e39) rfl (fX13_goCarton_O e39) (Nat.le_of_ble_eq_true rfl) rfl ew_2121 ew_2123 ew_94 ew_110 ew_2124 hy_X13_goCarton rfl (Nat.le_of_ble_eq_true rfl) (Nat.le_of_ble_eq_true rfl) (Nat.le_of_ble_eq_true rfl) ?_
              refine eg_iload (i := 4) 2 dX13_carton_246 rfl ?_
              refine eg_if_ne 258 dX13_carton_248 rfl (fun c40 => ?_) (fun c40 => ?_)
              · replace hF := eg_it c40 hF
                refine eg_aload_n (i := 0) 0 dX13_carton_251 rfl rfl ?_
                replace hF := eg_bind hF; obtain ⟨v41, e42, hF⟩ := hF
                refine eg_getI dX13_carton_252 e42 (Nat.le_of_ble_eq_true rfl) (Nat.le_of_ble_eq_true rfl) rfl ew_1493 ?_
                refine eg_goto 262 dX13_carton_255 rfl ?_
                exact eg_iretE dX13_carton_262 hF
              · replace hF := eg_if c40 hF
                refine eg_aload_n (i := 0) 0 dX13_carton_258 rfl rfl ?_
                replace hF := eg_bind hF; obtain ⟨v43, e44, hF⟩ := hF
                refine eg_getI dX13_carton_259 e44 (Nat.le_of_ble_eq_true rfl) (Nat.le_of_ble_eq_true rfl) rfl ew_1494 ?_
                exact eg_iretE dX13_carton_262 hF
          · replace hF := eg_if c29 hF
            refine eg_iconst (v := (-1 : Int32)) dX13_carton_70 (by decide) ?_
            exact eg_iretE dX13_carton_71 hF
