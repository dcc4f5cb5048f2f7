theorem dX13_usual_0 : decode cX13_usual 0 = .ok (.iload_n 0, 1) := by decide +kernel
theorem dX13_usual_1 : decode cX13_usual 1 = .ok (.bipush 109, 2) := by decide +kernel
theorem dX13_usual_3 : decode cX13_usual 3 = .ok (.if_icmp .ne 23, 3) := by decide +kernel
theorem dX13_usual_6 : decode cX13_usual 6 = .ok (.iload_n 1, 1) := by decide +kernel
theorem dX13_usual_7 : decode cX13_usual 7 = .ok (.iconst 2, 1) := by decide +kernel
theorem dX13_usual_8 : decode cX13_usual 8 = .ok (.if_icmp .ne 7, 3) := by decide +kernel
theorem dX13_usual_11 : decode cX13_usual 11 = .ok (.iconst 2, 1) := by decide +kernel
theorem dX13_usual_12 : decode cX13_usual 12 = .ok (.goto 13, 3) := by decide +kernel
theorem dX13_usual_15 : decode cX13_usual 15 = .ok (.iload_n 1, 1) := by decide +kernel
theorem dX13_usual_16 : decode cX13_usual 16 = .ok (.iconst 3, 1) := by decide +kernel
theorem dX13_usual_17 : decode cX13_usual 17 = .ok (.if_icmp .ne 7, 3) := by decide +kernel
theorem dX13_usual_20 : decode cX13_usual 20 = .ok (.iconst 4, 1) := by decide +kernel
theorem dX13_usual_21 : decode cX13_usual 21 = .ok (.goto 4, 3) := by decide +kernel
theorem dX13_usual_24 : decode cX13_usual 24 = .ok (.iconst 0, 1) := by decide +kernel
theorem dX13_usual_25 : decode cX13_usual 25 = .ok (.ireturn, 1) := by decide +kernel
theorem dX13_usual_26 : decode cX13_usual 26 = .ok (.iload_n 0, 1) := by decide +kernel
theorem dX13_usual_27 : decode cX13_usual 27 = .ok (.bipush 112, 2) := by decide +kernel
theorem dX13_usual_29 : decode cX13_usual 29 = .ok (.if_icmp .ne 23, 3) := by decide +kernel
theorem dX13_usual_32 : decode cX13_usual 32 = .ok (.iload_n 1, 1) := by decide +kernel
theorem dX13_usual_33 : decode cX13_usual 33 = .ok (.iconst 1, 1) := by decide +kernel
theorem dX13_usual_34 : decode cX13_usual 34 = .ok (.if_icmp .ne 7, 3) := by decide +kernel
theorem dX13_usual_37 : decode cX13_usual 37 = .ok (.iconst 3, 1) := by decide +kernel
theorem dX13_usual_38 : decode cX13_usual 38 = .ok (.goto 13, 3) := by decide +kernel
theorem dX13_usual_41 : decode cX13_usual 41 = .ok (.iload_n 1, 1) := by decide +kernel
theorem dX13_usual_42 : decode cX13_usual 42 = .ok (.iconst 3, 1) := by decide +kernel
theorem dX13_usual_43 : decode cX13_usual 43 = .ok (.if_icmp .ne 7, 3) := by decide +kernel
theorem dX13_usual_46 : decode cX13_usual 46 = .ok (.iconst 5, 1) := by decide +kernel
theorem dX13_usual_47 : decode cX13_usual 47 = .ok (.goto 4, 3) := by decide +kernel
theorem dX13_usual_50 : decode cX13_usual 50 = .ok (.iconst 1, 1) := by decide +kernel
theorem dX13_usual_51 : decode cX13_usual 51 = .ok (.ireturn, 1) := by decide +kernel
theorem dX13_usual_52 : decode cX13_usual 52 = .ok (.iload_n 1, 1) := by decide +kernel
theorem dX13_usual_53 : decode cX13_usual 53 = .ok (.ifCond .ne 8, 3) := by decide +kernel
theorem dX13_usual_56 : decode cX13_usual 56 = .ok (.bipush 30, 2) := by decide +kernel
theorem dX13_usual_58 : decode cX13_usual 58 = .ok (.goto 4, 3) := by decide +kernel
theorem dX13_usual_61 : decode cX13_usual 61 = .ok (.iconst 0, 1) := by decide +kernel
theorem dX13_usual_62 : decode cX13_usual 62 = .ok (.ireturn, 1) := by decide +kernel
def fX13_usual (h : eg_H) (l0 : Int32) (l1 : Int32) : Option (Int32 × eg_H) :=
  if l0 = (109 : Int32) then
    (if l1 = (2 : Int32) then
      (some ((2 : Int32), h))
    else
      if l1 = (3 : Int32) then
        (some ((4 : Int32), h))
      else
        some ((0 : Int32), h))
  else
    if l0 = (112 : Int32) then
      (if l1 = (1 : Int32) then
        (some ((3 : Int32), h))
      else
        if l1 = (3 : Int32) then
          (some ((5 : Int32), h))
        else
          some ((1 : Int32), h))
    else
      if l1 = 0 then
        (some ((30 : Int32), h))
      else
        some ((0 : Int32), h)
set_option maxRecDepth 20000 in
theorem mX13_usual {h : eg_H} {l0 : Int32} {l1 : Int32} {rE : Int32} {hE : eg_H} (hF : fX13_usual h l0 l1 = some (rE, hE)) : eg_Met yX13_usual cX13_usual 2 (some .int) 1 [.int l0, .int l1] h (some (.int rE)) hE := by
  refine eg_enter rfl (Nat.le_of_ble_eq_true rfl) ?_
  show eg_AW (RX13, cX13_usual, 2, 1, none, "usual", (some .int)) (eg_Zm (some (.int rE)) hE h) (eg_nc hE) (eg_ns hE) h 0 [(0, .int l0), (1, .int l1)] [] h
  refine eg_iload_n (i := 0) 0 dX13_usual_0 rfl rfl ?_
  refine eg_bipush (v := (109 : Int32)) dX13_usual_1 (by decide) ?_
  refine eg_ic_ne 26 dX13_usual_3 rfl (fun c1 => ?_) (fun c1 => ?_)
  · replace hF := eg_it c1 hF
    refine eg_iload_n (i := 1) 1 dX13_usual_6 rfl rfl ?_
    refine eg_iconst (v := (2 : Int32)) dX13_usual_7 (by decide) ?_
    refine eg_ic_ne 15 dX13_usual_8 rfl (fun c2 => ?_) (fun c2 => ?_)
    · replace hF := eg_it c2 hF
      refine eg_iconst (v := (2 : Int32)) dX13_usual_11 (by decide) ?_
      refine eg_goto 25 dX13_usual_12 rfl ?_
      exact eg_iretE dX13_usual_25 hF
    · replace hF := eg_if c2 hF
      refine eg_iload_n (i := 1) 1 dX13_usual_15 rfl rfl ?_
      refine eg_iconst (v := (3 : Int32)) dX13_usual_16 (by decide) ?_
      refine eg_ic_ne 24 dX13_usual_17 rfl (fun c3 => ?_) (fun c3 => ?_)
      · replace hF := eg_it c3 hF
        refine eg_iconst (v := (4 : Int32)) dX13_usual_20 (by decide) ?_
        refine eg_goto 25 dX13_usual_21 rfl ?_
        exact eg_iretE dX13_usual_25 hF
      · replace hF := eg_if c3 hF
        refine eg_iconst (v := (0 : Int32)) dX13_usual_24 (by decide) ?_
        exact eg_iretE dX13_usual_25 hF
  · replace hF := eg_if c1 hF
    refine eg_iload_n (i := 0) 0 dX13_usual_26 rfl rfl ?_
    refine eg_bipush (v := (112 : Int32)) dX13_usual_27 (by decide) ?_
    refine eg_ic_ne 52 dX13_usual_29 rfl (fun c4 => ?_) (fun c4 => ?_)
    · replace hF := eg_it c4 hF
      refine eg_iload_n (i := 1) 1 dX13_usual_32 rfl rfl ?_
      refine eg_iconst (v := (1 : Int32)) dX13_usual_33 (by decide) ?_
      refine eg_ic_ne 41 dX13_usual_34 rfl (fun c5 => ?_) (fun c5 => ?_)
      · replace hF := eg_it c5 hF
        refine eg_iconst (v := (3 : Int32)) dX13_usual_37 (by decide) ?_
        refine eg_goto 51 dX13_usual_38 rfl ?_
        exact eg_iretE dX13_usual_51 hF
      · replace hF := eg_if c5 hF
        refine eg_iload_n (i := 1) 1 dX13_usual_41 rfl rfl ?_
        refine eg_iconst (v := (3 : Int32)) dX13_usual_42 (by decide) ?_
        refine eg_ic_ne 50 dX13_usual_43 rfl (fun c6 => ?_) (fun c6 => ?_)
        · replace hF := eg_it c6 hF
          refine eg_iconst (v := (5 : Int32)) dX13_usual_46 (by decide) ?_
          refine eg_goto 51 dX13_usual_47 rfl ?_
          exact eg_iretE dX13_usual_51 hF
        · replace hF := eg_if c6 hF
          refine eg_iconst (v := (1 : Int32)) dX13_usual_50 (by decide) ?_
          exact eg_iretE dX13_usual_51 hF
    · replace hF := eg_if c4 hF
      refine eg_iload_n (i := 1) 1 dX13_usual_52 rfl rfl ?_
      refine eg_if_ne 61 dX13_usual_53 rfl (fun c7 => ?_) (fun c7 => ?_)
      · replace hF := eg_it c7 hF
        refine eg_bipush (v := (30 : Int32)) dX13_usual_56 (by decide) ?_
        refine eg_goto 62 dX13_usual_58 rfl ?_
        exact eg_iretE dX13_usual_62 hF
      · replace hF := eg_if c7 hF
        refine eg_iconst (v := (0 : Int32)) dX13_usual_61 (by decide) ?_
        exact eg_iretE dX13_usual_62 hF
theorem dX13_readClause_0 : decode cX13_readClause 0 = .ok (.aload_n 0, 1) := by decide +kernel
theorem dX13_readClause_1 : decode cX13_readClause 1 = .ok (.invokevirtual 190, 3) := by decide +kernel
theorem dX13_readClause_4 : decode cX13_readClause 4 = .ok (.istore_n 1, 1) := by decide +kernel
theorem dX13_readClause_5 : decode cX13_readClause 5 = .ok (.iload_n 1, 1) := by decide +kernel
theorem dX13_readClause_6 : decode cX13_readClause 6 = .ok (.bipush 109, 2) := by decide +kernel
theorem dX13_readClause_8 : decode cX13_readClause 8 = .ok (.if_icmp .ne 10, 3) := by decide +kernel
theorem dX13_readClause_11 : decode cX13_readClause 11 = .ok (.aload_n 0, 1) := by decide +kernel
theorem dX13_readClause_12 : decode cX13_readClause 12 = .ok (.getfield 273, 3) := by decide +kernel
theorem dX13_readClause_15 : decode cX13_readClause 15 = .ok (.ifCond .eq 33, 3) := by decide +kernel
theorem dX13_readClause_18 : decode cX13_readClause 18 = .ok (.iload_n 1, 1) := by decide +kernel
theorem dX13_readClause_19 : decode cX13_readClause 19 = .ok (.bipush 112, 2) := by decide +kernel
theorem dX13_readClause_21 : decode cX13_readClause 21 = .ok (.if_icmp .ne 12, 3) := by decide +kernel
theorem dX13_readClause_24 : decode cX13_readClause 24 = .ok (.aload_n 0, 1) := by decide +kernel
theorem dX13_readClause_25 : decode cX13_readClause 25 = .ok (.getfield 276, 3) := by decide +kernel
theorem dX13_readClause_28 : decode cX13_readClause 28 = .ok (.bipush 6, 2) := by decide +kernel
theorem dX13_readClause_30 : decode cX13_readClause 30 = .ok (.if_icmp .lt 18, 3) := by decide +kernel
theorem dX13_readClause_33 : decode cX13_readClause 33 = .ok (.iload_n 1, 1) := by decide +kernel
theorem dX13_readClause_34 : decode cX13_readClause 34 = .ok (.bipush 101, 2) := by decide +kernel
theorem dX13_readClause_36 : decode cX13_readClause 36 = .ok (.if_icmp .ne 16, 3) := by decide +kernel
theorem dX13_readClause_39 : decode cX13_readClause 39 = .ok (.aload_n 0, 1) := by decide +kernel
theorem dX13_readClause_40 : decode cX13_readClause 40 = .ok (.getfield 279, 3) := by decide +kernel
theorem dX13_readClause_43 : decode cX13_readClause 43 = .ok (.bipush 6, 2) := by decide +kernel
theorem dX13_readClause_45 : decode cX13_readClause 45 = .ok (.if_icmp .ge 7, 3) := by decide +kernel
theorem dX13_readClause_48 : decode cX13_readClause 48 = .ok (.iconst 1, 1) := by decide +kernel
theorem dX13_readClause_49 : decode cX13_readClause 49 = .ok (.goto 4, 3) := by decide +kernel
theorem dX13_readClause_52 : decode cX13_readClause 52 = .ok (.iconst 0, 1) := by decide +kernel
theorem dX13_readClause_53 : decode cX13_readClause 53 = .ok (.istore_n 2, 1) := by decide +kernel
theorem dX13_readClause_54 : decode cX13_readClause 54 = .ok (.iload_n 2, 1) := by decide +kernel
theorem dX13_readClause_55 : decode cX13_readClause 55 = .ok (.ifCond .ne 9, 3) := by decide +kernel
theorem dX13_readClause_58 : decode cX13_readClause 58 = .ok (.aload_n 0, 1) := by decide +kernel
theorem dX13_readClause_59 : decode cX13_readClause 59 = .ok (.invokevirtual 186, 3) := by decide +kernel
theorem dX13_readClause_62 : decode cX13_readClause 62 = .ok (.pop, 1) := by decide +kernel
theorem dX13_readClause_63 : decode cX13_readClause 63 = .ok (.return_, 1) := by decide +kernel
theorem dX13_readClause_64 : decode cX13_readClause 64 = .ok (.aload_n 0, 1) := by decide +kernel
theorem dX13_readClause_65 : decode cX13_readClause 65 = .ok (.dup, 1) := by decide +kernel
theorem dX13_readClause_66 : decode cX13_readClause 66 = .ok (.getfield 171, 3) := by decide +kernel
theorem dX13_readClause_69 : decode cX13_readClause 69 = .ok (.iconst 1, 1) := by decide +kernel
theorem dX13_readClause_70 : decode cX13_readClause 70 = .ok (.iadd, 1) := by decide +kernel
theorem dX13_readClause_71 : decode cX13_readClause 71 = .ok (.putfield 171, 3) := by decide +kernel
theorem dX13_readClause_74 : decode cX13_readClause 74 = .ok (.iload_n 1, 1) := by decide +kernel
theorem dX13_readClause_75 : decode cX13_readClause 75 = .ok (.bipush 112, 2) := by decide +kernel
theorem dX13_readClause_77 : decode cX13_readClause 77 = .ok (.if_icmp .ne 12, 3) := by decide +kernel
theorem dX13_readClause_80 : decode cX13_readClause 80 = .ok (.iconst 4, 1) := by decide +kernel
theorem dX13_readClause_81 : decode cX13_readClause 81 = .ok (.aload_n 0, 1) := by decide +kernel
theorem dX13_readClause_82 : decode cX13_readClause 82 = .ok (.getfield 276, 3) := by decide +kernel
theorem dX13_readClause_85 : decode cX13_readClause 85 = .ok (.imul, 1) := by decide +kernel
theorem dX13_readClause_86 : decode cX13_readClause 86 = .ok (.goto 19, 3) := by decide +kernel
theorem dX13_readClause_89 : decode cX13_readClause 89 = .ok (.iload_n 1, 1) := by decide +kernel
theorem dX13_readClause_90 : decode cX13_readClause 90 = .ok (.bipush 101, 2) := by decide +kernel
theorem dX13_readClause_92 : decode cX13_readClause 92 = .ok (.if_icmp .ne 12, 3) := by decide +kernel
theorem dX13_readClause_95 : decode cX13_readClause 95 = .ok (.iconst 2, 1) := by decide +kernel
theorem dX13_readClause_96 : decode cX13_readClause 96 = .ok (.aload_n 0, 1) := by decide +kernel
theorem dX13_readClause_97 : decode cX13_readClause 97 = .ok (.getfield 279, 3) := by decide +kernel
theorem dX13_readClause_100 : decode cX13_readClause 100 = .ok (.imul, 1) := by decide +kernel
theorem dX13_readClause_101 : decode cX13_readClause 101 = .ok (.goto 4, 3) := by decide +kernel
theorem dX13_readClause_104 : decode cX13_readClause 104 = .ok (.iconst 0, 1) := by decide +kernel
theorem dX13_readClause_105 : decode cX13_readClause 105 = .ok (.istore_n 3, 1) := by decide +kernel
theorem dX13_readClause_106 : decode cX13_readClause 106 = .ok (.iload_n 1, 1) := by decide +kernel
theorem dX13_readClause_107 : decode cX13_readClause 107 = .ok (.bipush 112, 2) := by decide +kernel
theorem dX13_readClause_109 : decode cX13_readClause 109 = .ok (.if_icmp .ne 10, 3) := by decide +kernel
theorem dX13_readClause_112 : decode cX13_readClause 112 = .ok (.aload_n 0, 1) := by decide +kernel
theorem dX13_readClause_113 : decode cX13_readClause 113 = .ok (.getfield 46, 3) := by decide +kernel
theorem dX13_readClause_116 : decode cX13_readClause 116 = .ok (.goto 20, 3) := by decide +kernel
theorem dX13_readClause_119 : decode cX13_readClause 119 = .ok (.iload_n 1, 1) := by decide +kernel
theorem dX13_readClause_120 : decode cX13_readClause 120 = .ok (.bipush 101, 2) := by decide +kernel
theorem dX13_readClause_122 : decode cX13_readClause 122 = .ok (.if_icmp .ne 10, 3) := by decide +kernel
theorem dX13_readClause_125 : decode cX13_readClause 125 = .ok (.aload_n 0, 1) := by decide +kernel
theorem dX13_readClause_126 : decode cX13_readClause 126 = .ok (.getfield 52, 3) := by decide +kernel
theorem dX13_readClause_129 : decode cX13_readClause 129 = .ok (.goto 7, 3) := by decide +kernel
theorem dX13_readClause_132 : decode cX13_readClause 132 = .ok (.aload_n 0, 1) := by decide +kernel
theorem dX13_readClause_133 : decode cX13_readClause 133 = .ok (.getfield 40, 3) := by decide +kernel
theorem dX13_readClause_136 : decode cX13_readClause 136 = .ok (.astore 4, 2) := by decide +kernel
theorem dX13_readClause_138 : decode cX13_readClause 138 = .ok (.iload_n 1, 1) := by decide +kernel
theorem dX13_readClause_139 : decode cX13_readClause 139 = .ok (.bipush 109, 2) := by decide +kernel
theorem dX13_readClause_141 : decode cX13_readClause 141 = .ok (.if_icmp .ne 9, 3) := by decide +kernel
theorem dX13_readClause_144 : decode cX13_readClause 144 = .ok (.ldc_w 282, 3) := by decide +kernel
theorem dX13_readClause_147 : decode cX13_readClause 147 = .ok (.goto 18, 3) := by decide +kernel
theorem dX13_readClause_150 : decode cX13_readClause 150 = .ok (.iload_n 1, 1) := by decide +kernel
theorem dX13_readClause_151 : decode cX13_readClause 151 = .ok (.bipush 112, 2) := by decide +kernel
theorem dX13_readClause_153 : decode cX13_readClause 153 = .ok (.if_icmp .ne 9, 3) := by decide +kernel
theorem dX13_readClause_156 : decode cX13_readClause 156 = .ok (.ldc_w 284, 3) := by decide +kernel
theorem dX13_readClause_159 : decode cX13_readClause 159 = .ok (.goto 6, 3) := by decide +kernel
theorem dX13_readClause_162 : decode cX13_readClause 162 = .ok (.ldc_w 286, 3) := by decide +kernel
theorem dX13_readClause_165 : decode cX13_readClause 165 = .ok (.astore 5, 2) := by decide +kernel
theorem dX13_readClause_167 : decode cX13_readClause 167 = .ok (.iload_n 1, 1) := by decide +kernel
theorem dX13_readClause_168 : decode cX13_readClause 168 = .ok (.bipush 109, 2) := by decide +kernel
theorem dX13_readClause_170 : decode cX13_readClause 170 = .ok (.if_icmp .ne 8, 3) := by decide +kernel
theorem dX13_readClause_173 : decode cX13_readClause 173 = .ok (.aload_n 0, 1) := by decide +kernel
theorem dX13_readClause_174 : decode cX13_readClause 174 = .ok (.iconst 1, 1) := by decide +kernel
theorem dX13_readClause_175 : decode cX13_readClause 175 = .ok (.putfield 273, 3) := by decide +kernel
theorem dX13_readClause_178 : decode cX13_readClause 178 = .ok (.iload_n 1, 1) := by decide +kernel
theorem dX13_readClause_179 : decode cX13_readClause 179 = .ok (.bipush 112, 2) := by decide +kernel
theorem dX13_readClause_181 : decode cX13_readClause 181 = .ok (.if_icmp .ne 13, 3) := by decide +kernel
theorem dX13_readClause_184 : decode cX13_readClause 184 = .ok (.aload_n 0, 1) := by decide +kernel
theorem dX13_readClause_185 : decode cX13_readClause 185 = .ok (.dup, 1) := by decide +kernel
theorem dX13_readClause_186 : decode cX13_readClause 186 = .ok (.getfield 276, 3) := by decide +kernel
theorem dX13_readClause_189 : decode cX13_readClause 189 = .ok (.iconst 1, 1) := by decide +kernel
theorem dX13_readClause_190 : decode cX13_readClause 190 = .ok (.iadd, 1) := by decide +kernel
theorem dX13_readClause_191 : decode cX13_readClause 191 = .ok (.putfield 276, 3) := by decide +kernel
theorem dX13_readClause_194 : decode cX13_readClause 194 = .ok (.iload_n 1, 1) := by decide +kernel
theorem dX13_readClause_195 : decode cX13_readClause 195 = .ok (.bipush 101, 2) := by decide +kernel
theorem dX13_readClause_197 : decode cX13_readClause 197 = .ok (.if_icmp .ne 13, 3) := by decide +kernel
theorem dX13_readClause_200 : decode cX13_readClause 200 = .ok (.aload_n 0, 1) := by decide +kernel
theorem dX13_readClause_201 : decode cX13_readClause 201 = .ok (.dup, 1) := by decide +kernel
theorem dX13_readClause_202 : decode cX13_readClause 202 = .ok (.getfield 279, 3) := by decide +kernel
theorem dX13_readClause_205 : decode cX13_readClause 205 = .ok (.iconst 1, 1) := by decide +kernel
theorem dX13_readClause_206 : decode cX13_readClause 206 = .ok (.iadd, 1) := by decide +kernel
theorem dX13_readClause_207 : decode cX13_readClause 207 = .ok (.putfield 279, 3) := by decide +kernel
theorem dX13_readClause_210 : decode cX13_readClause 210 = .ok (.iconst 0, 1) := by decide +kernel
theorem dX13_readClause_211 : decode cX13_readClause 211 = .ok (.istore 6, 2) := by decide +kernel
theorem dX13_readClause_213 : decode cX13_readClause 213 = .ok (.iload 6, 2) := by decide +kernel
theorem dX13_readClause_215 : decode cX13_readClause 215 = .ok (.aload 5, 2) := by decide +kernel
theorem dX13_readClause_217 : decode cX13_readClause 217 = .ok (.invokevirtual 151, 3) := by decide +kernel
theorem dX13_readClause_220 : decode cX13_readClause 220 = .ok (.if_icmp .ge 22, 3) := by decide +kernel
theorem dX13_readClause_223 : decode cX13_readClause 223 = .ok (.aload 4, 2) := by decide +kernel
theorem dX13_readClause_225 : decode cX13_readClause 225 = .ok (.iload_n 3, 1) := by decide +kernel
theorem dX13_readClause_226 : decode cX13_readClause 226 = .ok (.iload 6, 2) := by decide +kernel
theorem dX13_readClause_228 : decode cX13_readClause 228 = .ok (.iadd, 1) := by decide +kernel
theorem dX13_readClause_229 : decode cX13_readClause 229 = .ok (.iload_n 1, 1) := by decide +kernel
theorem dX13_readClause_230 : decode cX13_readClause 230 = .ok (.iload 6, 2) := by decide +kernel
theorem dX13_readClause_232 : decode cX13_readClause 232 = .ok (.invokestatic 288, 3) := by decide +kernel
theorem dX13_readClause_235 : decode cX13_readClause 235 = .ok (.iastore, 1) := by decide +kernel
theorem dX13_readClause_236 : decode cX13_readClause 236 = .ok (.iinc 6 1, 3) := by decide +kernel
theorem dX13_readClause_239 : decode cX13_readClause 239 = .ok (.goto (-26), 3) := by decide +kernel
theorem dX13_readClause_242 : decode cX13_readClause 242 = .ok (.iconst 0, 1) := by decide +kernel
theorem dX13_readClause_243 : decode cX13_readClause 243 = .ok (.istore 6, 2) := by decide +kernel
theorem dX13_readClause_245 : decode cX13_readClause 245 = .ok (.aload 5, 2) := by decide +kernel
theorem dX13_readClause_247 : decode cX13_readClause 247 = .ok (.aload_n 0, 1) := by decide +kernel
theorem dX13_readClause_248 : decode cX13_readClause 248 = .ok (.invokevirtual 190, 3) := by decide +kernel
theorem dX13_readClause_251 : decode cX13_readClause 251 = .ok (.invokestatic 292, 3) := by decide +kernel
theorem dX13_readClause_254 : decode cX13_readClause 254 = .ok (.istore 7, 2) := by decide +kernel
theorem dX13_readClause_256 : decode cX13_readClause 256 = .ok (.iload 7, 2) := by decide +kernel
theorem dX13_readClause_258 : decode cX13_readClause 258 = .ok (.iconst (-1), 1) := by decide +kernel
theorem dX13_readClause_259 : decode cX13_readClause 259 = .ok (.if_icmp .eq 80, 3) := by decide +kernel
theorem dX13_readClause_262 : decode cX13_readClause 262 = .ok (.aload_n 0, 1) := by decide +kernel
theorem dX13_readClause_263 : decode cX13_readClause 263 = .ok (.getfield 180, 3) := by decide +kernel
theorem dX13_readClause_266 : decode cX13_readClause 266 = .ok (.iconst (-1), 1) := by decide +kernel
theorem dX13_readClause_267 : decode cX13_readClause 267 = .ok (.if_icmp .ne 72, 3) := by decide +kernel
theorem dX13_readClause_270 : decode cX13_readClause 270 = .ok (.iload 6, 2) := by decide +kernel
theorem dX13_readClause_272 : decode cX13_readClause 272 = .ok (.iload 7, 2) := by decide +kernel
theorem dX13_readClause_274 : decode cX13_readClause 274 = .ok (.invokestatic 296, 3) := by decide +kernel
theorem dX13_readClause_277 : decode cX13_readClause 277 = .ok (.ifCond .eq 9, 3) := by decide +kernel
theorem dX13_readClause_280 : decode cX13_readClause 280 = .ok (.aload_n 0, 1) := by decide +kernel
theorem dX13_readClause_281 : decode cX13_readClause 281 = .ok (.invokevirtual 186, 3) := by decide +kernel
theorem dX13_readClause_284 : decode cX13_readClause 284 = .ok (.pop, 1) := by decide +kernel
theorem dX13_readClause_285 : decode cX13_readClause 285 = .ok (.return_, 1) := by decide +kernel
theorem dX13_readClause_286 : decode cX13_readClause 286 = .ok (.iload 6, 2) := by decide +kernel
theorem dX13_readClause_288 : decode cX13_readClause 288 = .ok (.iconst 1, 1) := by decide +kernel
theorem dX13_readClause_289 : decode cX13_readClause 289 = .ok (.iload 7, 2) := by decide +kernel
theorem dX13_readClause_291 : decode cX13_readClause 291 = .ok (.ishl, 1) := by decide +kernel
theorem dX13_readClause_292 : decode cX13_readClause 292 = .ok (.ior, 1) := by decide +kernel
theorem dX13_readClause_293 : decode cX13_readClause 293 = .ok (.istore 6, 2) := by decide +kernel
theorem dX13_readClause_295 : decode cX13_readClause 295 = .ok (.aload_n 0, 1) := by decide +kernel
theorem dX13_readClause_296 : decode cX13_readClause 296 = .ok (.aload 4, 2) := by decide +kernel
theorem dX13_readClause_298 : decode cX13_readClause 298 = .ok (.iload_n 3, 1) := by decide +kernel
theorem dX13_readClause_299 : decode cX13_readClause 299 = .ok (.iload 7, 2) := by decide +kernel
theorem dX13_readClause_301 : decode cX13_readClause 301 = .ok (.iadd, 1) := by decide +kernel
theorem dX13_readClause_302 : decode cX13_readClause 302 = .ok (.iload_n 1, 1) := by decide +kernel
theorem dX13_readClause_303 : decode cX13_readClause 303 = .ok (.iload 7, 2) := by decide +kernel
theorem dX13_readClause_305 : decode cX13_readClause 305 = .ok (.invokestatic 300, 3) := by decide +kernel
theorem dX13_readClause_308 : decode cX13_readClause 308 = .ok (.iload_n 1, 1) := by decide +kernel
theorem dX13_readClause_309 : decode cX13_readClause 309 = .ok (.iload 7, 2) := by decide +kernel
theorem dX13_readClause_311 : decode cX13_readClause 311 = .ok (.invokestatic 303, 3) := by decide +kernel
theorem dX13_readClause_314 : decode cX13_readClause 314 = .ok (.invokevirtual 306, 3) := by decide +kernel
theorem dX13_readClause_317 : decode cX13_readClause 317 = .ok (.aload_n 0, 1) := by decide +kernel
theorem dX13_readClause_318 : decode cX13_readClause 318 = .ok (.getfield 180, 3) := by decide +kernel
theorem dX13_readClause_321 : decode cX13_readClause 321 = .ok (.iconst (-1), 1) := by decide +kernel
theorem dX13_readClause_322 : decode cX13_readClause 322 = .ok (.if_icmp .ne (-66), 3) := by decide +kernel
theorem dX13_readClause_325 : decode cX13_readClause 325 = .ok (.aload 5, 2) := by decide +kernel
theorem dX13_readClause_327 : decode cX13_readClause 327 = .ok (.aload_n 0, 1) := by decide +kernel
theorem dX13_readClause_328 : decode cX13_readClause 328 = .ok (.invokevirtual 190, 3) := by decide +kernel
theorem dX13_readClause_331 : decode cX13_readClause 331 = .ok (.invokestatic 292, 3) := by decide +kernel
theorem dX13_readClause_334 : decode cX13_readClause 334 = .ok (.istore 7, 2) := by decide +kernel
theorem dX13_readClause_336 : decode cX13_readClause 336 = .ok (.goto (-80), 3) := by decide +kernel
theorem dX13_readClause_339 : decode cX13_readClause 339 = .ok (.return_, 1) := by decide +kernel
def fX13_readClause_L213 : Nat → eg_H → Nat → Int32 → Int32 → Nat → Nat → Int32 → Option (Nat × Int32 × Int32 × Nat × Nat × eg_H)
  | 0, _, _, _, _, _, _, _ => none
  | n + 1, h, l0, l1, l3, l4, l5, l6 =>
    (eg_slen l5).bind fun v1 =>
    if v1 ≤ l6 then
      (some (l0, l1, l3, l4, l5, h))
    else
      (fX13_usual h l1 l6).bind fun ⟨v5, h4⟩ =>
      (eg_wI h4 100 l4 (l3 + l6) v5).bind fun h7 =>
      fX13_readClause_L213 n h7 l0 l1 l3 l4 l5 (l6 + (1 : Int32))
set_option maxRecDepth 20000 in
theorem fX13_readClause_L213_ok {h0 : eg_H} {Z : eg_C → State → Prop} {N S : Nat} : ∀ (n : Nat) (h : eg_H) (l0 : Nat) (l1 : Int32) (l3 : Int32) (l4 : Nat) (l5 : Nat) (l6 : Int32) (eE : Nat × Int32 × Int32 × Nat × Nat × eg_H), fX13_readClause_L213 n h l0 l1 l3 l4 l5 l6 = some eE → (hk0 : ∀ (l0 : Nat) (l1 : Int32) (l3 : Int32) (l4 : Nat) (l5 : Nat) (h : eg_H), eE = (l0, l1, l3, l4, l5, h) → eg_AW (RX13, cX13_readClause, 8, 6, none, "readClause", none) Z N S h0 242 [(0, .ref l0), (1, .int l1), (3, .int l3), (4, .ref l4), (5, .ref l5)] [] h) → eg_AW (RX13, cX13_readClause, 8, 6, none, "readClause", none) Z N S h0 213 [(0, .ref l0), (1, .int l1), (3, .int l3), (4, .ref l4), (5, .ref l5), (6, .int l6)] [] h := by
  intro n
  induction n with
  | zero => intro h l0 l1 l3 l4 l5 l6 eE hF; exact absurd hF (by intro q; cases q)
  | succ n ih =>
    intro h l0 l1 l3 l4 l5 l6 eE hF hk0
    have hrec := fun (h' : eg_H) (l0 : Nat) (l1 : Int32) (l3 : Int32) (l4 : Nat) (l5 : Nat) (l6 : Int32) hq => ih h' l0 l1 l3 l4 l5 l6 eE hq hk0
    refine eg_iload (i := 6) 5 dX13_readClause_213 rfl ?_
    refine eg_aload (i := 5) 4 dX13_readClause_215 rfl ?_
    replace hF := eg_bind hF; obtain ⟨v1, e2, hF⟩ := hF
    refine eg_strlen dX13_readClause_217 e2 ew_1726 (Nat.le_of_ble_eq_true rfl) (Nat.le_of_ble_eq_true rfl) ?_
    refine eg_ic_ge 242 dX13_readClause_220 rfl (fun c3 => ?_) (fun c3 => ?_)
    · replace hF := eg_it c3 hF
      exact eg_sub [0, 1, 2, 3, 4] [(0, .ref l0), (1, .int l1), (3, .int l3), (4, .ref l4), (5, .ref l5)] rfl (hk0 l0 l1 l3 l4 l5 h (Option.some.inj hF).symm)
    · replace hF := eg_if c3 hF
      refine eg_aload (i := 4) 3 dX13_readClause_223 rfl ?_
      refine eg_iload_n (i := 3) 2 dX13_readClause_225 rfl rfl ?_
      refine eg_iload (i := 6) 5 dX13_readClause_226 rfl ?_
      refine eg_iadd dX13_readClause_228 ?_
      refine eg_iload_n (i := 1) 1 dX13_readClause_229 rfl rfl ?_
      refine eg_iload (i := 6) 5 dX13_readClause_230 rfl ?_
      replace hF := eg_bind hF; obtain ⟨⟨v5, h4⟩, e6, hF⟩ := hF
      refine eg_callS (n := 2) [.int l1, .int l6] dX13_readClause_232 (mX13_usual e6) rfl ew_1708 ew_1709 ew_110 ew_1710 hy_X13_usual.2 rfl (Nat.le_of_ble_eq_true rfl) (Nat.le_of_ble_eq_true rfl) (Nat.le_of_ble_eq_true rfl) ?_
      replace hF := eg_bind hF; obtain ⟨h7, e8, hF⟩ := hF
      refine eg_iast dX13_readClause_235 e8 ?_
      refine eg_iinc (i := 6) (v := (l6 + (1 : Int32))) 5 [(6, .int (l6 + (1 : Int32))), (0, .ref l0), (1, .int l1), (3, .int l3), (4, .ref l4), (5, .ref l5)] dX13_readClause_236 rfl rfl (Nat.le_of_ble_eq_true rfl) rfl ?_
      refine eg_goto 213 dX13_readClause_239 rfl ?_
      exact eg_sub [1, 2, 3, 4, 5, 0] [(0, .ref l0), (1, .int l1), (3, .int l3), (4, .ref l4), (5, .ref l5), (6, .int (l6 + (1 : Int32)))] rfl (hrec h7 l0 l1 l3 l4 l5 (l6 + (1 : Int32)) hF)
def fX13_readClause_L256 : Nat → eg_H → Nat → Int32 → Int32 → Nat → Nat → Int32 → Int32 → Option ((eg_H) ⊕ (Nat × eg_H))
  | 0, _, _, _, _, _, _, _, _ => none
  | n + 1, h, l0, l1, l3, l4, l5, l6, l7 =>
    if l7 = (-1 : Int32) then
      (some (.inl h))
    else
      (eg_gI h 13 11 l0).bind fun v2 =>
      if v2 = (-1 : Int32) then
        ((fX13_has h l6 l7).bind fun ⟨v6, h5⟩ =>
        if v6 = 0 then
          ((some ((l6 ||| ((1 : Int32) <<< (l7 &&& 31))))).bind fun v9 =>
          (fX13_leastOf h5 l1 l7).bind fun ⟨v12, h11⟩ =>
          (fX13_mostOf h11 l1 l7).bind fun ⟨v15, h14⟩ =>
          (fX13_readItem h14 l0 l4 (l3 + l7) v12 v15).bind fun h17 =>
          (eg_gI h17 13 11 l0).bind fun v19 =>
          if v19 = (-1 : Int32) then
            ((fX13_look h17 l0).bind fun ⟨v23, h22⟩ =>
            (fX13_placeOf h22 l5 v23).bind fun ⟨v26, h25⟩ =>
            fX13_readClause_L256 n h25 l0 l1 l3 l4 l5 v9 v26)
          else
            fX13_readClause_L256 n h17 l0 l1 l3 l4 l5 v9 l7)
        else
          some (.inr (l0, h5)))
      else
        some (.inl h)
set_option maxRecDepth 20000 in
theorem fX13_readClause_L256_ok {h0 : eg_H} {Z : eg_C → State → Prop} {N S : Nat} : ∀ (n : Nat) (h : eg_H) (l0 : Nat) (l1 : Int32) (l3 : Int32) (l4 : Nat) (l5 : Nat) (l6 : Int32) (l7 : Int32) (eE : (eg_H) ⊕ (Nat × eg_H)), fX13_readClause_L256 n h l0 l1 l3 l4 l5 l6 l7 = some eE → (hk0 : ∀  (h : eg_H), eE = (.inl h) → eg_AW (RX13, cX13_readClause, 8, 6, none, "readClause", none) Z N S h0 339 [] [] h) → (hk1 : ∀ (l0 : Nat) (h : eg_H), eE = (.inr (l0, h)) → eg_AW (RX13, cX13_readClause, 8, 6, none, "readClause", none) Z N S h0 280 [(0, .ref l0)] [] h) → eg_AW (RX13, cX13_readClause, 8, 6, none, "readClause", none) Z N S h0 256 [(0, .ref l0), (1, .int l1), (3, .int l3), (4, .ref l4), (5, .ref l5), (6, .int l6), (7, .int l7)] [] h := by
  intro n
  induction n with
  | zero => intro h l0 l1 l3 l4 l5 l6 l7 eE hF; exact absurd hF (by intro q; cases q)
  | succ n ih =>
    intro h l0 l1 l3 l4 l5 l6 l7 eE hF hk0 hk1
    have hrec := fun (h' : eg_H) (l0 : Nat) (l1 : Int32) (l3 : Int32) (l4 : Nat) (l5 : Nat) (l6 : Int32) (l7 : Int32) hq => ih h' l0 l1 l3 l4 l5 l6 l7 eE hq hk0 hk1
    refine eg_iload (i := 7) 6 dX13_readClause_256 rfl ?_
    refine eg_iconst (v := (-1 : Int32)) dX13_readClause_258 (by decide) ?_
    refine eg_ic_eq 339 dX13_readClause_259 rfl (fun c1 => ?_) (fun c1 => ?_)
    · replace hF := eg_it c1 hF
      exact eg_sub [] [] rfl (hk0 h (Option.some.inj hF).symm)
    · replace hF := eg_if c1 hF
      refine eg_aload_n (i := 0) 0 dX13_readClause_262 rfl rfl ?_
      replace hF := eg_bind hF; obtain ⟨v2, e3, hF⟩ := hF
      refine eg_getI dX13_readClause_263 e3 (Nat.le_of_ble_eq_true rfl) (Nat.le_of_ble_eq_true rfl) rfl ew_1445 ?_
      refine eg_iconst (v := (-1 : Int32)) dX13_readClause_266 (by decide) ?_
      refine eg_ic_ne 339 dX13_readClause_267 rfl (fun c4 => ?_) (fun c4 => ?_)
      · replace hF := eg_it c4 hF
        refine eg_iload (i := 6) 5 dX13_readClause_270 rfl ?_
        refine eg_iload (i := 7) 6 dX13_readClause_272 rfl ?_
        replace hF := eg_bind hF; obtain ⟨⟨v6, h5⟩, e7, hF⟩ := hF
        refine eg_callS (n := 2) [.int l6, .int l7] dX13_readClause_274 (mX13_has e7) rfl ew_1777 ew_1778 ew_110 ew_1779 hy_X13_has.2 rfl (Nat.le_of_ble_eq_true rfl) (Nat.le_of_ble_eq_true rfl) (Nat.le_of_ble_eq_true rfl) ?_
        refine eg_if_eq 286 dX13_readClause_277 rfl (fun c8 => ?_) (fun c8 => ?_)
        · replace hF := eg_it c8 hF
          refine eg_iload (i := 6) 5 dX13_readClause_286 rfl ?_
          refine eg_iconst (v := (1 : Int32)) dX13_readClause_288 (by decide) ?_
          refine eg_iload (i := 7) 6 dX13_readClause_289 rfl ?_
          refine eg_ishl dX13_readClause_291 ?_
          refine eg_ior dX13_readClause_292 ?_
          replace hF := eg_bind hF; obtain ⟨v9, e10, hF⟩ := hF
          replace e10 := Option.some.inj e10
          rw [e10]
          refine eg_istore (i := 6) [(6, .int v9), (0, .ref l0), (1, .int l1), (3, .int l3), (4, .ref l4), (5, .ref l5), (7, .int l7)] dX13_readClause_293 (Nat.le_of_ble_eq_true rfl) rfl ?_
          refine eg_aload_n (i := 0) 1 dX13_readClause_295 rfl rfl ?_
          refine eg_aload (i := 4) 4 dX13_readClause_296 rfl ?_
          refine eg_iload_n (i := 3) 3 dX13_readClause_298 rfl rfl ?_
          refine eg_iload (i := 7) 6 dX13_readClause_299 rfl ?_
          refine eg_iadd dX13_readClause_301 ?_
          refine eg_iload_n (i := 1) 2 dX13_readClause_302 rfl rfl ?_
          refine eg_iload (i := 7) 6 dX13_readClause_303 rfl ?_
          replace hF := eg_bind hF; obtain ⟨⟨v12, h11⟩, e13, hF⟩ := hF
          refine eg_callS (n := 2) [.int l1, .int l7] dX13_readClause_305 (mX13_leastOf e13) rfl ew_1780 ew_1781 ew_110 ew_1782 hy_X13_leastOf.2 rfl (Nat.le_of_ble_eq_true rfl) (Nat.le_of_ble_eq_true rfl) (Nat.le_of_ble_eq_true rfl) ?_
          refine eg_iload_n (i := 1) 2 dX13_readClause_308 rfl rfl ?_
          refine eg_iload (i := 7) 6 dX13_readClause_309 rfl ?_
          replace hF := eg_bind hF; obtain ⟨⟨v15, h14⟩, e16, hF⟩ := hF
          refine eg_callS (n := 2) [.int l1, .int l7] dX13_readClause_311 (mX13_mostOf e16) rfl ew_1783 ew_1784 ew_110 ew_1785 hy_X13_mostOf.2 rfl (Nat.le_of_ble_eq_true rfl) (Nat.le_of_ble_eq_true rfl) (Nat.le_of_ble_eq_true rfl) ?_
          replace hF := eg_bind hF; obtain ⟨h17, e18, hF⟩ := hF
          refine eg_callV (c := 13) (n := 4) [.ref l4, .int (l3 + l7), .int v12, .int v15] dX13_readClause_314 (mX13_readItem e18) rfl (fX13_readItem_O e18) (Nat.le_of_ble_eq_true rfl) rfl ew_1786 ew_1788 ew_56 ew_110 ew_1789 hy_X13_readItem rfl (Nat.le_of_ble_eq_true rfl) (Nat.le_of_ble_eq_true rfl) (Nat.le_of_ble_eq_true rfl) ?_
          refine eg_aload_n (i := 0) 1 dX13_readClause_317 rfl rfl ?_
          replace hF := eg_bind hF; obtain ⟨v19, e20, hF⟩ := hF
          refine eg_getI dX13_readClause_318 e20 (Nat.le_of_ble_eq_true rfl) (Nat.le_of_ble_eq_true rfl) rfl ew_1445 ?_
          refine eg_iconst (v := (-1 : Int32)) dX13_readClause_321 (by decide) ?_
          refine eg_ic_ne 256 dX13_readClause_322 rfl (fun c21 => ?_) (fun c21 => ?_)
          · replace hF := eg_it c21 hF
            refine eg_aload (i := 5) 5 dX13_readClause_325 rfl ?_
            refine eg_aload_n (i := 0) 1 dX13_readClause_327 rfl rfl ?_
            replace hF := eg_bind hF; obtain ⟨⟨v23, h22⟩, e24, hF⟩ := hF
            refine eg_callV (c := 13) (n := 0) [] dX13_readClause_328 (mX13_look e24) rfl (fX13_look_O e24) (Nat.le_of_ble_eq_true rfl) rfl ew_1715 ew_1717 ew_54 ew_110 ew_1718 hy_X13_look rfl (Nat.le_of_ble_eq_true rfl) (Nat.le_of_ble_eq_true rfl) (Nat.le_of_ble_eq_true rfl) ?_
            replace hF := eg_bind hF; obtain ⟨⟨v26, h25⟩, e27, hF⟩ := hF
            refine eg_callS (n := 2) [.ref l5, .int v23] dX13_readClause_331 (mX13_placeOf e27) rfl ew_1736 ew_1737 ew_110 ew_1738 hy_X13_placeOf.2 rfl (Nat.le_of_ble_eq_true rfl) (Nat.le_of_ble_eq_true rfl) (Nat.le_of_ble_eq_true rfl) ?_
            refine eg_istore (i := 7) [(7, .int v26), (6, .int v9), (0, .ref l0), (1, .int l1), (3, .int l3), (4, .ref l4), (5, .ref l5)] dX13_readClause_334 (Nat.le_of_ble_eq_true rfl) rfl ?_
            refine eg_goto 256 dX13_readClause_336 rfl ?_
            exact eg_sub [2, 3, 4, 5, 6, 1, 0] [(0, .ref l0), (1, .int l1), (3, .int l3), (4, .ref l4), (5, .ref l5), (6, .int v9), (7, .int v26)] rfl (hrec h25 l0 l1 l3 l4 l5 v9 v26 hF)
          · replace hF := eg_if c21 hF
            exact eg_sub [1, 2, 3, 4, 5, 0, 6] [(0, .ref l0), (1, .int l1), (3, .int l3), (4, .ref l4), (5, .ref l5), (6, .int v9), (7, .int l7)] rfl (hrec h17 l0 l1 l3 l4 l5 v9 l7 hF)
        · replace hF := eg_if c8 hF
          exact eg_sub [0] [(0, .ref l0)] rfl (hk1 l0 h5 (Option.some.inj hF).symm)
      · replace hF := eg_if c4 hF
        exact eg_sub [] [] rfl (hk0 h (Option.some.inj hF).symm)
def fX13_readClause_j210 (h : eg_H) (l0 : Nat) (l1 : Int32) (l3 : Int32) (l4 : Nat) (l5 : Nat) : Option (eg_H) :=
  (fX13_readClause_L213 eg_F h l0 l1 l3 l4 l5 (0 : Int32)).bind fun e =>
  match e with
  | (p3, v4, v5, p6, p7, h8) =>
    (fX13_look h8 p3).bind fun ⟨v10, h9⟩ =>
    (fX13_placeOf h9 p7 v10).bind fun ⟨v13, h12⟩ =>
    (fX13_readClause_L256 eg_F h12 p3 v4 v5 p6 p7 (0 : Int32) v13).bind fun e =>
    match e with
    | .inl h17 =>
      some h17
    | .inr (p19, h20) =>
      (fX13_fails h20 p19).bind fun ⟨v22, h21⟩ =>
      some h21
set_option maxRecDepth 20000 in
theorem fX13_readClause_j210_ok {h0 : eg_H} (h : eg_H) (l0 : Nat) (l1 : Int32) (l3 : Int32) (l4 : Nat) (l5 : Nat) {hE : eg_H} (hF : fX13_readClause_j210 h l0 l1 l3 l4 l5 = some hE) : eg_AW (RX13, cX13_readClause, 8, 6, none, "readClause", none) (eg_Zm none hE h0) (eg_nc hE) (eg_ns hE) h0 210 [(0, .ref l0), (1, .int l1), (3, .int l3), (4, .ref l4), (5, .ref l5)] [] h := by
  refine eg_iconst (v := (0 : Int32)) dX13_readClause_210 (by decide) ?_
  refine eg_istore (i := 6) [(6, .int (0 : Int32)), (0, .ref l0), (1, .int l1), (3, .int l3), (4, .ref l4), (5, .ref l5)] dX13_readClause_211 (Nat.le_of_ble_eq_true rfl) rfl ?_
  replace hF := eg_bind hF; obtain ⟨x2, e1, hF⟩ := hF
  refine eg_sub [1, 2, 3, 4, 5, 0] [(0, .ref l0), (1, .int l1), (3, .int l3), (4, .ref l4), (5, .ref l5), (6, .int (0 : Int32))] rfl (fX13_readClause_L213_ok eg_F h l0 l1 l3 l4 l5 (0 : Int32) x2 e1 ?_)
  · intro p3 v4 v5 p6 p7 h8 e25
    subst e25
    refine eg_iconst (v := (0 : Int32)) dX13_readClause_242 (by decide) ?_
    refine eg_istore (i := 6) [(6, .int (0 : Int32)), (0, .ref p3), (1, .int v4), (3, .int v5), (4, .ref p6), (5, .ref p7)] dX13_readClause_243 (Nat.le_of_ble_eq_true rfl) rfl ?_
    refine eg_aload (i := 5) 5 dX13_readClause_245 rfl ?_
    refine eg_aload_n (i := 0) 1 dX13_readClause_247 rfl rfl ?_
    replace hF := eg_bind hF; obtain ⟨⟨v10, h9⟩, e11, hF⟩ := hF
    refine eg_callV (c := 13) (n := 0) [] dX13_readClause_248 (mX13_look e11) rfl (fX13_look_O e11) (Nat.le_of_ble_eq_true rfl) rfl ew_1715 ew_1717 ew_54 ew_110 ew_1718 hy_X13_look rfl (Nat.le_of_ble_eq_true rfl) (Nat.le_of_ble_eq_true rfl) (Nat.le_of_ble_eq_true rfl) ?_
    replace hF := eg_bind hF; obtain ⟨⟨v13, h12⟩, e14, hF⟩ := hF
    refine eg_callS (n := 2) [.ref p7, .int v10] dX13_readClause_251 (mX13_placeOf e14) rfl ew_1736 ew_1737 ew_110 ew_1738 hy_X13_placeOf.2 rfl (Nat.le_of_ble_eq_true rfl) (Nat.le_of_ble_eq_true rfl) (Nat.le_of_ble_eq_true rfl) ?_
    refine eg_istore (i := 7) [(7, .int v13), (6, .int (0 : Int32)), (0, .ref p3), (1, .int v4), (3, .int v5), (4, .ref p6), (5, .ref p7)] dX13_readClause_254 (Nat.le_of_ble_eq_true rfl) rfl ?_
    replace hF := eg_bind hF; obtain ⟨x16, e15, hF⟩ := hF
    refine eg_sub [2, 3, 4, 5, 6, 1, 0] [(0, .ref p3), (1, .int v4), (3, .int v5), (4, .ref p6), (5, .ref p7), (6, .int (0 : Int32)), (7, .int v13)] rfl (fX13_readClause_L256_ok eg_F h12 p3 v4 v5 p6 p7 (0 : Int32) v13 x16 e15 ?_ ?_)
    · intro h17 e18
      subst e18
      exact eg_vretE dX13_readClause_339 hF
    · intro p19 h20 e24
      subst e24
      refine eg_aload_n (i := 0) 0 dX13_readClause_280 rfl rfl ?_
      replace hF := eg_bind hF; obtain ⟨⟨v22, h21⟩, e23, hF⟩ := hF
      refine eg_callV (c := 13) (n := 0) [] dX13_readClause_281 (mX13_fails e23) rfl (fX13_fails_O e23) (Nat.le_of_ble_eq_true rfl) rfl ew_1719 ew_1721 ew_55 ew_110 ew_1722 hy_X13_fails rfl (Nat.le_of_ble_eq_true rfl) (Nat.le_of_ble_eq_true rfl) (Nat.le_of_ble_eq_true rfl) ?_
      refine eg_pop dX13_readClause_284 rfl ?_
      exact eg_vretE dX13_readClause_285 hF
def fX13_readClause_j194 (h : eg_H) (l0 : Nat) (l1 : Int32) (l3 : Int32) (l4 : Nat) (l5 : Nat) : Option (eg_H) :=
  if l1 = (101 : Int32) then
    ((eg_gI h 13 27 l0).bind fun v2 =>
    (eg_pI h 13 27 l0 (v2 + (1 : Int32))).bind fun h4 =>
    fX13_readClause_j210 h4 l0 l1 l3 l4 l5)
  else
    fX13_readClause_j210 h l0 l1 l3 l4 l5
set_option maxRecDepth 20000 in
theorem fX13_readClause_j194_ok {h0 : eg_H} (h : eg_H) (l0 : Nat) (l1 : Int32) (l3 : Int32) (l4 : Nat) (l5 : Nat) {hE : eg_H} (hF : fX13_readClause_j194 h l0 l1 l3 l4 l5 = some hE) : eg_AW (RX13, cX13_readClause, 8, 6, none, "readClause", none) (eg_Zm none hE h0) (eg_nc hE) (eg_ns hE) h0 194 [(0, .ref l0), (1, .int l1), (3, .int l3), (4, .ref l4), (5, .ref l5)] [] h := by
  refine eg_iload_n (i := 1) 1 dX13_readClause_194 rfl rfl ?_
  refine eg_bipush (v := (101 : Int32)) dX13_readClause_195 (by decide) ?_
  refine eg_ic_ne 210 dX13_readClause_197 rfl (fun c1 => ?_) (fun c1 => ?_)
  · replace hF := eg_it c1 hF
    refine eg_aload_n (i := 0) 0 dX13_readClause_200 rfl rfl ?_
    refine eg_dup dX13_readClause_201 rfl ?_
    replace hF := eg_bind hF; obtain ⟨v2, e3, hF⟩ := hF
    refine eg_getI dX13_readClause_202 e3 (Nat.le_of_ble_eq_true rfl) (Nat.le_of_ble_eq_true rfl) rfl ew_1461 ?_
    refine eg_iconst (v := (1 : Int32)) dX13_readClause_205 (by decide) ?_
    refine eg_iadd dX13_readClause_206 ?_
    replace hF := eg_bind hF; obtain ⟨h4, e5, hF⟩ := hF
    refine eg_putI dX13_readClause_207 e5 (Nat.le_of_ble_eq_true rfl) (Nat.le_of_ble_eq_true rfl) rfl ew_1461 (Or.inl rfl) ?_
    exact (fX13_readClause_j210_ok h4 l0 l1 l3 l4 l5 hF)
  · replace hF := eg_if c1 hF
    exact (fX13_readClause_j210_ok h l0 l1 l3 l4 l5 hF)
def fX13_readClause_j178 (h : eg_H) (l0 : Nat) (l1 : Int32) (l3 : Int32) (l4 : Nat) (l5 : Nat) : Option (eg_H) :=
  if l1 = (112 : Int32) then
    ((eg_gI h 13 25 l0).bind fun v2 =>
    (eg_pI h 13 25 l0 (v2 + (1 : Int32))).bind fun h4 =>
    fX13_readClause_j194 h4 l0 l1 l3 l4 l5)
  else
    fX13_readClause_j194 h l0 l1 l3 l4 l5
set_option maxRecDepth 20000 in
theorem fX13_readClause_j178_ok {h0 : eg_H} (h : eg_H) (l0 : Nat) (l1 : Int32) (l3 : Int32) (l4 : Nat) (l5 : Nat) {hE : eg_H} (hF : fX13_readClause_j178 h l0 l1 l3 l4 l5 = some hE) : eg_AW (RX13, cX13_readClause, 8, 6, none, "readClause", none) (eg_Zm none hE h0) (eg_nc hE) (eg_ns hE) h0 178 [(0, .ref l0), (1, .int l1), (3, .int l3), (4, .ref l4), (5, .ref l5)] [] h := by
  refine eg_iload_n (i := 1) 1 dX13_readClause_178 rfl rfl ?_
  refine eg_bipush (v := (112 : Int32)) dX13_readClause_179 (by decide) ?_
  refine eg_ic_ne 194 dX13_readClause_181 rfl (fun c1 => ?_) (fun c1 => ?_)
  · replace hF := eg_it c1 hF
    refine eg_aload_n (i := 0) 0 dX13_readClause_184 rfl rfl ?_
    refine eg_dup dX13_readClause_185 rfl ?_
    replace hF := eg_bind hF; obtain ⟨v2, e3, hF⟩ := hF
    refine eg_getI dX13_readClause_186 e3 (Nat.le_of_ble_eq_true rfl) (Nat.le_of_ble_eq_true rfl) rfl ew_1459 ?_
    refine eg_iconst (v := (1 : Int32)) dX13_readClause_189 (by decide) ?_
    refine eg_iadd dX13_readClause_190 ?_
    replace hF := eg_bind hF; obtain ⟨h4, e5, hF⟩ := hF
    refine eg_putI dX13_readClause_191 e5 (Nat.le_of_ble_eq_true rfl) (Nat.le_of_ble_eq_true rfl) rfl ew_1459 (Or.inl rfl) ?_
    exact (fX13_readClause_j194_ok h4 l0 l1 l3 l4 l5 hF)
  · replace hF := eg_if c1 hF
    exact (fX13_readClause_j194_ok h l0 l1 l3 l4 l5 hF)
def fX13_readClause_j165 (h : eg_H) (l0 : Nat) (l1 : Int32) (l3 : Int32) (l4 : Nat) (s0 : Nat) : Option (eg_H) :=
  if l1 = (109 : Int32) then
    ((eg_pZ h 13 28 l0 (1 : Int32)).bind fun h2 =>
    fX13_readClause_j178 h2 l0 l1 l3 l4 s0)
  else
    fX13_readClause_j178 h l0 l1 l3 l4 s0
set_option maxRecDepth 20000 in
theorem fX13_readClause_j165_ok {h0 : eg_H} (h : eg_H) (l0 : Nat) (l1 : Int32) (l3 : Int32) (l4 : Nat) (s0 : Nat) {hE : eg_H} (hF : fX13_readClause_j165 h l0 l1 l3 l4 s0 = some hE) : eg_AW (RX13, cX13_readClause, 8, 6, none, "readClause", none) (eg_Zm none hE h0) (eg_nc hE) (eg_ns hE) h0 165 [(0, .ref l0), (1, .int l1), (3, .int l3), (4, .ref l4)] [.ref s0] h := by
  refine eg_astore (i := 5) [(5, .ref s0), (0, .ref l0), (1, .int l1), (3, .int l3), (4, .ref l4)] dX13_readClause_165 (Nat.le_of_ble_eq_true rfl) rfl ?_
  refine eg_iload_n (i := 1) 2 dX13_readClause_167 rfl rfl ?_
  refine eg_bipush (v := (109 : Int32)) dX13_readClause_168 (by decide) ?_
  refine eg_ic_ne 178 dX13_readClause_170 rfl (fun c1 => ?_) (fun c1 => ?_)
  · replace hF := eg_it c1 hF
    refine eg_aload_n (i := 0) 1 dX13_readClause_173 rfl rfl ?_
    refine eg_iconst (v := (1 : Int32)) dX13_readClause_174 (by decide) ?_
    replace hF := eg_bind hF; obtain ⟨h2, e3, hF⟩ := hF
    refine eg_putZ dX13_readClause_175 e3 (Nat.le_of_ble_eq_true rfl) (Nat.le_of_ble_eq_true rfl) rfl ew_1462 rfl ?_
    exact eg_sub [1, 2, 3, 4, 0] [(0, .ref l0), (1, .int l1), (3, .int l3), (4, .ref l4), (5, .ref s0)] rfl (fX13_readClause_j178_ok h2 l0 l1 l3 l4 s0 hF)
  · replace hF := eg_if c1 hF
    exact eg_sub [1, 2, 3, 4, 0] [(0, .ref l0), (1, .int l1), (3, .int l3), (4, .ref l4), (5, .ref s0)] rfl (fX13_readClause_j178_ok h l0 l1 l3 l4 s0 hF)
def fX13_readClause_j136 (h : eg_H) (l0 : Nat) (l1 : Int32) (l3 : Int32) (s0 : Nat) : Option (eg_H) :=
  if l1 = (109 : Int32) then
    (fX13_readClause_j165 h l0 l1 l3 s0 7)
  else
    if l1 = (112 : Int32) then
      (fX13_readClause_j165 h l0 l1 l3 s0 8)
    else
      fX13_readClause_j165 h l0 l1 l3 s0 9
set_option maxRecDepth 20000 in
theorem fX13_readClause_j136_ok {h0 : eg_H} (h : eg_H) (l0 : Nat) (l1 : Int32) (l3 : Int32) (s0 : Nat) {hE : eg_H} (hF : fX13_readClause_j136 h l0 l1 l3 s0 = some hE) : eg_AW (RX13, cX13_readClause, 8, 6, none, "readClause", none) (eg_Zm none hE h0) (eg_nc hE) (eg_ns hE) h0 136 [(0, .ref l0), (1, .int l1), (3, .int l3)] [.ref s0] h := by
  refine eg_astore (i := 4) [(4, .ref s0), (0, .ref l0), (1, .int l1), (3, .int l3)] dX13_readClause_136 (Nat.le_of_ble_eq_true rfl) rfl ?_
  refine eg_iload_n (i := 1) 2 dX13_readClause_138 rfl rfl ?_
  refine eg_bipush (v := (109 : Int32)) dX13_readClause_139 (by decide) ?_
  refine eg_ic_ne 150 dX13_readClause_141 rfl (fun c1 => ?_) (fun c1 => ?_)
  · replace hF := eg_it c1 hF
    refine eg_ldcSw (i := 2) dX13_readClause_144 (by decide) rfl rfl ?_
    refine eg_goto 165 dX13_readClause_147 rfl ?_
    exact eg_sub [1, 2, 3, 0] [(0, .ref l0), (1, .int l1), (3, .int l3), (4, .ref s0)] rfl (fX13_readClause_j165_ok h l0 l1 l3 s0 7 hF)
  · replace hF := eg_if c1 hF
    refine eg_iload_n (i := 1) 2 dX13_readClause_150 rfl rfl ?_
    refine eg_bipush (v := (112 : Int32)) dX13_readClause_151 (by decide) ?_
    refine eg_ic_ne 162 dX13_readClause_153 rfl (fun c2 => ?_) (fun c2 => ?_)
    · replace hF := eg_it c2 hF
      refine eg_ldcSw (i := 3) dX13_readClause_156 (by decide) rfl rfl ?_
      refine eg_goto 165 dX13_readClause_159 rfl ?_
      exact eg_sub [1, 2, 3, 0] [(0, .ref l0), (1, .int l1), (3, .int l3), (4, .ref s0)] rfl (fX13_readClause_j165_ok h l0 l1 l3 s0 8 hF)
    · replace hF := eg_if c2 hF
      refine eg_ldcSw (i := 4) dX13_readClause_162 (by decide) rfl rfl ?_
      exact eg_sub [1, 2, 3, 0] [(0, .ref l0), (1, .int l1), (3, .int l3), (4, .ref s0)] rfl (fX13_readClause_j165_ok h l0 l1 l3 s0 9 hF)
def fX13_readClause_j105 (h : eg_H) (l0 : Nat) (l1 : Int32) (s0 : Int32) : Option (eg_H) :=
  if l1 = (112 : Int32) then
    ((eg_gR h 13 21 l0).bind fun p2 =>
    fX13_readClause_j136 h l0 l1 s0 p2)
  else
    if l1 = (101 : Int32) then
      ((eg_gR h 13 23 l0).bind fun p5 =>
      fX13_readClause_j136 h l0 l1 s0 p5)
    else
      (eg_gR h 13 19 l0).bind fun p7 =>
      fX13_readClause_j136 h l0 l1 s0 p7
set_option maxRecDepth 20000 in
theorem fX13_readClause_j105_ok {h0 : eg_H} (h : eg_H) (l0 : Nat) (l1 : Int32) (s0 : Int32) {hE : eg_H} (hF : fX13_readClause_j105 h l0 l1 s0 = some hE) : eg_AW (RX13, cX13_readClause, 8, 6, none, "readClause", none) (eg_Zm none hE h0) (eg_nc hE) (eg_ns hE) h0 105 [(0, .ref l0), (1, .int l1)] [.int s0] h := by
  refine eg_istore_n (i := 3) [(3, .int s0), (0, .ref l0), (1, .int l1)] dX13_readClause_105 rfl (Nat.le_of_ble_eq_true rfl) rfl ?_
  refine eg_iload_n (i := 1) 2 dX13_readClause_106 rfl rfl ?_
  refine eg_bipush (v := (112 : Int32)) dX13_readClause_107 (by decide) ?_
  refine eg_ic_ne 119 dX13_readClause_109 rfl (fun c1 => ?_) (fun c1 => ?_)
  · replace hF := eg_it c1 hF
    refine eg_aload_n (i := 0) 1 dX13_readClause_112 rfl rfl ?_
    replace hF := eg_bind hF; obtain ⟨p2, e3, hF⟩ := hF
    refine eg_getR dX13_readClause_113 e3 (Nat.le_of_ble_eq_true rfl) (Nat.le_of_ble_eq_true rfl) rfl ew_1455 ?_
    refine eg_goto 136 dX13_readClause_116 rfl ?_
    exact eg_sub [1, 2, 0] [(0, .ref l0), (1, .int l1), (3, .int s0)] rfl (fX13_readClause_j136_ok h l0 l1 s0 p2 hF)
  · replace hF := eg_if c1 hF
    refine eg_iload_n (i := 1) 2 dX13_readClause_119 rfl rfl ?_
    refine eg_bipush (v := (101 : Int32)) dX13_readClause_120 (by decide) ?_
    refine eg_ic_ne 132 dX13_readClause_122 rfl (fun c4 => ?_) (fun c4 => ?_)
    · replace hF := eg_it c4 hF
      refine eg_aload_n (i := 0) 1 dX13_readClause_125 rfl rfl ?_
      replace hF := eg_bind hF; obtain ⟨p5, e6, hF⟩ := hF
      refine eg_getR dX13_readClause_126 e6 (Nat.le_of_ble_eq_true rfl) (Nat.le_of_ble_eq_true rfl) rfl ew_1457 ?_
      refine eg_goto 136 dX13_readClause_129 rfl ?_
      exact eg_sub [1, 2, 0] [(0, .ref l0), (1, .int l1), (3, .int s0)] rfl (fX13_readClause_j136_ok h l0 l1 s0 p5 hF)
    · replace hF := eg_if c4 hF
      refine eg_aload_n (i := 0) 1 dX13_readClause_132 rfl rfl ?_
      replace hF := eg_bind hF; obtain ⟨p7, e8, hF⟩ := hF
      refine eg_getR dX13_readClause_133 e8 (Nat.le_of_ble_eq_true rfl) (Nat.le_of_ble_eq_true rfl) rfl ew_1453 ?_
      exact eg_sub [1, 2, 0] [(0, .ref l0), (1, .int l1), (3, .int s0)] rfl (fX13_readClause_j136_ok h l0 l1 s0 p7 hF)
def fX13_readClause_j53 (h : eg_H) (l0 : Nat) (l1 : Int32) (s0 : Int32) : Option (eg_H) :=
  if s0 = 0 then
    ((fX13_fails h l0).bind fun ⟨v3, h2⟩ =>
    some h2)
  else
    (eg_gI h 13 10 l0).bind fun v5 =>
    (eg_pI h 13 10 l0 (v5 + (1 : Int32))).bind fun h7 =>
    if l1 = (112 : Int32) then
      ((eg_gI h7 13 25 l0).bind fun v10 =>
      fX13_readClause_j105 h7 l0 l1 ((4 : Int32) * v10))
    else
      if l1 = (101 : Int32) then
        ((eg_gI h7 13 27 l0).bind fun v13 =>
        fX13_readClause_j105 h7 l0 l1 ((2 : Int32) * v13))
      else
        fX13_readClause_j105 h7 l0 l1 (0 : Int32)
set_option maxRecDepth 20000 in
theorem fX13_readClause_j53_ok {h0 : eg_H} (h : eg_H) (l0 : Nat) (l1 : Int32) (s0 : Int32) {hE : eg_H} (hF : fX13_readClause_j53 h l0 l1 s0 = some hE) : eg_AW (RX13, cX13_readClause, 8, 6, none, "readClause", none) (eg_Zm none hE h0) (eg_nc hE) (eg_ns hE) h0 53 [(0, .ref l0), (1, .int l1)] [.int s0] h := by
  refine eg_istore_n (i := 2) [(2, .int s0), (0, .ref l0), (1, .int l1)] dX13_readClause_53 rfl (Nat.le_of_ble_eq_true rfl) rfl ?_
  refine eg_iload_n (i := 2) 0 dX13_readClause_54 rfl rfl ?_
  refine eg_if_ne 64 dX13_readClause_55 rfl (fun c1 => ?_) (fun c1 => ?_)
  · replace hF := eg_it c1 hF
    refine eg_aload_n (i := 0) 1 dX13_readClause_58 rfl rfl ?_
    replace hF := eg_bind hF; obtain ⟨⟨v3, h2⟩, e4, hF⟩ := hF
    refine eg_callV (c := 13) (n := 0) [] dX13_readClause_59 (mX13_fails e4) rfl (fX13_fails_O e4) (Nat.le_of_ble_eq_true rfl) rfl ew_1719 ew_1721 ew_55 ew_110 ew_1722 hy_X13_fails rfl (Nat.le_of_ble_eq_true rfl) (Nat.le_of_ble_eq_true rfl) (Nat.le_of_ble_eq_true rfl) ?_
    refine eg_pop dX13_readClause_62 rfl ?_
    exact eg_vretE dX13_readClause_63 hF
  · replace hF := eg_if c1 hF
    refine eg_aload_n (i := 0) 1 dX13_readClause_64 rfl rfl ?_
    refine eg_dup dX13_readClause_65 rfl ?_
    replace hF := eg_bind hF; obtain ⟨v5, e6, hF⟩ := hF
    refine eg_getI dX13_readClause_66 e6 (Nat.le_of_ble_eq_true rfl) (Nat.le_of_ble_eq_true rfl) rfl ew_1444 ?_
    refine eg_iconst (v := (1 : Int32)) dX13_readClause_69 (by decide) ?_
    refine eg_iadd dX13_readClause_70 ?_
    replace hF := eg_bind hF; obtain ⟨h7, e8, hF⟩ := hF
    refine eg_putI dX13_readClause_71 e8 (Nat.le_of_ble_eq_true rfl) (Nat.le_of_ble_eq_true rfl) rfl ew_1444 (Or.inl rfl) ?_
    refine eg_iload_n (i := 1) 2 dX13_readClause_74 rfl rfl ?_
    refine eg_bipush (v := (112 : Int32)) dX13_readClause_75 (by decide) ?_
    refine eg_ic_ne 89 dX13_readClause_77 rfl (fun c9 => ?_) (fun c9 => ?_)
    · replace hF := eg_it c9 hF
      refine eg_iconst (v := (4 : Int32)) dX13_readClause_80 (by decide) ?_
      refine eg_aload_n (i := 0) 1 dX13_readClause_81 rfl rfl ?_
      replace hF := eg_bind hF; obtain ⟨v10, e11, hF⟩ := hF
      refine eg_getI dX13_readClause_82 e11 (Nat.le_of_ble_eq_true rfl) (Nat.le_of_ble_eq_true rfl) rfl ew_1459 ?_
      refine eg_imul dX13_readClause_85 ?_
      refine eg_goto 105 dX13_readClause_86 rfl ?_
      exact eg_sub [1, 2] [(0, .ref l0), (1, .int l1)] rfl (fX13_readClause_j105_ok h7 l0 l1 ((4 : Int32) * v10) hF)
    · replace hF := eg_if c9 hF
      refine eg_iload_n (i := 1) 2 dX13_readClause_89 rfl rfl ?_
      refine eg_bipush (v := (101 : Int32)) dX13_readClause_90 (by decide) ?_
      refine eg_ic_ne 104 dX13_readClause_92 rfl (fun c12 => ?_) (fun c12 => ?_)
      · replace hF := eg_it c12 hF
        refine eg_iconst (v := (2 : Int32)) dX13_readClause_95 (by decide) ?_
        refine eg_aload_n (i := 0) 1 dX13_readClause_96 rfl rfl ?_
        replace hF := eg_bind hF; obtain ⟨v13, e14, hF⟩ := hF
        refine eg_getI dX13_readClause_97 e14 (Nat.le_of_ble_eq_true rfl) (Nat.le_of_ble_eq_true rfl) rfl ew_1461 ?_
        refine eg_imul dX13_readClause_100 ?_
        refine eg_goto 105 dX13_readClause_101 rfl ?_
        exact eg_sub [1, 2] [(0, .ref l0), (1, .int l1)] rfl (fX13_readClause_j105_ok h7 l0 l1 ((2 : Int32) * v13) hF)
      · replace hF := eg_if c12 hF
        refine eg_iconst (v := (0 : Int32)) dX13_readClause_104 (by decide) ?_
        exact eg_sub [1, 2] [(0, .ref l0), (1, .int l1)] rfl (fX13_readClause_j105_ok h7 l0 l1 (0 : Int32) hF)
def fX13_readClause_j48 (h : eg_H) (l0 : Nat) (l1 : Int32) : Option (eg_H) :=
  fX13_readClause_j53 h l0 l1 (1 : Int32)
set_option maxRecDepth 20000 in
theorem fX13_readClause_j48_ok {h0 : eg_H} (h : eg_H) (l0 : Nat) (l1 : Int32) {hE : eg_H} (hF : fX13_readClause_j48 h l0 l1 = some hE) : eg_AW (RX13, cX13_readClause, 8, 6, none, "readClause", none) (eg_Zm none hE h0) (eg_nc hE) (eg_ns hE) h0 48 [(0, .ref l0), (1, .int l1)] [] h := by
  refine eg_iconst (v := (1 : Int32)) dX13_readClause_48 (by decide) ?_
  refine eg_goto 53 dX13_readClause_49 rfl ?_
  exact (fX13_readClause_j53_ok h l0 l1 (1 : Int32) hF)
def fX13_readClause_j52 (h : eg_H) (l0 : Nat) (l1 : Int32) : Option (eg_H) :=
  fX13_readClause_j53 h l0 l1 (0 : Int32)
set_option maxRecDepth 20000 in
theorem fX13_readClause_j52_ok {h0 : eg_H} (h : eg_H) (l0 : Nat) (l1 : Int32) {hE : eg_H} (hF : fX13_readClause_j52 h l0 l1 = some hE) : eg_AW (RX13, cX13_readClause, 8, 6, none, "readClause", none) (eg_Zm none hE h0) (eg_nc hE) (eg_ns hE) h0 52 [(0, .ref l0), (1, .int l1)] [] h := by
  refine eg_iconst (v := (0 : Int32)) dX13_readClause_52 (by decide) ?_
  exact (fX13_readClause_j53_ok h l0 l1 (0 : Int32) hF)
def fX13_readClause_j33 (h : eg_H) (l0 : Nat) (l1 : Int32) : Option (eg_H) :=
  if l1 = (101 : Int32) then
    ((eg_gI h 13 27 l0).bind fun v2 =>
    if (6 : Int32) ≤ v2 then
      (fX13_readClause_j52 h l0 l1)
    else
      fX13_readClause_j48 h l0 l1)
  else
    fX13_readClause_j52 h l0 l1
set_option maxRecDepth 20000 in
theorem fX13_readClause_j33_ok {h0 : eg_H} (h : eg_H) (l0 : Nat) (l1 : Int32) {hE : eg_H} (hF : fX13_readClause_j33 h l0 l1 = some hE) : eg_AW (RX13, cX13_readClause, 8, 6, none, "readClause", none) (eg_Zm none hE h0) (eg_nc hE) (eg_ns hE) h0 33 [(0, .ref l0), (1, .int l1)] [] h := by
  refine eg_iload_n (i := 1) 1 dX13_readClause_33 rfl rfl ?_
  refine eg_bipush (v := (101 : Int32)) dX13_readClause_34 (by decide) ?_
  refine eg_ic_ne 52 dX13_readClause_36 rfl (fun c1 => ?_) (fun c1 => ?_)
  · replace hF := eg_it c1 hF
    refine eg_aload_n (i := 0) 0 dX13_readClause_39 rfl rfl ?_
    replace hF := eg_bind hF; obtain ⟨v2, e3, hF⟩ := hF
    refine eg_getI dX13_readClause_40 e3 (Nat.le_of_ble_eq_true rfl) (Nat.le_of_ble_eq_true rfl) rfl ew_1461 ?_
    refine eg_bipush (v := (6 : Int32)) dX13_readClause_43 (by decide) ?_
    refine eg_ic_ge 52 dX13_readClause_45 rfl (fun c4 => ?_) (fun c4 => ?_)
    · replace hF := eg_it c4 hF
      exact (fX13_readClause_j52_ok h l0 l1 hF)
    · replace hF := eg_if c4 hF
      exact (fX13_readClause_j48_ok h l0 l1 hF)
  · replace hF := eg_if c1 hF
    exact (fX13_readClause_j52_ok h l0 l1 hF)
def fX13_readClause_j18 (h : eg_H) (l0 : Nat) (l1 : Int32) : Option (eg_H) :=
  if l1 = (112 : Int32) then
    ((eg_gI h 13 25 l0).bind fun v2 =>
    if v2 < (6 : Int32) then
      (fX13_readClause_j48 h l0 l1)
    else
      fX13_readClause_j33 h l0 l1)
  else
    fX13_readClause_j33 h l0 l1
set_option maxRecDepth 20000 in
theorem fX13_readClause_j18_ok {h0 : eg_H} (h : eg_H) (l0 : Nat) (l1 : Int32) {hE : eg_H} (hF : fX13_readClause_j18 h l0 l1 = some hE) : eg_AW (RX13, cX13_readClause, 8, 6, none, "readClause", none) (eg_Zm none hE h0) (eg_nc hE) (eg_ns hE) h0 18 [(0, .ref l0), (1, .int l1)] [] h := by
  refine eg_iload_n (i := 1) 1 dX13_readClause_18 rfl rfl ?_
  refine eg_bipush (v := (112 : Int32)) dX13_readClause_19 (by decide) ?_
  refine eg_ic_ne 33 dX13_readClause_21 rfl (fun c1 => ?_) (fun c1 => ?_)
  · replace hF := eg_it c1 hF
    refine eg_aload_n (i := 0) 0 dX13_readClause_24 rfl rfl ?_
    replace hF := eg_bind hF; obtain ⟨v2, e3, hF⟩ := hF
    refine eg_getI dX13_readClause_25 e3 (Nat.le_of_ble_eq_true rfl) (Nat.le_of_ble_eq_true rfl) rfl ew_1459 ?_
    refine eg_bipush (v := (6 : Int32)) dX13_readClause_28 (by decide) ?_
    refine eg_ic_lt 48 dX13_readClause_30 rfl (fun c4 => ?_) (fun c4 => ?_)
    · replace hF := eg_it c4 hF
      exact (fX13_readClause_j48_ok h l0 l1 hF)
    · replace hF := eg_if c4 hF
      exact (fX13_readClause_j33_ok h l0 l1 hF)
  · replace hF := eg_if c1 hF
    exact (fX13_readClause_j33_ok h l0 l1 hF)
def fX13_readClause (h : eg_H) (l0 : Nat) : Option (eg_H) :=
  if eg_isO h 13 l0 then (
    (fX13_look h l0).bind fun ⟨v2, h1⟩ =>
    if v2 = (109 : Int32) then
      ((eg_gI h1 13 28 l0).bind fun v5 =>
      if v5 = 0 then
        (fX13_readClause_j48 h1 l0 v2)
      else
        fX13_readClause_j18 h1 l0 v2)
    else
      fX13_readClause_j18 h1 l0 v2) else none
theorem fX13_readClause_O {h : eg_H} {l0 : Nat} {hE : eg_H} (hF : fX13_readClause h l0 = some hE) : eg_isO h 13 l0 := (eg_ifn hF).1
set_option maxRecDepth 20000 in
theorem mX13_readClause {h : eg_H} {l0 : Nat} {hE : eg_H} (hF : fX13_readClause h l0 = some hE) : eg_Met yX13_readClause cX13_readClause 8 none 6 [.ref l0] h none hE := by
  refine eg_enter rfl (Nat.le_of_ble_eq_true rfl) ?_
  show eg_AW (RX13, cX13_readClause, 8, 6, none, "readClause", none) (eg_Zm none hE h) (eg_nc hE) (eg_ns hE) h 0 [(0, .ref l0)] [] h
  replace hF := (eg_ifn hF).2
  refine eg_aload_n (i := 0) 0 dX13_readClause_0 rfl rfl ?_
  replace hF := eg_bind hF; obtain ⟨⟨v2, h1⟩, e3, hF⟩ := hF
  refine eg_callV (c := 13) (n := 0) [] dX13_readClause_1 (mX13_look e3) rfl (fX13_look_O e3) (Nat.le_of_ble_eq_true rfl) rfl ew_1715 ew_1717 ew_54 ew_110 ew_1718 hy_X13_look rfl (Nat.le_of_ble_eq_true rfl) (Nat.le_of_ble_eq_true rfl) (Nat.le_of_ble_eq_true rfl) ?_
  refine eg_istore_n (i := 1) [(1, .int v2), (0, .ref l0)] dX13_readClause_4 rfl (Nat.le_of_ble_eq_true rfl) rfl ?_
  refine eg_iload_n (i := 1) 0 dX13_readClause_5 rfl rfl ?_
  refine eg_bipush (v := (109 : Int32)) dX13_readClause_6 (by decide) ?_
  refine eg_ic_ne 18 dX13_readClause_8 rfl (fun c4 => ?_) (fun c4 => ?_)
  · replace hF := eg_it c4 hF
    refine eg_aload_n (i := 0) 1 dX13_readClause_11 rfl rfl ?_
    replace hF := eg_bind hF; obtain ⟨v5, e6, hF⟩ := hF
    refine eg_getI dX13_readClause_12 e6 (Nat.le_of_ble_eq_true rfl) (Nat.le_of_ble_eq_true rfl) rfl ew_1462 ?_
    refine eg_if_eq 48 dX13_readClause_15 rfl (fun c7 => ?_) (fun c7 => ?_)
    · replace hF := eg_it c7 hF
      exact eg_sub [1, 0] [(0, .ref l0), (1, .int v2)] rfl (fX13_readClause_j48_ok h1 l0 v2 hF)
    · replace hF := eg_if c7 hF
      exact eg_sub [1, 0] [(0, .ref l0), (1, .int v2)] rfl (fX13_readClause_j18_ok h1 l0 v2 hF)
  · replace hF := eg_if c4 hF
    exact eg_sub [1, 0] [(0, .ref l0), (1, .int v2)] rfl (fX13_readClause_j18_ok h1 l0 v2 hF)
theorem dX13_readMeadow_0 : decode cX13_readMeadow 0 = .ok (.aload_n 0, 1) := by decide +kernel
theorem dX13_readMeadow_1 : decode cX13_readMeadow 1 = .ok (.aload_n 0, 1) := by decide +kernel
theorem dX13_readMeadow_2 : decode cX13_readMeadow 2 = .ok (.getfield 9, 3) := by decide +kernel
theorem dX13_readMeadow_5 : decode cX13_readMeadow 5 = .ok (.iconst 0, 1) := by decide +kernel
theorem dX13_readMeadow_6 : decode cX13_readMeadow 6 = .ok (.aload_n 0, 1) := by decide +kernel
theorem dX13_readMeadow_7 : decode cX13_readMeadow 7 = .ok (.getfield 161, 3) := by decide +kernel
theorem dX13_readMeadow_10 : decode cX13_readMeadow 10 = .ok (.invokevirtual 259, 3) := by decide +kernel
theorem dX13_readMeadow_13 : decode cX13_readMeadow 13 = .ok (.aload_n 0, 1) := by decide +kernel
theorem dX13_readMeadow_14 : decode cX13_readMeadow 14 = .ok (.iconst 0, 1) := by decide +kernel
theorem dX13_readMeadow_15 : decode cX13_readMeadow 15 = .ok (.putfield 276, 3) := by decide +kernel
theorem dX13_readMeadow_18 : decode cX13_readMeadow 18 = .ok (.aload_n 0, 1) := by decide +kernel
theorem dX13_readMeadow_19 : decode cX13_readMeadow 19 = .ok (.iconst 0, 1) := by decide +kernel
theorem dX13_readMeadow_20 : decode cX13_readMeadow 20 = .ok (.putfield 279, 3) := by decide +kernel
theorem dX13_readMeadow_23 : decode cX13_readMeadow 23 = .ok (.aload_n 0, 1) := by decide +kernel
theorem dX13_readMeadow_24 : decode cX13_readMeadow 24 = .ok (.iconst 0, 1) := by decide +kernel
theorem dX13_readMeadow_25 : decode cX13_readMeadow 25 = .ok (.putfield 273, 3) := by decide +kernel
theorem dX13_readMeadow_28 : decode cX13_readMeadow 28 = .ok (.iconst 0, 1) := by decide +kernel
theorem dX13_readMeadow_29 : decode cX13_readMeadow 29 = .ok (.istore_n 1, 1) := by decide +kernel
theorem dX13_readMeadow_30 : decode cX13_readMeadow 30 = .ok (.iload_n 1, 1) := by decide +kernel
theorem dX13_readMeadow_31 : decode cX13_readMeadow 31 = .ok (.iconst 4, 1) := by decide +kernel
theorem dX13_readMeadow_32 : decode cX13_readMeadow 32 = .ok (.if_icmp .ge 21, 3) := by decide +kernel
theorem dX13_readMeadow_35 : decode cX13_readMeadow 35 = .ok (.aload_n 0, 1) := by decide +kernel
theorem dX13_readMeadow_36 : decode cX13_readMeadow 36 = .ok (.getfield 40, 3) := by decide +kernel
theorem dX13_readMeadow_39 : decode cX13_readMeadow 39 = .ok (.iload_n 1, 1) := by decide +kernel
theorem dX13_readMeadow_40 : decode cX13_readMeadow 40 = .ok (.bipush 109, 2) := by decide +kernel
theorem dX13_readMeadow_42 : decode cX13_readMeadow 42 = .ok (.iload_n 1, 1) := by decide +kernel
theorem dX13_readMeadow_43 : decode cX13_readMeadow 43 = .ok (.invokestatic 288, 3) := by decide +kernel
theorem dX13_readMeadow_46 : decode cX13_readMeadow 46 = .ok (.iastore, 1) := by decide +kernel
theorem dX13_readMeadow_47 : decode cX13_readMeadow 47 = .ok (.iinc 1 1, 3) := by decide +kernel
theorem dX13_readMeadow_50 : decode cX13_readMeadow 50 = .ok (.goto (-20), 3) := by decide +kernel
theorem dX13_readMeadow_53 : decode cX13_readMeadow 53 = .ok (.iconst 1, 1) := by decide +kernel
theorem dX13_readMeadow_54 : decode cX13_readMeadow 54 = .ok (.istore_n 1, 1) := by decide +kernel
theorem dX13_readMeadow_55 : decode cX13_readMeadow 55 = .ok (.iload_n 1, 1) := by decide +kernel
theorem dX13_readMeadow_56 : decode cX13_readMeadow 56 = .ok (.ifCond .eq 55, 3) := by decide +kernel
theorem dX13_readMeadow_59 : decode cX13_readMeadow 59 = .ok (.aload_n 0, 1) := by decide +kernel
theorem dX13_readMeadow_60 : decode cX13_readMeadow 60 = .ok (.getfield 180, 3) := by decide +kernel
theorem dX13_readMeadow_63 : decode cX13_readMeadow 63 = .ok (.iconst (-1), 1) := by decide +kernel
theorem dX13_readMeadow_64 : decode cX13_readMeadow 64 = .ok (.if_icmp .ne 47, 3) := by decide +kernel
theorem dX13_readMeadow_67 : decode cX13_readMeadow 67 = .ok (.aload_n 0, 1) := by decide +kernel
theorem dX13_readMeadow_68 : decode cX13_readMeadow 68 = .ok (.invokevirtual 310, 3) := by decide +kernel
theorem dX13_readMeadow_71 : decode cX13_readMeadow 71 = .ok (.aload_n 0, 1) := by decide +kernel
theorem dX13_readMeadow_72 : decode cX13_readMeadow 72 = .ok (.getfield 180, 3) := by decide +kernel
theorem dX13_readMeadow_75 : decode cX13_readMeadow 75 = .ok (.iconst (-1), 1) := by decide +kernel
theorem dX13_readMeadow_76 : decode cX13_readMeadow 76 = .ok (.if_icmp .ne 16, 3) := by decide +kernel
theorem dX13_readMeadow_79 : decode cX13_readMeadow 79 = .ok (.aload_n 0, 1) := by decide +kernel
theorem dX13_readMeadow_80 : decode cX13_readMeadow 80 = .ok (.invokevirtual 190, 3) := by decide +kernel
theorem dX13_readMeadow_83 : decode cX13_readMeadow 83 = .ok (.bipush 59, 2) := by decide +kernel
theorem dX13_readMeadow_85 : decode cX13_readMeadow 85 = .ok (.if_icmp .ne 7, 3) := by decide +kernel
theorem dX13_readMeadow_88 : decode cX13_readMeadow 88 = .ok (.iconst 1, 1) := by decide +kernel
theorem dX13_readMeadow_89 : decode cX13_readMeadow 89 = .ok (.goto 4, 3) := by decide +kernel
theorem dX13_readMeadow_92 : decode cX13_readMeadow 92 = .ok (.iconst 0, 1) := by decide +kernel
theorem dX13_readMeadow_93 : decode cX13_readMeadow 93 = .ok (.istore_n 1, 1) := by decide +kernel
theorem dX13_readMeadow_94 : decode cX13_readMeadow 94 = .ok (.iload_n 1, 1) := by decide +kernel
theorem dX13_readMeadow_95 : decode cX13_readMeadow 95 = .ok (.ifCond .eq (-40), 3) := by decide +kernel
theorem dX13_readMeadow_98 : decode cX13_readMeadow 98 = .ok (.aload_n 0, 1) := by decide +kernel
theorem dX13_readMeadow_99 : decode cX13_readMeadow 99 = .ok (.dup, 1) := by decide +kernel
theorem dX13_readMeadow_100 : decode cX13_readMeadow 100 = .ok (.getfield 171, 3) := by decide +kernel
theorem dX13_readMeadow_103 : decode cX13_readMeadow 103 = .ok (.iconst 1, 1) := by decide +kernel
theorem dX13_readMeadow_104 : decode cX13_readMeadow 104 = .ok (.iadd, 1) := by decide +kernel
theorem dX13_readMeadow_105 : decode cX13_readMeadow 105 = .ok (.putfield 171, 3) := by decide +kernel
theorem dX13_readMeadow_108 : decode cX13_readMeadow 108 = .ok (.goto (-53), 3) := by decide +kernel
theorem dX13_readMeadow_111 : decode cX13_readMeadow 111 = .ok (.aload_n 0, 1) := by decide +kernel
theorem dX13_readMeadow_112 : decode cX13_readMeadow 112 = .ok (.getfield 180, 3) := by decide +kernel
theorem dX13_readMeadow_115 : decode cX13_readMeadow 115 = .ok (.iconst (-1), 1) := by decide +kernel
theorem dX13_readMeadow_116 : decode cX13_readMeadow 116 = .ok (.if_icmp .ne 31, 3) := by decide +kernel
theorem dX13_readMeadow_119 : decode cX13_readMeadow 119 = .ok (.aload_n 0, 1) := by decide +kernel
theorem dX13_readMeadow_120 : decode cX13_readMeadow 120 = .ok (.invokevirtual 190, 3) := by decide +kernel
theorem dX13_readMeadow_123 : decode cX13_readMeadow 123 = .ok (.iconst (-1), 1) := by decide +kernel
theorem dX13_readMeadow_124 : decode cX13_readMeadow 124 = .ok (.if_icmp .ne 18, 3) := by decide +kernel
theorem dX13_readMeadow_127 : decode cX13_readMeadow 127 = .ok (.aload_n 0, 1) := by decide +kernel
theorem dX13_readMeadow_128 : decode cX13_readMeadow 128 = .ok (.getfield 276, 3) := by decide +kernel
theorem dX13_readMeadow_131 : decode cX13_readMeadow 131 = .ok (.iconst 2, 1) := by decide +kernel
theorem dX13_readMeadow_132 : decode cX13_readMeadow 132 = .ok (.if_icmp .lt 10, 3) := by decide +kernel
theorem dX13_readMeadow_135 : decode cX13_readMeadow 135 = .ok (.aload_n 0, 1) := by decide +kernel
theorem dX13_readMeadow_136 : decode cX13_readMeadow 136 = .ok (.getfield 279, 3) := by decide +kernel
theorem dX13_readMeadow_139 : decode cX13_readMeadow 139 = .ok (.ifCond .ne 8, 3) := by decide +kernel
theorem dX13_readMeadow_142 : decode cX13_readMeadow 142 = .ok (.aload_n 0, 1) := by decide +kernel
theorem dX13_readMeadow_143 : decode cX13_readMeadow 143 = .ok (.invokevirtual 186, 3) := by decide +kernel
theorem dX13_readMeadow_146 : decode cX13_readMeadow 146 = .ok (.pop, 1) := by decide +kernel
theorem dX13_readMeadow_147 : decode cX13_readMeadow 147 = .ok (.return_, 1) := by decide +kernel
def fX13_readMeadow_L30 : Nat → eg_H → Nat → Int32 → Option (Nat × eg_H)
  | 0, _, _, _ => none
  | n + 1, h, l0, l1 =>
    if (4 : Int32) ≤ l1 then
      (some (l0, h))
    else
      (eg_gR h 13 19 l0).bind fun p2 =>
      (fX13_usual h (109 : Int32) l1).bind fun ⟨v5, h4⟩ =>
      (eg_wI h4 100 p2 l1 v5).bind fun h7 =>
      fX13_readMeadow_L30 n h7 l0 (l1 + (1 : Int32))
set_option maxRecDepth 20000 in
theorem fX13_readMeadow_L30_ok {h0 : eg_H} {Z : eg_C → State → Prop} {N S : Nat} : ∀ (n : Nat) (h : eg_H) (l0 : Nat) (l1 : Int32) (eE : Nat × eg_H), fX13_readMeadow_L30 n h l0 l1 = some eE → (hk0 : ∀ (l0 : Nat) (h : eg_H), eE = (l0, h) → eg_AW (RX13, cX13_readMeadow, 2, 7, none, "readMeadow", none) Z N S h0 53 [(0, .ref l0)] [] h) → eg_AW (RX13, cX13_readMeadow, 2, 7, none, "readMeadow", none) Z N S h0 30 [(0, .ref l0), (1, .int l1)] [] h := by
  intro n
  induction n with
  | zero => intro h l0 l1 eE hF; exact absurd hF (by intro q; cases q)
  | succ n ih =>
    intro h l0 l1 eE hF hk0
    have hrec := fun (h' : eg_H) (l0 : Nat) (l1 : Int32) hq => ih h' l0 l1 eE hq hk0
    refine eg_iload_n (i := 1) 1 dX13_readMeadow_30 rfl rfl ?_
    refine eg_iconst (v := (4 : Int32)) dX13_readMeadow_31 (by decide) ?_
    refine eg_ic_ge 53 dX13_readMeadow_32 rfl (fun c1 => ?_) (fun c1 => ?_)
    · replace hF := eg_it c1 hF
      exact eg_sub [0] [(0, .ref l0)] rfl (hk0 l0 h (Option.some.inj hF).symm)
    · replace hF := eg_if c1 hF
      refine eg_aload_n (i := 0) 0 dX13_readMeadow_35 rfl rfl ?_
      replace hF := eg_bind hF; obtain ⟨p2, e3, hF⟩ := hF
      refine eg_getR dX13_readMeadow_36 e3 (Nat.le_of_ble_eq_true rfl) (Nat.le_of_ble_eq_true rfl) rfl ew_1453 ?_
      refine eg_iload_n (i := 1) 1 dX13_readMeadow_39 rfl rfl ?_
      refine eg_bipush (v := (109 : Int32)) dX13_readMeadow_40 (by decide) ?_
      refine eg_iload_n (i := 1) 1 dX13_readMeadow_42 rfl rfl ?_
      replace hF := eg_bind hF; obtain ⟨⟨v5, h4⟩, e6, hF⟩ := hF
      refine eg_callS (n := 2) [.int (109 : Int32), .int l1] dX13_readMeadow_43 (mX13_usual e6) rfl ew_1708 ew_1709 ew_110 ew_1710 hy_X13_usual.2 rfl (Nat.le_of_ble_eq_true rfl) (Nat.le_of_ble_eq_true rfl) (Nat.le_of_ble_eq_true rfl) ?_
      replace hF := eg_bind hF; obtain ⟨h7, e8, hF⟩ := hF
      refine eg_iast dX13_readMeadow_46 e8 ?_
      refine eg_iinc (i := 1) (v := (l1 + (1 : Int32))) 1 [(1, .int (l1 + (1 : Int32))), (0, .ref l0)] dX13_readMeadow_47 rfl rfl (Nat.le_of_ble_eq_true rfl) rfl ?_
      refine eg_goto 30 dX13_readMeadow_50 rfl ?_
      exact eg_sub [1, 0] [(0, .ref l0), (1, .int (l1 + (1 : Int32)))] rfl (hrec h7 l0 (l1 + (1 : Int32)) hF)
def fX13_readMeadow_j93 (rec : eg_H → Nat → Int32 → Option (Nat × eg_H)) (h : eg_H) (l0 : Nat) (s0 : Int32) : Option (Nat × eg_H) :=
  if s0 = 0 then
    (rec h l0 s0)
  else
    (eg_gI h 13 10 l0).bind fun v2 =>
    (eg_pI h 13 10 l0 (v2 + (1 : Int32))).bind fun h4 =>
    rec h4 l0 s0
set_option maxRecDepth 20000 in
theorem fX13_readMeadow_j93_ok {rec : eg_H → Nat → Int32 → Option (Nat × eg_H)} {h0 : eg_H} {Z : eg_C → State → Prop} {N S : Nat} (h : eg_H) (l0 : Nat) (s0 : Int32) (eE : Nat × eg_H) (hF : fX13_readMeadow_j93 rec h l0 s0 = some eE) (hrec : ∀ (h : eg_H) (l0 : Nat) (l1 : Int32), rec h l0 l1 = some eE → eg_AW (RX13, cX13_readMeadow, 2, 7, none, "readMeadow", none) Z N S h0 55 [(0, .ref l0), (1, .int l1)] [] h) (hk0 : ∀ (l0 : Nat) (h : eg_H), eE = (l0, h) → eg_AW (RX13, cX13_readMeadow, 2, 7, none, "readMeadow", none) Z N S h0 111 [(0, .ref l0)] [] h) : eg_AW (RX13, cX13_readMeadow, 2, 7, none, "readMeadow", none) Z N S h0 93 [(0, .ref l0)] [.int s0] h := by
  refine eg_istore_n (i := 1) [(1, .int s0), (0, .ref l0)] dX13_readMeadow_93 rfl (Nat.le_of_ble_eq_true rfl) rfl ?_
  refine eg_iload_n (i := 1) 0 dX13_readMeadow_94 rfl rfl ?_
  refine eg_if_eq 55 dX13_readMeadow_95 rfl (fun c1 => ?_) (fun c1 => ?_)
  · replace hF := eg_it c1 hF
    exact eg_sub [1, 0] [(0, .ref l0), (1, .int s0)] rfl (hrec h l0 s0 hF)
  · replace hF := eg_if c1 hF
    refine eg_aload_n (i := 0) 1 dX13_readMeadow_98 rfl rfl ?_
    refine eg_dup dX13_readMeadow_99 rfl ?_
    replace hF := eg_bind hF; obtain ⟨v2, e3, hF⟩ := hF
    refine eg_getI dX13_readMeadow_100 e3 (Nat.le_of_ble_eq_true rfl) (Nat.le_of_ble_eq_true rfl) rfl ew_1444 ?_
    refine eg_iconst (v := (1 : Int32)) dX13_readMeadow_103 (by decide) ?_
    refine eg_iadd dX13_readMeadow_104 ?_
    replace hF := eg_bind hF; obtain ⟨h4, e5, hF⟩ := hF
    refine eg_putI dX13_readMeadow_105 e5 (Nat.le_of_ble_eq_true rfl) (Nat.le_of_ble_eq_true rfl) rfl ew_1444 (Or.inl rfl) ?_
    refine eg_goto 55 dX13_readMeadow_108 rfl ?_
    exact eg_sub [1, 0] [(0, .ref l0), (1, .int s0)] rfl (hrec h4 l0 s0 hF)
def fX13_readMeadow_j92 (rec : eg_H → Nat → Int32 → Option (Nat × eg_H)) (h : eg_H) (l0 : Nat) : Option (Nat × eg_H) :=
  fX13_readMeadow_j93 rec h l0 (0 : Int32)
set_option maxRecDepth 20000 in
theorem fX13_readMeadow_j92_ok {rec : eg_H → Nat → Int32 → Option (Nat × eg_H)} {h0 : eg_H} {Z : eg_C → State → Prop} {N S : Nat} (h : eg_H) (l0 : Nat) (eE : Nat × eg_H) (hF : fX13_readMeadow_j92 rec h l0 = some eE) (hrec : ∀ (h : eg_H) (l0 : Nat) (l1 : Int32), rec h l0 l1 = some eE → eg_AW (RX13, cX13_readMeadow, 2, 7, none, "readMeadow", none) Z N S h0 55 [(0, .ref l0), (1, .int l1)] [] h) (hk0 : ∀ (l0 : Nat) (h : eg_H), eE = (l0, h) → eg_AW (RX13, cX13_readMeadow, 2, 7, none, "readMeadow", none) Z N S h0 111 [(0, .ref l0)] [] h) : eg_AW (RX13, cX13_readMeadow, 2, 7, none, "readMeadow", none) Z N S h0 92 [(0, .ref l0)] [] h := by
  refine eg_iconst (v := (0 : Int32)) dX13_readMeadow_92 (by decide) ?_
  exact (fX13_readMeadow_j93_ok h l0 (0 : Int32) eE hF hrec hk0)
def fX13_readMeadow_L55 : Nat → eg_H → Nat → Int32 → Option (Nat × eg_H)
  | 0, _, _, _ => none
  | n + 1, h, l0, l1 =>
    if l1 = 0 then
      (some (l0, h))
    else
      (eg_gI h 13 11 l0).bind fun v2 =>
      if v2 = (-1 : Int32) then
        ((fX13_readClause h l0).bind fun h5 =>
        (eg_gI h5 13 11 l0).bind fun v7 =>
        if v7 = (-1 : Int32) then
          ((fX13_look h5 l0).bind fun ⟨v11, h10⟩ =>
          if v11 = (59 : Int32) then
            (fX13_readMeadow_j93 (fX13_readMeadow_L55 n) h10 l0 (1 : Int32))
          else
            fX13_readMeadow_j92 (fX13_readMeadow_L55 n) h10 l0)
        else
          fX13_readMeadow_j92 (fX13_readMeadow_L55 n) h5 l0)
      else
        some (l0, h)
set_option maxRecDepth 20000 in
theorem fX13_readMeadow_L55_ok {h0 : eg_H} {Z : eg_C → State → Prop} {N S : Nat} : ∀ (n : Nat) (h : eg_H) (l0 : Nat) (l1 : Int32) (eE : Nat × eg_H), fX13_readMeadow_L55 n h l0 l1 = some eE → (hk0 : ∀ (l0 : Nat) (h : eg_H), eE = (l0, h) → eg_AW (RX13, cX13_readMeadow, 2, 7, none, "readMeadow", none) Z N S h0 111 [(0, .ref l0)] [] h) → eg_AW (RX13, cX13_readMeadow, 2, 7, none, "readMeadow", none) Z N S h0 55 [(0, .ref l0), (1, .int l1)] [] h := by
  intro n
  induction n with
  | zero => intro h l0 l1 eE hF; exact absurd hF (by intro q; cases q)
  | succ n ih =>
    intro h l0 l1 eE hF hk0
    have hrec := fun (h' : eg_H) (l0 : Nat) (l1 : Int32) hq => ih h' l0 l1 eE hq hk0
    refine eg_iload_n (i := 1) 1 dX13_readMeadow_55 rfl rfl ?_
    refine eg_if_eq 111 dX13_readMeadow_56 rfl (fun c1 => ?_) (fun c1 => ?_)
    · replace hF := eg_it c1 hF
      exact eg_sub [0] [(0, .ref l0)] rfl (hk0 l0 h (Option.some.inj hF).symm)
    · replace hF := eg_if c1 hF
      refine eg_aload_n (i := 0) 0 dX13_readMeadow_59 rfl rfl ?_
      replace hF := eg_bind hF; obtain ⟨v2, e3, hF⟩ := hF
      refine eg_getI dX13_readMeadow_60 e3 (Nat.le_of_ble_eq_true rfl) (Nat.le_of_ble_eq_true rfl) rfl ew_1445 ?_
      refine eg_iconst (v := (-1 : Int32)) dX13_readMeadow_63 (by decide) ?_
      refine eg_ic_ne 111 dX13_readMeadow_64 rfl (fun c4 => ?_) (fun c4 => ?_)
      · replace hF := eg_it c4 hF
        refine eg_aload_n (i := 0) 0 dX13_readMeadow_67 rfl rfl ?_
        replace hF := eg_bind hF; obtain ⟨h5, e6, hF⟩ := hF
        refine eg_callV (c := 13) (n := 0) [] dX13_readMeadow_68 (mX13_readClause e6) rfl (fX13_readClause_O e6) (Nat.le_of_ble_eq_true rfl) rfl ew_1711 ew_1713 ew_53 ew_110 ew_1714 hy_X13_readClause rfl (Nat.le_of_ble_eq_true rfl) (Nat.le_of_ble_eq_true rfl) (Nat.le_of_ble_eq_true rfl) ?_
        refine eg_aload_n (i := 0) 0 dX13_readMeadow_71 rfl rfl ?_
        replace hF := eg_bind hF; obtain ⟨v7, e8, hF⟩ := hF
        refine eg_getI dX13_readMeadow_72 e8 (Nat.le_of_ble_eq_true rfl) (Nat.le_of_ble_eq_true rfl) rfl ew_1445 ?_
        refine eg_iconst (v := (-1 : Int32)) dX13_readMeadow_75 (by decide) ?_
        refine eg_ic_ne 92 dX13_readMeadow_76 rfl (fun c9 => ?_) (fun c9 => ?_)
        · replace hF := eg_it c9 hF
          refine eg_aload_n (i := 0) 0 dX13_readMeadow_79 rfl rfl ?_
          replace hF := eg_bind hF; obtain ⟨⟨v11, h10⟩, e12, hF⟩ := hF
          refine eg_callV (c := 13) (n := 0) [] dX13_readMeadow_80 (mX13_look e12) rfl (fX13_look_O e12) (Nat.le_of_ble_eq_true rfl) rfl ew_1715 ew_1717 ew_54 ew_110 ew_1718 hy_X13_look rfl (Nat.le_of_ble_eq_true rfl) (Nat.le_of_ble_eq_true rfl) (Nat.le_of_ble_eq_true rfl) ?_
          refine eg_bipush (v := (59 : Int32)) dX13_readMeadow_83 (by decide) ?_
          refine eg_ic_ne 92 dX13_readMeadow_85 rfl (fun c13 => ?_) (fun c13 => ?_)
          · replace hF := eg_it c13 hF
            refine eg_iconst (v := (1 : Int32)) dX13_readMeadow_88 (by decide) ?_
            refine eg_goto 93 dX13_readMeadow_89 rfl ?_
            exact eg_sub [0] [(0, .ref l0)] rfl (fX13_readMeadow_j93_ok h10 l0 (1 : Int32) eE hF hrec hk0)
          · replace hF := eg_if c13 hF
            exact eg_sub [0] [(0, .ref l0)] rfl (fX13_readMeadow_j92_ok h10 l0 eE hF hrec hk0)
        · replace hF := eg_if c9 hF
          exact eg_sub [0] [(0, .ref l0)] rfl (fX13_readMeadow_j92_ok h5 l0 eE hF hrec hk0)
      · replace hF := eg_if c4 hF
        exact eg_sub [0] [(0, .ref l0)] rfl (hk0 l0 h (Option.some.inj hF).symm)
def fX13_readMeadow_j111 (h : eg_H) (l0 : Nat) : Option (eg_H) :=
  (eg_gI h 13 11 l0).bind fun v1 =>
  if v1 = (-1 : Int32) then
    ((fX13_look h l0).bind fun ⟨v5, h4⟩ =>
    if v5 = (-1 : Int32) then
      ((eg_gI h4 13 25 l0).bind fun v8 =>
      if v8 < (2 : Int32) then
        ((fX13_fails h4 l0).bind fun ⟨v12, h11⟩ =>
        some h11)
      else
        (eg_gI h4 13 27 l0).bind fun v14 =>
        if v14 = 0 then
          ((fX13_fails h4 l0).bind fun ⟨v18, h17⟩ =>
          some h17)
        else
          some h4)
    else
      (fX13_fails h4 l0).bind fun ⟨v21, h20⟩ =>
      some h20)
  else
    some h
set_option maxRecDepth 20000 in
theorem fX13_readMeadow_j111_ok {h0 : eg_H} (h : eg_H) (l0 : Nat) {hE : eg_H} (hF : fX13_readMeadow_j111 h l0 = some hE) : eg_AW (RX13, cX13_readMeadow, 2, 7, none, "readMeadow", none) (eg_Zm none hE h0) (eg_nc hE) (eg_ns hE) h0 111 [(0, .ref l0)] [] h := by
  refine eg_aload_n (i := 0) 0 dX13_readMeadow_111 rfl rfl ?_
  replace hF := eg_bind hF; obtain ⟨v1, e2, hF⟩ := hF
  refine eg_getI dX13_readMeadow_112 e2 (Nat.le_of_ble_eq_true rfl) (Nat.le_of_ble_eq_true rfl) rfl ew_1445 ?_
  refine eg_iconst (v := (-1 : Int32)) dX13_readMeadow_115 (by decide) ?_
  refine eg_ic_ne 147 dX13_readMeadow_116 rfl (fun c3 => ?_) (fun c3 => ?_)
  · replace hF := eg_it c3 hF
    refine eg_aload_n (i := 0) 0 dX13_readMeadow_119 rfl rfl ?_
    replace hF := eg_bind hF; obtain ⟨⟨v5, h4⟩, e6, hF⟩ := hF
    refine eg_callV (c := 13) (n := 0) [] dX13_readMeadow_120 (mX13_look e6) rfl (fX13_look_O e6) (Nat.le_of_ble_eq_true rfl) rfl ew_1715 ew_1717 ew_54 ew_110 ew_1718 hy_X13_look rfl (Nat.le_of_ble_eq_true rfl) (Nat.le_of_ble_eq_true rfl) (Nat.le_of_ble_eq_true rfl) ?_
    refine eg_iconst (v := (-1 : Int32)) dX13_readMeadow_123 (by decide) ?_
    refine eg_ic_ne 142 dX13_readMeadow_124 rfl (fun c7 => ?_) (fun c7 => ?_)
    · replace hF := eg_it c7 hF
      refine eg_aload_n (i := 0) 0 dX13_readMeadow_127 rfl rfl ?_
      replace hF := eg_bind hF; obtain ⟨v8, e9, hF⟩ := hF
      refine eg_getI dX13_readMeadow_128 e9 (Nat.le_of_ble_eq_true rfl) (Nat.le_of_ble_eq_true rfl) rfl ew_1459 ?_
      refine eg_iconst (v := (2 : Int32)) dX13_readMeadow_131 (by decide) ?_
      refine eg_ic_lt 142 dX13_readMeadow_132 rfl (fun c10 => ?_) (fun c10 => ?_)
      · replace hF := eg_it c10 hF
        refine eg_aload_n (i := 0) 0 dX13_readMeadow_142 rfl rfl ?_
        replace hF := eg_bind hF; obtain ⟨⟨v12, h11⟩, e13, hF⟩ := hF
        refine eg_callV (c := 13) (n := 0) [] dX13_readMeadow_143 (mX13_fails e13) rfl (fX13_fails_O e13) (Nat.le_of_ble_eq_true rfl) rfl ew_1719 ew_1721 ew_55 ew_110 ew_1722 hy_X13_fails rfl (Nat.le_of_ble_eq_true rfl) (Nat.le_of_ble_eq_true rfl) (Nat.le_of_ble_eq_true rfl) ?_
        refine eg_pop dX13_readMeadow_146 rfl ?_
        exact eg_vretE dX13_readMeadow_147 hF
      · replace hF := eg_if c10 hF
        refine eg_aload_n (i := 0) 0 dX13_readMeadow_135 rfl rfl ?_
        replace hF := eg_bind hF; obtain ⟨v14, e15, hF⟩ := hF
        refine eg_getI dX13_readMeadow_136 e15 (Nat.le_of_ble_eq_true rfl) (Nat.le_of_ble_eq_true rfl) rfl ew_1461 ?_
        refine eg_if_ne 147 dX13_readMeadow_139 rfl (fun c16 => ?_) (fun c16 => ?_)
        · replace hF := eg_it c16 hF
          refine eg_aload_n (i := 0) 0 dX13_readMeadow_142 rfl rfl ?_
          replace hF := eg_bind hF; obtain ⟨⟨v18, h17⟩, e19, hF⟩ := hF
          refine eg_callV (c := 13) (n := 0) [] dX13_readMeadow_143 (mX13_fails e19) rfl (fX13_fails_O e19) (Nat.le_of_ble_eq_true rfl) rfl ew_1719 ew_1721 ew_55 ew_110 ew_1722 hy_X13_fails rfl (Nat.le_of_ble_eq_true rfl) (Nat.le_of_ble_eq_true rfl) (Nat.le_of_ble_eq_true rfl) ?_
          refine eg_pop dX13_readMeadow_146 rfl ?_
          exact eg_vretE dX13_readMeadow_147 hF
        · replace hF := eg_if c16 hF
          exact eg_vretE dX13_readMeadow_147 hF
    · replace hF := eg_if c7 hF
      refine eg_aload_n (i := 0) 0 dX13_readMeadow_142 rfl rfl ?_
      replace hF := eg_bind hF; obtain ⟨⟨v21, h20⟩, e22, hF⟩ := hF
      refine eg_callV (c := 13) (n := 0) [] dX13_readMeadow_143 (mX13_fails e22) rfl (fX13_fails_O e22) (Nat.le_of_ble_eq_true rfl) rfl ew_1719 ew_1721 ew_55 ew_110 ew_1722 hy_X13_fails rfl (Nat.le_of_ble_eq_true rfl) (Nat.le_of_ble_eq_true rfl) (Nat.le_of_ble_eq_true rfl) ?_
      refine eg_pop dX13_readMeadow_146 rfl ?_
      exact eg_vretE dX13_readMeadow_147 hF
  · replace hF := eg_if c3 hF
    exact eg_vretE dX13_readMeadow_147 hF
def fX13_readMeadow (h : eg_H) (l0 : Nat) : Option (eg_H) :=
  if eg_isO h 13 l0 then (
    (eg_gR h 13 1 l0).bind fun p1 =>
    (eg_gI h 13 6 l0).bind fun v3 =>
    (fX13_opens h l0 p1 (0 : Int32) v3).bind fun h5 =>
    (eg_pI h5 13 25 l0 (0 : Int32)).bind fun h7 =>
    (eg_pI h7 13 27 l0 (0 : Int32)).bind fun h9 =>
    (eg_pZ h9 13 28 l0 (0 : Int32)).bind fun h11 =>
    (fX13_readMeadow_L30 eg_F h11 l0 (0 : Int32)).bind fun e =>
    match e with
    | (p15, h16) =>
      (fX13_readMeadow_L55 eg_F h16 p15 (1 : Int32)).bind fun e =>
      match e with
      | (p19, h20) =>
        fX13_readMeadow_j111 h20 p19) else none
theorem fX13_readMeadow_O {h : eg_H} {l0 : Nat} {hE : eg_H} (hF : fX13_readMeadow h l0 = some hE) : eg_isO h 13 l0 := (eg_ifn hF).1
set_option maxRecDepth 20000 in
theorem mX13_readMeadow {h : eg_H} {l0 : Nat} {hE : eg_H} (hF : fX13_readMeadow h l0 = some hE) : eg_Met yX13_readMeadow cX13_readMeadow 2 none 7 [.ref l0] h none hE := by
  refine eg_enter rfl (Nat.le_of_ble_eq_true rfl) ?_
  show eg_AW (RX13, cX13_readMeadow, 2, 7, none, "readMeadow", none) (eg_Zm none hE h) (eg_nc hE) (eg_ns hE) h 0 [(0, .ref l0)] [] h
  replace hF := (eg_ifn hF).2
  refine eg_aload_n (i := 0) 0 dX13_readMeadow_0 rfl rfl ?_
  refine eg_aload_n (i := 0) 0 dX13_readMeadow_1 rfl rfl ?_
  replace hF := eg_bind hF; obtain ⟨p1, e2, hF⟩ := hF
  refine eg_getR dX13_readMeadow_2 e2 (Nat.le_of_ble_eq_true rfl) (Nat.le_of_ble_eq_true rfl) rfl ew_1435 ?_
  refine eg_iconst (v := (0 : Int32)) dX13_readMeadow_5 (by decide) ?_
  refine eg_aload_n (i := 0) 0 dX13_readMeadow_6 rfl rfl ?_
  replace hF := eg_bind hF; obtain ⟨v3, e4, hF⟩ := hF
  refine eg_getI dX13_readMeadow_7 e4 (Nat.le_of_ble_eq_true rfl) (Nat.le_of_ble_eq_true rfl) rfl ew_1440 ?_
  replace hF := eg_bind hF; obtain ⟨h5, e6, hF⟩ := hF
  refine eg_callV (c := 13) (n := 3) [.ref p1, .int (0 : Int32), .int v3] dX13_readMeadow_10 (mX13_opens e6) rfl (fX13_opens_O e6) (Nat.le_of_ble_eq_true rfl) rfl ew_1704 ew_1706 ew_52 ew_110 ew_1707 hy_X13_opens rfl (Nat.le_of_ble_eq_true rfl) (Nat.le_of_ble_eq_true rfl) (Nat.le_of_ble_eq_true rfl) ?_
  refine eg_aload_n (i := 0) 0 dX13_readMeadow_13 rfl rfl ?_
  refine eg_iconst (v := (0 : Int32)) dX13_readMeadow_14 (by decide) ?_
  replace hF := eg_bind hF; obtain ⟨h7, e8, hF⟩ := hF
  refine eg_putI dX13_readMeadow_15 e8 (Nat.le_of_ble_eq_true rfl) (Nat.le_of_ble_eq_true rfl) rfl ew_1459 (Or.inl rfl) ?_
  refine eg_aload_n (i := 0) 0 dX13_readMeadow_18 rfl rfl ?_
  refine eg_iconst (v := (0 : Int32)) dX13_readMeadow_19 (by decide) ?_
  replace hF := eg_bind hF; obtain ⟨h9, e10, hF⟩ := hF
  refine eg_putI dX13_readMeadow_20 e10 (Nat.le_of_ble_eq_true rfl) (Nat.le_of_ble_eq_true rfl) rfl ew_1461 (Or.inl rfl) ?_
  refine eg_aload_n (i := 0) 0 dX13_readMeadow_23 rfl rfl ?_
  refine eg_iconst (v := (0 : Int32)) dX13_readMeadow_24 (by decide) ?_
  replace hF := eg_bind hF; obtain ⟨h11, e12, hF⟩ := hF
  refine eg_putZ dX13_readMeadow_25 e12 (Nat.le_of_ble_eq_true rfl) (Nat.le_of_ble_eq_true rfl) rfl ew_1462 rfl ?_
  refine eg_iconst (v := (0 : Int32)) dX13_readMeadow_28 (by decide) ?_
  refine eg_istore_n (i := 1) [(1, .int (0 : Int32)), (0, .ref l0)] dX13_readMeadow_29 rfl (Nat.le_of_ble_eq_true rfl) rfl ?_
  replace hF := eg_bind hF; obtain ⟨x14, e13, hF⟩ := hF
  refine eg_sub [1, 0] [(0, .ref l0), (1, .int (0 : Int32))] rfl (fX13_readMeadow_L30_ok eg_F h11 l0 (0 : Int32) x14 e13 ?_)
  · intro p15 h16 e22
    subst e22
    refine eg_iconst (v := (1 : Int32)) dX13_readMeadow_53 (by decide) ?_
    refine eg_istore_n (i := 1) [(1, .int (1 : Int32)), (0, .ref p15)] dX13_readMeadow_54 rfl (Nat.le_of_ble_eq_true rfl) rfl ?_
    replace hF := eg_bind hF; obtain ⟨x18, e17, hF⟩ := hF
    refine eg_sub [1, 0] [(0, .ref p15), (1, .int (1 : Int32))] rfl (fX13_readMeadow_L55_ok eg_F h16 p15 (1 : Int32) x18 e17 ?_)
    · intro p19 h20 e21
      subst e21
      exact (fX13_readMeadow_j111_ok h20 p19 hF)
theorem dX13_readFilm_0 : decode cX13_readFilm 0 = .ok (.aload_n 0, 1) := by decide +kernel
theorem dX13_readFilm_1 : decode cX13_readFilm 1 = .ok (.aload_n 0, 1) := by decide +kernel
theorem dX13_readFilm_2 : decode cX13_readFilm 2 = .ok (.getfield 9, 3) := by decide +kernel
theorem dX13_readFilm_5 : decode cX13_readFilm 5 = .ok (.iconst 0, 1) := by decide +kernel
theorem dX13_readFilm_6 : decode cX13_readFilm 6 = .ok (.aload_n 0, 1) := by decide +kernel
theorem dX13_readFilm_7 : decode cX13_readFilm 7 = .ok (.getfield 161, 3) := by decide +kernel
theorem dX13_readFilm_10 : decode cX13_readFilm 10 = .ok (.invokevirtual 259, 3) := by decide +kernel
theorem dX13_readFilm_13 : decode cX13_readFilm 13 = .ok (.aload_n 0, 1) := by decide +kernel
theorem dX13_readFilm_14 : decode cX13_readFilm 14 = .ok (.iconst 0, 1) := by decide +kernel
theorem dX13_readFilm_15 : decode cX13_readFilm 15 = .ok (.putfield 313, 3) := by decide +kernel
theorem dX13_readFilm_18 : decode cX13_readFilm 18 = .ok (.aload_n 0, 1) := by decide +kernel
theorem dX13_readFilm_19 : decode cX13_readFilm 19 = .ok (.invokevirtual 190, 3) := by decide +kernel
theorem dX13_readFilm_22 : decode cX13_readFilm 22 = .ok (.pop, 1) := by decide +kernel
theorem dX13_readFilm_23 : decode cX13_readFilm 23 = .ok (.aload_n 0, 1) := by decide +kernel
theorem dX13_readFilm_24 : decode cX13_readFilm 24 = .ok (.invokevirtual 220, 3) := by decide +kernel
theorem dX13_readFilm_27 : decode cX13_readFilm 27 = .ok (.ifCond .eq 62, 3) := by decide +kernel
theorem dX13_readFilm_30 : decode cX13_readFilm 30 = .ok (.aload_n 0, 1) := by decide +kernel
theorem dX13_readFilm_31 : decode cX13_readFilm 31 = .ok (.getfield 313, 3) := by decide +kernel
theorem dX13_readFilm_34 : decode cX13_readFilm 34 = .ok (.bipush 24, 2) := by decide +kernel
theorem dX13_readFilm_36 : decode cX13_readFilm 36 = .ok (.if_icmp .ne 9, 3) := by decide +kernel
theorem dX13_readFilm_39 : decode cX13_readFilm 39 = .ok (.aload_n 0, 1) := by decide +kernel
theorem dX13_readFilm_40 : decode cX13_readFilm 40 = .ok (.invokevirtual 186, 3) := by decide +kernel
theorem dX13_readFilm_43 : decode cX13_readFilm 43 = .ok (.pop, 1) := by decide +kernel
theorem dX13_readFilm_44 : decode cX13_readFilm 44 = .ok (.return_, 1) := by decide +kernel
theorem dX13_readFilm_45 : decode cX13_readFilm 45 = .ok (.aload_n 0, 1) := by decide +kernel
theorem dX13_readFilm_46 : decode cX13_readFilm 46 = .ok (.getfield 58, 3) := by decide +kernel
theorem dX13_readFilm_49 : decode cX13_readFilm 49 = .ok (.aload_n 0, 1) := by decide +kernel
theorem dX13_readFilm_50 : decode cX13_readFilm 50 = .ok (.getfield 313, 3) := by decide +kernel
theorem dX13_readFilm_53 : decode cX13_readFilm 53 = .ok (.aload_n 0, 1) := by decide +kernel
theorem dX13_readFilm_54 : decode cX13_readFilm 54 = .ok (.invokevirtual 266, 3) := by decide +kernel
theorem dX13_readFilm_57 : decode cX13_readFilm 57 = .ok (.bipush 48, 2) := by decide +kernel
theorem dX13_readFilm_59 : decode cX13_readFilm 59 = .ok (.isub, 1) := by decide +kernel
theorem dX13_readFilm_60 : decode cX13_readFilm 60 = .ok (.iastore, 1) := by decide +kernel
theorem dX13_readFilm_61 : decode cX13_readFilm 61 = .ok (.aload_n 0, 1) := by decide +kernel
theorem dX13_readFilm_62 : decode cX13_readFilm 62 = .ok (.dup, 1) := by decide +kernel
theorem dX13_readFilm_63 : decode cX13_readFilm 63 = .ok (.getfield 313, 3) := by decide +kernel
theorem dX13_readFilm_66 : decode cX13_readFilm 66 = .ok (.iconst 1, 1) := by decide +kernel
theorem dX13_readFilm_67 : decode cX13_readFilm 67 = .ok (.iadd, 1) := by decide +kernel
theorem dX13_readFilm_68 : decode cX13_readFilm 68 = .ok (.putfield 313, 3) := by decide +kernel
theorem dX13_readFilm_71 : decode cX13_readFilm 71 = .ok (.aload_n 0, 1) := by decide +kernel
theorem dX13_readFilm_72 : decode cX13_readFilm 72 = .ok (.dup, 1) := by decide +kernel
theorem dX13_readFilm_73 : decode cX13_readFilm 73 = .ok (.getfield 171, 3) := by decide +kernel
theorem dX13_readFilm_76 : decode cX13_readFilm 76 = .ok (.iconst 1, 1) := by decide +kernel
theorem dX13_readFilm_77 : decode cX13_readFilm 77 = .ok (.iadd, 1) := by decide +kernel
theorem dX13_readFilm_78 : decode cX13_readFilm 78 = .ok (.putfield 171, 3) := by decide +kernel
theorem dX13_readFilm_81 : decode cX13_readFilm 81 = .ok (.aload_n 0, 1) := by decide +kernel
theorem dX13_readFilm_82 : decode cX13_readFilm 82 = .ok (.invokevirtual 190, 3) := by decide +kernel
theorem dX13_readFilm_85 : decode cX13_readFilm 85 = .ok (.pop, 1) := by decide +kernel
theorem dX13_readFilm_86 : decode cX13_readFilm 86 = .ok (.goto (-63), 3) := by decide +kernel
theorem dX13_readFilm_89 : decode cX13_readFilm 89 = .ok (.aload_n 0, 1) := by decide +kernel
theorem dX13_readFilm_90 : decode cX13_readFilm 90 = .ok (.getfield 313, 3) := by decide +kernel
theorem dX13_readFilm_93 : decode cX13_readFilm 93 = .ok (.ifCond .eq 11, 3) := by decide +kernel
theorem dX13_readFilm_96 : decode cX13_readFilm 96 = .ok (.aload_n 0, 1) := by decide +kernel
theorem dX13_readFilm_97 : decode cX13_readFilm 97 = .ok (.invokevirtual 190, 3) := by decide +kernel
theorem dX13_readFilm_100 : decode cX13_readFilm 100 = .ok (.iconst (-1), 1) := by decide +kernel
theorem dX13_readFilm_101 : decode cX13_readFilm 101 = .ok (.if_icmp .eq 8, 3) := by decide +kernel
theorem dX13_readFilm_104 : decode cX13_readFilm 104 = .ok (.aload_n 0, 1) := by decide +kernel
theorem dX13_readFilm_105 : decode cX13_readFilm 105 = .ok (.invokevirtual 186, 3) := by decide +kernel
theorem dX13_readFilm_108 : decode cX13_readFilm 108 = .ok (.pop, 1) := by decide +kernel
theorem dX13_readFilm_109 : decode cX13_readFilm 109 = .ok (.return_, 1) := by decide +kernel
def fX13_readFilm_L23 : Nat → eg_H → Nat → Option ((Nat × eg_H) ⊕ (Nat × eg_H))
  | 0, _, _ => none
  | n + 1, h, l0 =>
    (fX13_isDigit h l0).bind fun ⟨v2, h1⟩ =>
    if v2 = 0 then
      (some (.inl (l0, h1)))
    else
      (eg_gI h1 13 33 l0).bind fun v5 =>
      if v5 = (24 : Int32) then
        (some (.inr (l0, h1)))
      else
        (eg_gR h1 13 30 l0).bind fun p8 =>
        (eg_gI h1 13 33 l0).bind fun v10 =>
        (fX13_here h1 l0).bind fun ⟨v13, h12⟩ =>
        (eg_wI h12 100 p8 v10 (v13 - (48 : Int32))).bind fun h15 =>
        (eg_gI h15 13 33 l0).bind fun v17 =>
        (eg_pI h15 13 33 l0 (v17 + (1 : Int32))).bind fun h19 =>
        (eg_gI h19 13 10 l0).bind fun v21 =>
        (eg_pI h19 13 10 l0 (v21 + (1 : Int32))).bind fun h23 =>
        (fX13_look h23 l0).bind fun ⟨v26, h25⟩ =>
        fX13_readFilm_L23 n h25 l0
set_option maxRecDepth 20000 in
theorem fX13_readFilm_L23_ok {h0 : eg_H} {Z : eg_C → State → Prop} {N S : Nat} : ∀ (n : Nat) (h : eg_H) (l0 : Nat) (eE : (Nat × eg_H) ⊕ (Nat × eg_H)), fX13_readFilm_L23 n h l0 = some eE → (hk0 : ∀ (l0 : Nat) (h : eg_H), eE = (.inl (l0, h)) → eg_AW (RX13, cX13_readFilm, 1, 2, none, "readFilm", none) Z N S h0 89 [(0, .ref l0)] [] h) → (hk1 : ∀ (l0 : Nat) (h : eg_H), eE = (.inr (l0, h)) → eg_AW (RX13, cX13_readFilm, 1, 2, none, "readFilm", none) Z N S h0 39 [(0, .ref l0)] [] h) → eg_AW (RX13, cX13_readFilm, 1, 2, none, "readFilm", none) Z N S h0 23 [(0, .ref l0)] [] h := by
  intro n
  induction n with
  | zero => intro h l0 eE hF; exact absurd hF (by intro q; cases q)
  | succ n ih =>
    intro h l0 eE hF hk0 hk1
    have hrec := fun (h' : eg_H) (l0 : Nat) hq => ih h' l0 eE hq hk0 hk1
    refine eg_aload_n (i := 0) 0 dX13_readFilm_23 rfl rfl ?_
    replace hF := eg_bind hF; obtain ⟨⟨v2, h1⟩, e3, hF⟩ := hF
    refine eg_callV (c := 13) (n := 0) [] dX13_readFilm_24 (mX13_isDigit e3) rfl (fX13_isDigit_O e3) (Nat.le_of_ble_eq_true rfl) rfl ew_1790 ew_1792 ew_57 ew_110 ew_1793 hy_X13_isDigit rfl (Nat.le_of_ble_eq_true rfl) (Nat.le_of_ble_eq_true rfl) (Nat.le_of_ble_eq_true rfl) ?_
    refine eg_if_eq 89 dX13_readFilm_27 rfl (fun c4 => ?_) (fun c4 => ?_)
    · replace hF := eg_it c4 hF
      exact (hk0 l0 h1 (Option.some.inj hF).symm)
    · replace hF := eg_if c4 hF
      refine eg_aload_n (i := 0) 0 dX13_readFilm_30 rfl rfl ?_
      replace hF := eg_bind hF; obtain ⟨v5, e6, hF⟩ := hF
      refine eg_getI dX13_readFilm_31 e6 (Nat.le_of_ble_eq_true rfl) (Nat.le_of_ble_eq_true rfl) rfl ew_1467 ?_
      refine eg_bipush (v := (24 : Int32)) dX13_readFilm_34 (by decide) ?_
      refine eg_ic_ne 45 dX13_readFilm_36 rfl (fun c7 => ?_) (fun c7 => ?_)
      · replace hF := eg_it c7 hF
        exact (hk1 l0 h1 (Option.some.inj hF).symm)
      · replace hF := eg_if c7 hF
        refine eg_aload_n (i := 0) 0 dX13_readFilm_45 rfl rfl ?_
        replace hF := eg_bind hF; obtain ⟨p8, e9, hF⟩ := hF
        refine eg_getR dX13_readFilm_46 e9 (Nat.le_of_ble_eq_true rfl) (Nat.le_of_ble_eq_true rfl) rfl ew_1464 ?_
        refine eg_aload_n (i := 0) 0 dX13_readFilm_49 rfl rfl ?_
        replace hF := eg_bind hF; obtain ⟨v10, e11, hF⟩ := hF
        refine eg_getI dX13_readFilm_50 e11 (Nat.le_of_ble_eq_true rfl) (Nat.le_of_ble_eq_true rfl) rfl ew_1467 ?_
        refine eg_aload_n (i := 0) 0 dX13_readFilm_53 rfl rfl ?_
        replace hF := eg_bind hF; obtain ⟨⟨v13, h12⟩, e14, hF⟩ := hF
        refine eg_callV (c := 13) (n := 0) [] dX13_readFilm_54 (mX13_here e14) rfl (fX13_here_O e14) (Nat.le_of_ble_eq_true rfl) rfl ew_1794 ew_1796 ew_58 ew_110 ew_1797 hy_X13_here rfl (Nat.le_of_ble_eq_true rfl) (Nat.le_of_ble_eq_true rfl) (Nat.le_of_ble_eq_true rfl) ?_
        refine eg_bipush (v := (48 : Int32)) dX13_readFilm_57 (by decide) ?_
        refine eg_isub dX13_readFilm_59 ?_
        replace hF := eg_bind hF; obtain ⟨h15, e16, hF⟩ := hF
        refine eg_iast dX13_readFilm_60 e16 ?_
        refine eg_aload_n (i := 0) 0 dX13_readFilm_61 rfl rfl ?_
        refine eg_dup dX13_readFilm_62 rfl ?_
        replace hF := eg_bind hF; obtain ⟨v17, e18, hF⟩ := hF
        refine eg_getI dX13_readFilm_63 e18 (Nat.le_of_ble_eq_true rfl) (Nat.le_of_ble_eq_true rfl) rfl ew_1467 ?_
        refine eg_iconst (v := (1 : Int32)) dX13_readFilm_66 (by decide) ?_
        refine eg_iadd dX13_readFilm_67 ?_
        replace hF := eg_bind hF; obtain ⟨h19, e20, hF⟩ := hF
        refine eg_putI dX13_readFilm_68 e20 (Nat.le_of_ble_eq_true rfl) (Nat.le_of_ble_eq_true rfl) rfl ew_1467 (Or.inl rfl) ?_
        refine eg_aload_n (i := 0) 0 dX13_readFilm_71 rfl rfl ?_
        refine eg_dup dX13_readFilm_72 rfl ?_
        replace hF := eg_bind hF; obtain ⟨v21, e22, hF⟩ := hF
        refine eg_getI dX13_readFilm_73 e22 (Nat.le_of_ble_eq_true rfl) (Nat.le_of_ble_eq_true rfl) rfl ew_1444 ?_
        refine eg_iconst (v := (1 : Int32)) dX13_readFilm_76 (by decide) ?_
        refine eg_iadd dX13_readFilm_77 ?_
        replace hF := eg_bind hF; obtain ⟨h23, e24, hF⟩ := hF
        refine eg_putI dX13_readFilm_78 e24 (Nat.le_of_ble_eq_true rfl) (Nat.le_of_ble_eq_true rfl) rfl ew_1444 (Or.inl rfl) ?_
        refine eg_aload_n (i := 0) 0 dX13_readFilm_81 rfl rfl ?_
        replace hF := eg_bind hF; obtain ⟨⟨v26, h25⟩, e27, hF⟩ := hF
        refine eg_callV (c := 13) (n := 0) [] dX13_readFilm_82 (mX13_look e27) rfl (fX13_look_O e27) (Nat.le_of_ble_eq_true rfl) rfl ew_1715 ew_1717 ew_54 ew_110 ew_1718 hy_X13_look rfl (Nat.le_of_ble_eq_true rfl) (Nat.le_of_ble_eq_true rfl) (Nat.le_of_ble_eq_true rfl) ?_
        refine eg_pop dX13_readFilm_85 rfl ?_
        refine eg_goto 23 dX13_readFilm_86 rfl ?_
        exact (hrec h25 l0 hF)
def fX13_readFilm (h : eg_H) (l0 : Nat) : Option (eg_H) :=
  if eg_isO h 13 l0 then (
    (eg_gR h 13 1 l0).bind fun p1 =>
    (eg_gI h 13 6 l0).bind fun v3 =>
    (fX13_opens h l0 p1 (0 : Int32) v3).bind fun h5 =>
    (eg_pI h5 13 33 l0 (0 : Int32)).bind fun h7 =>
    (fX13_look h7 l0).bind fun ⟨v10, h9⟩ =>
    (fX13_readFilm_L23 eg_F h9 l0).bind fun e =>
    match e with
    | .inl (p14, h15) =>
      (eg_gI h15 13 33 p14).bind fun v16 =>
      if v16 = 0 then
        ((fX13_fails h15 p14).bind fun ⟨v20, h19⟩ =>
        some h19)
      else
        (fX13_look h15 p14).bind fun ⟨v23, h22⟩ =>
        if v23 = (-1 : Int32) then
          (some h22)
        else
          (fX13_fails h22 p14).bind fun ⟨v27, h26⟩ =>
          some h26
    | .inr (p30, h31) =>
      (fX13_fails h31 p30).bind fun ⟨v33, h32⟩ =>
      some h32) else none
theorem fX13_readFilm_O {h : eg_H} {l0 : Nat} {hE : eg_H} (hF : fX13_readFilm h l0 = some hE) : eg_isO h 13 l0 := (eg_ifn hF).1
set_option maxRecDepth 20000 in
theorem mX13_readFilm {h : eg_H} {l0 : Nat} {hE : eg_H} (hF : fX13_readFilm h l0 = some hE) : eg_Met yX13_readFilm cX13_readFilm 1 none 2 [.ref l0] h none hE := by
  refine eg_enter rfl (Nat.le_of_ble_eq_true rfl) ?_
  show eg_AW (RX13, cX13_readFilm, 1, 2, none, "readFilm", none) (eg_Zm none hE h) (eg_nc hE) (eg_ns hE) h 0 [(0, .ref l0)] [] h
  replace hF := (eg_ifn hF).2
  refine eg_aload_n (i := 0) 0 dX13_readFilm_0 rfl rfl ?_
  refine eg_aload_n (i := 0) 0 dX13_readFilm_1 rfl rfl ?_
  replace hF := eg_bind hF; obtain ⟨p1, e2, hF⟩ := hF
  refine eg_getR dX13_readFilm_2 e2 (Nat.le_of_ble_eq_true rfl) (Nat.le_of_ble_eq_true rfl) rfl ew_1435 ?_
  refine eg_iconst (v := (0 : Int32)) dX13_readFilm_5 (by decide) ?_
  refine eg_aload_n (i := 0) 0 dX13_readFilm_6 rfl rfl ?_
  replace hF := eg_bind hF; obtain ⟨v3, e4, hF⟩ := hF
  refine eg_getI dX13_readFilm_7 e4 (Nat.le_of_ble_eq_true rfl) (Nat.le_of_ble_eq_true rfl) rfl ew_1440 ?_
  replace hF := eg_bind hF; obtain ⟨h5, e6, hF⟩ := hF
  refine eg_callV (c := 13) (n := 3) [.ref p1, .int (0 : Int32), .int v3] dX13_readFilm_10 (mX13_opens e6) rfl (fX13_opens_O e6) (Nat.le_of_ble_eq_true rfl) rfl ew_1704 ew_1706 ew_52 ew_110 ew_1707 hy_X13_opens rfl (Nat.le_of_ble_eq_true rfl) (Nat.le_of_ble_eq_true rfl) (Nat.le_of_ble_eq_true rfl) ?_
  refine eg_aload_n (i := 0) 0 dX13_readFilm_13 rfl rfl ?_
  refine eg_iconst (v := (0 : Int32)) dX13_readFilm_14 (by decide) ?_
  replace hF := eg_bind hF; obtain ⟨h7, e8, hF⟩ := hF
  refine eg_putI dX13_readFilm_15 e8 (Nat.le_of_ble_eq_true rfl) (Nat.le_of_ble_eq_true rfl) rfl ew_1467 (Or.inl rfl) ?_
  refine eg_aload_n (i := 0) 0 dX13_readFilm_18 rfl rfl ?_
  replace hF := eg_bind hF; obtain ⟨⟨v10, h9⟩, e11, hF⟩ := hF
  refine eg_callV (c := 13) (n := 0) [] dX13_readFilm_19 (mX13_look e11) rfl (fX13_look_O e11) (Nat.le_of_ble_eq_true rfl) rfl ew_1715 ew_1717 ew_54 ew_110 ew_1718 hy_X13_look rfl (Nat.le_of_ble_eq_true rfl) (Nat.le_of_ble_eq_true rfl) (Nat.le_of_ble_eq_true rfl) ?_
  refine eg_pop dX13_readFilm_22 rfl ?_
  replace hF := eg_bind hF; obtain ⟨x13, e12, hF⟩ := hF
  refine (fX13_readFilm_L23_ok eg_F h9 l0 x13 e12 ?_ ?_)
  · intro p14 h15 e29
    subst e29
    refine eg_aload_n (i := 0) 0 dX13_readFilm_89 rfl rfl ?_
    replace hF := eg_bind hF; obtain ⟨v16, e17, hF⟩ := hF
    refine eg_getI dX13_readFilm_90 e17 (Nat.le_of_ble_eq_true rfl) (Nat.le_of_ble_eq_true rfl) rfl ew_1467 ?_
    refine eg_if_eq 104 dX13_readFilm_93 rfl (fun c18 => ?_) (fun c18 => ?_)
    · replace hF := eg_it c18 hF
      refine eg_aload_n (i := 0) 0 dX13_readFilm_104 rfl rfl ?_
      replace hF := eg_bind hF; obtain ⟨⟨v20, h19⟩, e21, hF⟩ := hF
      refine eg_callV (c := 13) (n := 0) [] dX13_readFilm_105 (mX13_fails e21) rfl (fX13_fails_O e21) (Nat.le_of_ble_eq_true rfl) rfl ew_1719 ew_1721 ew_55 ew_110 ew_1722 hy_X13_fails rfl (Nat.le_of_ble_eq_true rfl) (Nat.le_of_ble_eq_true rfl) (Nat.le_of_ble_eq_true rfl) ?_
      refine eg_pop dX13_readFilm_108 rfl ?_
      exact eg_vretE dX13_readFilm_109 hF
    · replace hF := eg_if c18 hF
      refine eg_aload_n (i := 0) 0 dX13_readFilm_96 rfl rfl ?_
      replace hF := eg_bind hF; obtain ⟨⟨v23, h22⟩, e24, hF⟩ := hF
      refine eg_callV (c := 13) (n := 0) [] dX13_readFilm_97 (mX13_look e24) rfl (fX13_look_O e24) (Nat.le_of_ble_eq_true rfl) rfl ew_1715 ew_1717 ew_54 ew_110 ew_1718 hy_X13_look rfl (Nat.le_of_ble_eq_true rfl) (Nat.le_of_ble_eq_true rfl) (Nat.le_of_ble_eq_true rfl) ?_
      refine eg_iconst (v := (-1 : Int32)) dX13_readFilm_100 (by decide) ?_
      refine eg_ic_eq 109 dX13_readFilm_101 rfl (fun c25 => ?_) (fun c25 => ?_)
      · replace hF := eg_it c25 hF
        exact eg_vretE dX13_readFilm_109 hF
      · replace hF := eg_if c25 hF
        refine eg_aload_n (i := 0) 0 dX13_readFilm_104 rfl rfl ?_
        replace hF := eg_bind hF; obtain ⟨⟨v27, h26⟩, e28, hF⟩ := hF
        refine eg_callV (c := 13) (n := 0) [] dX13_readFilm_105 (mX13_fails e28) rfl (fX13_fails_O e28) (Nat.le_of_ble_eq_true rfl) rfl ew_1719 ew_1721 ew_55 ew_110 ew_1722 hy_X13_fails rfl (Nat.le_of_ble_eq_true rfl) (Nat.le_of_ble_eq_true rfl) (Nat.le_of_ble_eq_true rfl) ?_
        refine eg_pop dX13_readFilm_108 rfl ?_
        exact eg_vretE dX13_readFilm_109 hF
  · intro p30 h31 e35
    subst e35
    refine eg_aload_n (i := 0) 0 dX13_readFilm_39 rfl rfl ?_
    replace hF := eg_bind hF; obtain ⟨⟨v33, h32⟩, e34, hF⟩ := hF
    refine eg_callV (c := 13) (n := 0) [] dX13_readFilm_40 (mX13_fails e34) rfl (fX13_fails_O e34) (Nat.le_of_ble_eq_true rfl) rfl ew_1719 ew_1721 ew_55 ew_110 ew_1722 hy_X13_fails rfl (Nat.le_of_ble_eq_true rfl) (Nat.le_of_ble_eq_true rfl) (Nat.le_of_ble_eq_true rfl) ?_
    refine eg_pop dX13_readFilm_43 rfl ?_
    exact eg_vretE dX13_readFilm_44 hF
theorem dX13_fault_0 : decode cX13_fault 0 = .ok (.aload_n 0, 1) := by decide +kernel
theorem dX13_fault_1 : decode cX13_fault 1 = .ok (.iconst 0, 1) := by decide +kernel
theorem dX13_fault_2 : decode cX13_fault 2 = .ok (.putfield 148, 3) := by decide +kernel
theorem dX13_fault_5 : decode cX13_fault 5 = .ok (.iload_n 1, 1) := by decide +kernel
theorem dX13_fault_6 : decode cX13_fault 6 = .ok (.i2l, 1) := by decide +kernel
theorem dX13_fault_7 : decode cX13_fault 7 = .ok (.lconst 0, 1) := by decide +kernel
theorem dX13_fault_8 : decode cX13_fault 8 = .ok (.ldc2_w 316, 3) := by decide +kernel
theorem dX13_fault_11 : decode cX13_fault 11 = .ok (.invokestatic 269, 3) := by decide +kernel
theorem dX13_fault_14 : decode cX13_fault 14 = .ok (.ifCond .ne 6, 3) := by decide +kernel
theorem dX13_fault_17 : decode cX13_fault 17 = .ok (.bipush (-2), 2) := by decide +kernel
theorem dX13_fault_19 : decode cX13_fault 19 = .ok (.ireturn, 1) := by decide +kernel
theorem dX13_fault_20 : decode cX13_fault 20 = .ok (.iload_n 1, 1) := by decide +kernel
theorem dX13_fault_21 : decode cX13_fault 21 = .ok (.ifCond .ne 7, 3) := by decide +kernel
theorem dX13_fault_24 : decode cX13_fault 24 = .ok (.aload_n 0, 1) := by decide +kernel
theorem dX13_fault_25 : decode cX13_fault 25 = .ok (.invokevirtual 318, 3) := by decide +kernel
theorem dX13_fault_28 : decode cX13_fault 28 = .ok (.iload_n 1, 1) := by decide +kernel
theorem dX13_fault_29 : decode cX13_fault 29 = .ok (.iconst 1, 1) := by decide +kernel
theorem dX13_fault_30 : decode cX13_fault 30 = .ok (.if_icmp .ne 16, 3) := by decide +kernel
theorem dX13_fault_33 : decode cX13_fault 33 = .ok (.aload_n 0, 1) := by decide +kernel
theorem dX13_fault_34 : decode cX13_fault 34 = .ok (.aload_n 0, 1) := by decide +kernel
theorem dX13_fault_35 : decode cX13_fault 35 = .ok (.getfield 9, 3) := by decide +kernel
theorem dX13_fault_38 : decode cX13_fault 38 = .ok (.iconst 0, 1) := by decide +kernel
theorem dX13_fault_39 : decode cX13_fault 39 = .ok (.aload_n 0, 1) := by decide +kernel
theorem dX13_fault_40 : decode cX13_fault 40 = .ok (.getfield 161, 3) := by decide +kernel
theorem dX13_fault_43 : decode cX13_fault 43 = .ok (.invokevirtual 321, 3) := by decide +kernel
theorem dX13_fault_46 : decode cX13_fault 46 = .ok (.iload_n 1, 1) := by decide +kernel
theorem dX13_fault_47 : decode cX13_fault 47 = .ok (.iconst 2, 1) := by decide +kernel
theorem dX13_fault_48 : decode cX13_fault 48 = .ok (.if_icmp .ne 7, 3) := by decide +kernel
theorem dX13_fault_51 : decode cX13_fault 51 = .ok (.aload_n 0, 1) := by decide +kernel
theorem dX13_fault_52 : decode cX13_fault 52 = .ok (.invokevirtual 324, 3) := by decide +kernel
theorem dX13_fault_55 : decode cX13_fault 55 = .ok (.aload_n 0, 1) := by decide +kernel
theorem dX13_fault_56 : decode cX13_fault 56 = .ok (.getfield 180, 3) := by decide +kernel
theorem dX13_fault_59 : decode cX13_fault 59 = .ok (.ireturn, 1) := by decide +kernel
def fX13_fault_j28 (h : eg_H) (l0 : Nat) (l1 : Int32) : Option (Int32 × eg_H) :=
  if l1 = (1 : Int32) then
    ((eg_gR h 13 1 l0).bind fun p2 =>
    (eg_gI h 13 6 l0).bind fun v4 =>
    (fX13_goThrough h l0 p2 (0 : Int32) v4).bind fun h6 =>
    if l1 = (2 : Int32) then
      ((fX13_readFilm h6 l0).bind fun h9 =>
      (eg_gI h9 13 11 l0).bind fun v11 =>
      some (v11, h9))
    else
      (eg_gI h6 13 11 l0).bind fun v13 =>
      some (v13, h6))
  else
    if l1 = (2 : Int32) then
      ((fX13_readFilm h l0).bind fun h16 =>
      (eg_gI h16 13 11 l0).bind fun v18 =>
      some (v18, h16))
    else
      (eg_gI h 13 11 l0).bind fun v20 =>
      some (v20, h)
set_option maxRecDepth 20000 in
theorem fX13_fault_j28_ok {h0 : eg_H} (h : eg_H) (l0 : Nat) (l1 : Int32) {rE : Int32} {hE : eg_H} (hF : fX13_fault_j28 h l0 l1 = some (rE, hE)) : eg_AW (RX13, cX13_fault, 2, 395, none, "fault", (some .int)) (eg_Zm (some (.int rE)) hE h0) (eg_nc hE) (eg_ns hE) h0 28 [(0, .ref l0), (1, .int l1)] [] h := by
  refine eg_iload_n (i := 1) 1 dX13_fault_28 rfl rfl ?_
  refine eg_iconst (v := (1 : Int32)) dX13_fault_29 (by decide) ?_
  refine eg_ic_ne 46 dX13_fault_30 rfl (fun c1 => ?_) (fun c1 => ?_)
  · replace hF := eg_it c1 hF
    refine eg_aload_n (i := 0) 0 dX13_fault_33 rfl rfl ?_
    refine eg_aload_n (i := 0) 0 dX13_fault_34 rfl rfl ?_
    replace hF := eg_bind hF; obtain ⟨p2, e3, hF⟩ := hF
    refine eg_getR dX13_fault_35 e3 (Nat.le_of_ble_eq_true rfl) (Nat.le_of_ble_eq_true rfl) rfl ew_1435 ?_
    refine eg_iconst (v := (0 : Int32)) dX13_fault_38 (by decide) ?_
    refine eg_aload_n (i := 0) 0 dX13_fault_39 rfl rfl ?_
    replace hF := eg_bind hF; obtain ⟨v4, e5, hF⟩ := hF
    refine eg_getI dX13_fault_40 e5 (Nat.le_of_ble_eq_true rfl) (Nat.le_of_ble_eq_true rfl) rfl ew_1440 ?_
    replace hF := eg_bind hF; obtain ⟨h6, e7, hF⟩ := hF
    refine eg_callV (c := 13) (n := 3) [.ref p2, .int (0 : Int32), .int v4] dX13_fault_43 (mX13_goThrough e7) rfl (fX13_goThrough_O e7) (Nat.le_of_ble_eq_true rfl) rfl ew_1798 ew_1800 ew_59 ew_110 ew_1801 hy_X13_goThrough rfl (Nat.le_of_ble_eq_true rfl) (Nat.le_of_ble_eq_true rfl) (Nat.le_of_ble_eq_true rfl) ?_
    refine eg_iload_n (i := 1) 1 dX13_fault_46 rfl rfl ?_
    refine eg_iconst (v := (2 : Int32)) dX13_fault_47 (by decide) ?_
    refine eg_ic_ne 55 dX13_fault_48 rfl (fun c8 => ?_) (fun c8 => ?_)
    · replace hF := eg_it c8 hF
      refine eg_aload_n (i := 0) 0 dX13_fault_51 rfl rfl ?_
      replace hF := eg_bind hF; obtain ⟨h9, e10, hF⟩ := hF
      refine eg_callV (c := 13) (n := 0) [] dX13_fault_52 (mX13_readFilm e10) rfl (fX13_readFilm_O e10) (Nat.le_of_ble_eq_true rfl) rfl ew_1859 ew_1861 ew_70 ew_110 ew_1862 hy_X13_readFilm rfl (Nat.le_of_ble_eq_true rfl) (Nat.le_of_ble_eq_true rfl) (Nat.le_of_ble_eq_true rfl) ?_
      refine eg_aload_n (i := 0) 0 dX13_fault_55 rfl rfl ?_
      replace hF := eg_bind hF; obtain ⟨v11, e12, hF⟩ := hF
      refine eg_getI dX13_fault_56 e12 (Nat.le_of_ble_eq_true rfl) (Nat.le_of_ble_eq_true rfl) rfl ew_1445 ?_
      exact eg_iretE dX13_fault_59 hF
    · replace hF := eg_if c8 hF
      refine eg_aload_n (i := 0) 0 dX13_fault_55 rfl rfl ?_
      replace hF := eg_bind hF; obtain ⟨v13, e14, hF⟩ := hF
      refine eg_getI dX13_fault_56 e14 (Nat.le_of_ble_eq_true rfl) (Nat.le_of_ble_eq_true rfl) rfl ew_1445 ?_
      exact eg_iretE dX13_fault_59 hF
  · replace hF := eg_if c1 hF
    refine eg_iload_n (i := 1) 1 dX13_fault_46 rfl rfl ?_
    refine eg_iconst (v := (2 : Int32)) dX13_fault_47 (by decide) ?_
    refine eg_ic_ne 55 dX13_fault_48 rfl (fun c15 => ?_) (fun c15 => ?_)
    · replace hF := eg_it c15 hF
      refine eg_aload_n (i := 0) 0 dX13_fault_51 rfl rfl ?_
      replace hF := eg_bind hF; obtain ⟨h16, e17, hF⟩ := hF
      refine eg_callV (c := 13) (n := 0) [] dX13_fault_52 (mX13_readFilm e17) rfl (fX13_readFilm_O e17) (Nat.le_of_ble_eq_true rfl) rfl ew_1859 ew_1861 ew_70 ew_110 ew_1862 hy_X13_readFilm rfl (Nat.le_of_ble_eq_true rfl) (Nat.le_of_ble_eq_true rfl) (Nat.le_of_ble_eq_true rfl) ?_
      refine eg_aload_n (i := 0) 0 dX13_fault_55 rfl rfl ?_
      replace hF := eg_bind hF; obtain ⟨v18, e19, hF⟩ := hF
      refine eg_getI dX13_fault_56 e19 (Nat.le_of_ble_eq_true rfl) (Nat.le_of_ble_eq_true rfl) rfl ew_1445 ?_
      exact eg_iretE dX13_fault_59 hF
    · replace hF := eg_if c15 hF
      refine eg_aload_n (i := 0) 0 dX13_fault_55 rfl rfl ?_
      replace hF := eg_bind hF; obtain ⟨v20, e21, hF⟩ := hF
      refine eg_getI dX13_fault_56 e21 (Nat.le_of_ble_eq_true rfl) (Nat.le_of_ble_eq_true rfl) rfl ew_1445 ?_
      exact eg_iretE dX13_fault_59 hF
def fX13_fault (h : eg_H) (l0 : Nat) (l1 : Int32) : Option (Int32 × eg_H) :=
  if eg_isO h 13 l0 then (
    (eg_pI h 13 0 l0 (0 : Int32)).bind fun h1 =>
    (fX13_isIn h1 l1.toInt64 (0 : Int64) (2 : Int64)).bind fun ⟨v4, h3⟩ =>
    if v4 = 0 then
      (some ((-2 : Int32), h3))
    else
      if l1 = 0 then
        ((fX13_readMeadow h3 l0).bind fun h8 =>
        fX13_fault_j28 h8 l0 l1)
      else
        fX13_fault_j28 h3 l0 l1) else none
theorem fX13_fault_O {h : eg_H} {l0 : Nat} {l1 : Int32} {rE : Int32} {hE : eg_H} (hF : fX13_fault h l0 l1 = some (rE, hE)) : eg_isO h 13 l0 := (eg_ifn hF).1
set_option maxRecDepth 20000 in
theorem mX13_fault {h : eg_H} {l0 : Nat} {l1 : Int32} {rE : Int32} {hE : eg_H} (hF : fX13_fault h l0 l1 = some (rE, hE)) : eg_Met yX13_fault cX13_fault 2 (some .int) 395 [.ref l0, .int l1] h (some (.int rE)) hE := by
  refine eg_enter rfl (Nat.le_of_ble_eq_true rfl) ?_
  show eg_AW (RX13, cX13_fault, 2, 395, none, "fault", (some .int)) (eg_Zm (some (.int rE)) hE h) (eg_nc hE) (eg_ns hE) h 0 [(0, .ref l0), (1, .int l1)] [] h
  replace hF := (eg_ifn hF).2
  refine eg_aload_n (i := 0) 0 dX13_fault_0 rfl rfl ?_
  refine eg_iconst (v := (0 : Int32)) dX13_fault_1 (by decide) ?_
  replace hF := eg_bind hF; obtain ⟨h1, e2, hF⟩ := hF
  refine eg_putI dX13_fault_2 e2 (Nat.le_of_ble_eq_true rfl) (Nat.le_of_ble_eq_true rfl) rfl ew_1434 (Or.inl rfl) ?_
  refine eg_iload_n (i := 1) 1 dX13_fault_5 rfl rfl ?_
  refine eg_i2l dX13_fault_6 ?_
  refine eg_lconst (v := (0 : Int64)) dX13_fault_7 (by decide) ?_
  refine eg_ldc2 (v := (2 : Int64)) dX13_fault_8 ew_1696 ?_
  replace hF := eg_bind hF; obtain ⟨⟨v4, h3⟩, e5, hF⟩ := hF
  refine eg_callS (n := 3) [.long l1.toInt64, .long (0 : Int64), .long (2 : Int64)] dX13_fault_11 (mX13_isIn e5) rfl ew_1697 ew_1698 ew_110 ew_1699 hy_X13_isIn.2 rfl (Nat.le_of_ble_eq_true rfl) (Nat.le_of_ble_eq_true rfl) (Nat.le_of_ble_eq_true rfl) ?_
  refine eg_if_ne 20 dX13_fault_14 rfl (fun c6 => ?_) (fun c6 => ?_)
  · replace hF := eg_it c6 hF
    refine eg_bipush (v := (-2 : Int32)) dX13_fault_17 (by decide) ?_
    exact eg_iretE dX13_fault_19 hF
  · replace hF := eg_if c6 hF
    refine eg_iload_n (i := 1) 1 dX13_fault_20 rfl rfl ?_
    refine eg_if_ne 28 dX13_fault_21 rfl (fun c7 => ?_) (fun c7 => ?_)
    · replace hF := eg_it c7 hF
      refine eg_aload_n (i := 0) 0 dX13_fault_24 rfl rfl ?_
      replace hF := eg_bind hF; obtain ⟨h8, e9, hF⟩ := hF
      refine eg_callV (c := 13) (n := 0) [] dX13_fault_25 (mX13_readMeadow e9) rfl (fX13_readMeadow_O e9) (Nat.le_of_ble_eq_true rfl) rfl ew_1700 ew_1702 ew_51 ew_110 ew_1703 hy_X13_readMeadow rfl (Nat.le_of_ble_eq_true rfl) (Nat.le_of_ble_eq_true rfl) (Nat.le_of_ble_eq_true rfl) ?_
      exact (fX13_fault_j28_ok h8 l0 l1 hF)
    · replace hF := eg_if c7 hF
      exact (fX13_fault_j28_ok h3 l0 l1 hF)
theorem dX13_text_0 : decode cX13_text 0 = .ok (.aload_n 0, 1) := by decide +kernel
theorem dX13_text_1 : decode cX13_text 1 = .ok (.iconst 0, 1) := by decide +kernel
theorem dX13_text_2 : decode cX13_text 2 = .ok (.putfield 148, 3) := by decide +kernel
theorem dX13_text_5 : decode cX13_text 5 = .ok (.iload_n 1, 1) := by decide +kernel
theorem dX13_text_6 : decode cX13_text 6 = .ok (.i2l, 1) := by decide +kernel
theorem dX13_text_7 : decode cX13_text 7 = .ok (.lconst 0, 1) := by decide +kernel
theorem dX13_text_8 : decode cX13_text 8 = .ok (.ldc2_w 316, 3) := by decide +kernel
theorem dX13_text_11 : decode cX13_text 11 = .ok (.invokestatic 269, 3) := by decide +kernel
theorem dX13_text_14 : decode cX13_text 14 = .ok (.ifCond .eq 38, 3) := by decide +kernel
theorem dX13_text_17 : decode cX13_text 17 = .ok (.iload_n 1, 1) := by decide +kernel
theorem dX13_text_18 : decode cX13_text 18 = .ok (.iconst 1, 1) := by decide +kernel
theorem dX13_text_19 : decode cX13_text 19 = .ok (.if_icmp .ne 11, 3) := by decide +kernel
theorem dX13_text_22 : decode cX13_text 22 = .ok (.aload_n 0, 1) := by decide +kernel
theorem dX13_text_23 : decode cX13_text 23 = .ok (.getfield 327, 3) := by decide +kernel
theorem dX13_text_26 : decode cX13_text 26 = .ok (.iconst 4, 1) := by decide +kernel
theorem dX13_text_27 : decode cX13_text 27 = .ok (.if_icmp .eq 25, 3) := by decide +kernel
theorem dX13_text_30 : decode cX13_text 30 = .ok (.iload_n 1, 1) := by decide +kernel
theorem dX13_text_31 : decode cX13_text 31 = .ok (.iconst 2, 1) := by decide +kernel
theorem dX13_text_32 : decode cX13_text 32 = .ok (.if_icmp .ne 11, 3) := by decide +kernel
theorem dX13_text_35 : decode cX13_text 35 = .ok (.aload_n 0, 1) := by decide +kernel
theorem dX13_text_36 : decode cX13_text 36 = .ok (.getfield 330, 3) := by decide +kernel
theorem dX13_text_39 : decode cX13_text 39 = .ok (.iconst 4, 1) := by decide +kernel
theorem dX13_text_40 : decode cX13_text 40 = .ok (.if_icmp .eq 12, 3) := by decide +kernel
theorem dX13_text_43 : decode cX13_text 43 = .ok (.aload_n 0, 1) := by decide +kernel
theorem dX13_text_44 : decode cX13_text 44 = .ok (.iload_n 1, 1) := by decide +kernel
theorem dX13_text_45 : decode cX13_text 45 = .ok (.invokevirtual 333, 3) := by decide +kernel
theorem dX13_text_48 : decode cX13_text 48 = .ok (.iconst (-1), 1) := by decide +kernel
theorem dX13_text_49 : decode cX13_text 49 = .ok (.if_icmp .eq 5, 3) := by decide +kernel
theorem dX13_text_52 : decode cX13_text 52 = .ok (.iconst (-1), 1) := by decide +kernel
theorem dX13_text_53 : decode cX13_text 53 = .ok (.ireturn, 1) := by decide +kernel
theorem dX13_text_54 : decode cX13_text 54 = .ok (.aload_n 0, 1) := by decide +kernel
theorem dX13_text_55 : decode cX13_text 55 = .ok (.getfield 161, 3) := by decide +kernel
theorem dX13_text_58 : decode cX13_text 58 = .ok (.istore_n 2, 1) := by decide +kernel
theorem dX13_text_59 : decode cX13_text 59 = .ok (.aload_n 0, 1) := by decide +kernel
theorem dX13_text_60 : decode cX13_text 60 = .ok (.iconst 0, 1) := by decide +kernel
theorem dX13_text_61 : decode cX13_text 61 = .ok (.putfield 161, 3) := by decide +kernel
theorem dX13_text_64 : decode cX13_text 64 = .ok (.iload_n 1, 1) := by decide +kernel
theorem dX13_text_65 : decode cX13_text 65 = .ok (.iconst 2, 1) := by decide +kernel
theorem dX13_text_66 : decode cX13_text 66 = .ok (.if_icmp .ne 69, 3) := by decide +kernel
theorem dX13_text_69 : decode cX13_text 69 = .ok (.iconst 0, 1) := by decide +kernel
theorem dX13_text_70 : decode cX13_text 70 = .ok (.istore_n 3, 1) := by decide +kernel
theorem dX13_text_71 : decode cX13_text 71 = .ok (.iload_n 3, 1) := by decide +kernel
theorem dX13_text_72 : decode cX13_text 72 = .ok (.aload_n 0, 1) := by decide +kernel
theorem dX13_text_73 : decode cX13_text 73 = .ok (.getfield 313, 3) := by decide +kernel
theorem dX13_text_76 : decode cX13_text 76 = .ok (.if_icmp .ge 29, 3) := by decide +kernel
theorem dX13_text_79 : decode cX13_text 79 = .ok (.aload_n 0, 1) := by decide +kernel
theorem dX13_text_80 : decode cX13_text 80 = .ok (.getfield 55, 3) := by decide +kernel
theorem dX13_text_83 : decode cX13_text 83 = .ok (.bipush 24, 2) := by decide +kernel
theorem dX13_text_85 : decode cX13_text 85 = .ok (.aload_n 0, 1) := by decide +kernel
theorem dX13_text_86 : decode cX13_text 86 = .ok (.getfield 330, 3) := by decide +kernel
theorem dX13_text_89 : decode cX13_text 89 = .ok (.imul, 1) := by decide +kernel
theorem dX13_text_90 : decode cX13_text 90 = .ok (.iload_n 3, 1) := by decide +kernel
theorem dX13_text_91 : decode cX13_text 91 = .ok (.iadd, 1) := by decide +kernel
theorem dX13_text_92 : decode cX13_text 92 = .ok (.aload_n 0, 1) := by decide +kernel
theorem dX13_text_93 : decode cX13_text 93 = .ok (.getfield 58, 3) := by decide +kernel
theorem dX13_text_96 : decode cX13_text 96 = .ok (.iload_n 3, 1) := by decide +kernel
theorem dX13_text_97 : decode cX13_text 97 = .ok (.iaload, 1) := by decide +kernel
theorem dX13_text_98 : decode cX13_text 98 = .ok (.iastore, 1) := by decide +kernel
theorem dX13_text_99 : decode cX13_text 99 = .ok (.iinc 3 1, 3) := by decide +kernel
theorem dX13_text_102 : decode cX13_text 102 = .ok (.goto (-31), 3) := by decide +kernel
theorem dX13_text_105 : decode cX13_text 105 = .ok (.aload_n 0, 1) := by decide +kernel
theorem dX13_text_106 : decode cX13_text 106 = .ok (.getfield 61, 3) := by decide +kernel
theorem dX13_text_109 : decode cX13_text 109 = .ok (.aload_n 0, 1) := by decide +kernel
theorem dX13_text_110 : decode cX13_text 110 = .ok (.getfield 330, 3) := by decide +kernel
theorem dX13_text_113 : decode cX13_text 113 = .ok (.aload_n 0, 1) := by decide +kernel
theorem dX13_text_114 : decode cX13_text 114 = .ok (.getfield 313, 3) := by decide +kernel
theorem dX13_text_117 : decode cX13_text 117 = .ok (.iastore, 1) := by decide +kernel
theorem dX13_text_118 : decode cX13_text 118 = .ok (.aload_n 0, 1) := by decide +kernel
theorem dX13_text_119 : decode cX13_text 119 = .ok (.dup, 1) := by decide +kernel
theorem dX13_text_120 : decode cX13_text 120 = .ok (.getfield 330, 3) := by decide +kernel
theorem dX13_text_123 : decode cX13_text 123 = .ok (.iconst 1, 1) := by decide +kernel
theorem dX13_text_124 : decode cX13_text 124 = .ok (.iadd, 1) := by decide +kernel
theorem dX13_text_125 : decode cX13_text 125 = .ok (.putfield 330, 3) := by decide +kernel
theorem dX13_text_128 : decode cX13_text 128 = .ok (.aload_n 0, 1) := by decide +kernel
theorem dX13_text_129 : decode cX13_text 129 = .ok (.getfield 330, 3) := by decide +kernel
theorem dX13_text_132 : decode cX13_text 132 = .ok (.iconst 1, 1) := by decide +kernel
theorem dX13_text_133 : decode cX13_text 133 = .ok (.isub, 1) := by decide +kernel
theorem dX13_text_134 : decode cX13_text 134 = .ok (.ireturn, 1) := by decide +kernel
theorem dX13_text_135 : decode cX13_text 135 = .ok (.iload_n 1, 1) := by decide +kernel
theorem dX13_text_136 : decode cX13_text 136 = .ok (.iconst 1, 1) := by decide +kernel
theorem dX13_text_137 : decode cX13_text 137 = .ok (.if_icmp .ne 64, 3) := by decide +kernel
theorem dX13_text_140 : decode cX13_text 140 = .ok (.iconst 0, 1) := by decide +kernel
theorem dX13_text_141 : decode cX13_text 141 = .ok (.istore_n 3, 1) := by decide +kernel
theorem dX13_text_142 : decode cX13_text 142 = .ok (.iload_n 3, 1) := by decide +kernel
theorem dX13_text_143 : decode cX13_text 143 = .ok (.iload_n 2, 1) := by decide +kernel
theorem dX13_text_144 : decode cX13_text 144 = .ok (.if_icmp .ge 30, 3) := by decide +kernel
theorem dX13_text_147 : decode cX13_text 147 = .ok (.aload_n 0, 1) := by decide +kernel
theorem dX13_text_148 : decode cX13_text 148 = .ok (.getfield 13, 3) := by decide +kernel
theorem dX13_text_151 : decode cX13_text 151 = .ok (.sipush 160, 3) := by decide +kernel
theorem dX13_text_154 : decode cX13_text 154 = .ok (.aload_n 0, 1) := by decide +kernel
theorem dX13_text_155 : decode cX13_text 155 = .ok (.getfield 327, 3) := by decide +kernel
theorem dX13_text_158 : decode cX13_text 158 = .ok (.imul, 1) := by decide +kernel
theorem dX13_text_159 : decode cX13_text 159 = .ok (.iload_n 3, 1) := by decide +kernel
theorem dX13_text_160 : decode cX13_text 160 = .ok (.iadd, 1) := by decide +kernel
theorem dX13_text_161 : decode cX13_text 161 = .ok (.aload_n 0, 1) := by decide +kernel
theorem dX13_text_162 : decode cX13_text 162 = .ok (.getfield 9, 3) := by decide +kernel
theorem dX13_text_165 : decode cX13_text 165 = .ok (.iload_n 3, 1) := by decide +kernel
theorem dX13_text_166 : decode cX13_text 166 = .ok (.baload, 1) := by decide +kernel
theorem dX13_text_167 : decode cX13_text 167 = .ok (.bastore, 1) := by decide +kernel
theorem dX13_text_168 : decode cX13_text 168 = .ok (.iinc 3 1, 3) := by decide +kernel
theorem dX13_text_171 : decode cX13_text 171 = .ok (.goto (-29), 3) := by decide +kernel
theorem dX13_text_174 : decode cX13_text 174 = .ok (.aload_n 0, 1) := by decide +kernel
theorem dX13_text_175 : decode cX13_text 175 = .ok (.getfield 16, 3) := by decide +kernel
theorem dX13_text_178 : decode cX13_text 178 = .ok (.aload_n 0, 1) := by decide +kernel
theorem dX13_text_179 : decode cX13_text 179 = .ok (.getfield 327, 3) := by decide +kernel
theorem dX13_text_182 : decode cX13_text 182 = .ok (.iload_n 2, 1) := by decide +kernel
theorem dX13_text_183 : decode cX13_text 183 = .ok (.iastore, 1) := by decide +kernel
theorem dX13_text_184 : decode cX13_text 184 = .ok (.aload_n 0, 1) := by decide +kernel
theorem dX13_text_185 : decode cX13_text 185 = .ok (.dup, 1) := by decide +kernel
theorem dX13_text_186 : decode cX13_text 186 = .ok (.getfield 327, 3) := by decide +kernel
theorem dX13_text_189 : decode cX13_text 189 = .ok (.iconst 1, 1) := by decide +kernel
theorem dX13_text_190 : decode cX13_text 190 = .ok (.iadd, 1) := by decide +kernel
theorem dX13_text_191 : decode cX13_text 191 = .ok (.putfield 327, 3) := by decide +kernel
theorem dX13_text_194 : decode cX13_text 194 = .ok (.aload_n 0, 1) := by decide +kernel
theorem dX13_text_195 : decode cX13_text 195 = .ok (.getfield 327, 3) := by decide +kernel
theorem dX13_text_198 : decode cX13_text 198 = .ok (.iconst 1, 1) := by decide +kernel
theorem dX13_text_199 : decode cX13_text 199 = .ok (.isub, 1) := by decide +kernel
theorem dX13_text_200 : decode cX13_text 200 = .ok (.ireturn, 1) := by decide +kernel
theorem dX13_text_201 : decode cX13_text 201 = .ok (.aload_n 0, 1) := by decide +kernel
theorem dX13_text_202 : decode cX13_text 202 = .ok (.aload_n 0, 1) := by decide +kernel
theorem dX13_text_203 : decode cX13_text 203 = .ok (.getfield 276, 3) := by decide +kernel
theorem dX13_text_206 : decode cX13_text 206 = .ok (.putfield 335, 3) := by decide +kernel
theorem dX13_text_209 : decode cX13_text 209 = .ok (.aload_n 0, 1) := by decide +kernel
theorem dX13_text_210 : decode cX13_text 210 = .ok (.aload_n 0, 1) := by decide +kernel
theorem dX13_text_211 : decode cX13_text 211 = .ok (.getfield 279, 3) := by decide +kernel
theorem dX13_text_214 : decode cX13_text 214 = .ok (.putfield 338, 3) := by decide +kernel
theorem dX13_text_217 : decode cX13_text 217 = .ok (.iconst 0, 1) := by decide +kernel
theorem dX13_text_218 : decode cX13_text 218 = .ok (.istore_n 3, 1) := by decide +kernel
theorem dX13_text_219 : decode cX13_text 219 = .ok (.iload_n 3, 1) := by decide +kernel
theorem dX13_text_220 : decode cX13_text 220 = .ok (.iconst 4, 1) := by decide +kernel
theorem dX13_text_221 : decode cX13_text 221 = .ok (.if_icmp .ge 21, 3) := by decide +kernel
theorem dX13_text_224 : decode cX13_text 224 = .ok (.aload_n 0, 1) := by decide +kernel
theorem dX13_text_225 : decode cX13_text 225 = .ok (.getfield 37, 3) := by decide +kernel
theorem dX13_text_228 : decode cX13_text 228 = .ok (.iload_n 3, 1) := by decide +kernel
theorem dX13_text_229 : decode cX13_text 229 = .ok (.aload_n 0, 1) := by decide +kernel
theorem dX13_text_230 : decode cX13_text 230 = .ok (.getfield 40, 3) := by decide +kernel
theorem dX13_text_233 : decode cX13_text 233 = .ok (.iload_n 3, 1) := by decide +kernel
theorem dX13_text_234 : decode cX13_text 234 = .ok (.iaload, 1) := by decide +kernel
theorem dX13_text_235 : decode cX13_text 235 = .ok (.iastore, 1) := by decide +kernel
theorem dX13_text_236 : decode cX13_text 236 = .ok (.iinc 3 1, 3) := by decide +kernel
theorem dX13_text_239 : decode cX13_text 239 = .ok (.goto (-20), 3) := by decide +kernel
theorem dX13_text_242 : decode cX13_text 242 = .ok (.iconst 0, 1) := by decide +kernel
theorem dX13_text_243 : decode cX13_text 243 = .ok (.istore_n 3, 1) := by decide +kernel
theorem dX13_text_244 : decode cX13_text 244 = .ok (.iload_n 3, 1) := by decide +kernel
theorem dX13_text_245 : decode cX13_text 245 = .ok (.bipush 24, 2) := by decide +kernel
theorem dX13_text_247 : decode cX13_text 247 = .ok (.if_icmp .ge 21, 3) := by decide +kernel
theorem dX13_text_250 : decode cX13_text 250 = .ok (.aload_n 0, 1) := by decide +kernel
theorem dX13_text_251 : decode cX13_text 251 = .ok (.getfield 43, 3) := by decide +kernel
theorem dX13_text_254 : decode cX13_text 254 = .ok (.iload_n 3, 1) := by decide +kernel
theorem dX13_text_255 : decode cX13_text 255 = .ok (.aload_n 0, 1) := by decide +kernel
theorem dX13_text_256 : decode cX13_text 256 = .ok (.getfield 46, 3) := by decide +kernel
theorem dX13_text_259 : decode cX13_text 259 = .ok (.iload_n 3, 1) := by decide +kernel
theorem dX13_text_260 : decode cX13_text 260 = .ok (.iaload, 1) := by decide +kernel
theorem dX13_text_261 : decode cX13_text 261 = .ok (.iastore, 1) := by decide +kernel
theorem dX13_text_262 : decode cX13_text 262 = .ok (.iinc 3 1, 3) := by decide +kernel
theorem dX13_text_265 : decode cX13_text 265 = .ok (.goto (-21), 3) := by decide +kernel
theorem dX13_text_268 : decode cX13_text 268 = .ok (.iconst 0, 1) := by decide +kernel
theorem dX13_text_269 : decode cX13_text 269 = .ok (.istore_n 3, 1) := by decide +kernel
theorem dX13_text_270 : decode cX13_text 270 = .ok (.iload_n 3, 1) := by decide +kernel
theorem dX13_text_271 : decode cX13_text 271 = .ok (.bipush 12, 2) := by decide +kernel
theorem dX13_text_273 : decode cX13_text 273 = .ok (.if_icmp .ge 21, 3) := by decide +kernel
theorem dX13_text_276 : decode cX13_text 276 = .ok (.aload_n 0, 1) := by decide +kernel
theorem dX13_text_277 : decode cX13_text 277 = .ok (.getfield 49, 3) := by decide +kernel
theorem dX13_text_280 : decode cX13_text 280 = .ok (.iload_n 3, 1) := by decide +kernel
theorem dX13_text_281 : decode cX13_text 281 = .ok (.aload_n 0, 1) := by decide +kernel
theorem dX13_text_282 : decode cX13_text 282 = .ok (.getfield 52, 3) := by decide +kernel
theorem dX13_text_285 : decode cX13_text 285 = .ok (.iload_n 3, 1) := by decide +kernel
theorem dX13_text_286 : decode cX13_text 286 = .ok (.iaload, 1) := by decide +kernel
theorem dX13_text_287 : decode cX13_text 287 = .ok (.iastore, 1) := by decide +kernel
theorem dX13_text_288 : decode cX13_text 288 = .ok (.iinc 3 1, 3) := by decide +kernel
theorem dX13_text_291 : decode cX13_text 291 = .ok (.goto (-21), 3) := by decide +kernel
theorem dX13_text_294 : decode cX13_text 294 = .ok (.aload_n 0, 1) := by decide +kernel
theorem dX13_text_295 : decode cX13_text 295 = .ok (.iconst (-1), 1) := by decide +kernel
theorem dX13_text_296 : decode cX13_text 296 = .ok (.putfield 64, 3) := by decide +kernel
theorem dX13_text_299 : decode cX13_text 299 = .ok (.aload_n 0, 1) := by decide +kernel
theorem dX13_text_300 : decode cX13_text 300 = .ok (.iconst 0, 1) := by decide +kernel
theorem dX13_text_301 : decode cX13_text 301 = .ok (.putfield 341, 3) := by decide +kernel
theorem dX13_text_304 : decode cX13_text 304 = .ok (.aload_n 0, 1) := by decide +kernel
theorem dX13_text_305 : decode cX13_text 305 = .ok (.iconst 0, 1) := by decide +kernel
theorem dX13_text_306 : decode cX13_text 306 = .ok (.putfield 344, 3) := by decide +kernel
theorem dX13_text_309 : decode cX13_text 309 = .ok (.aload_n 0, 1) := by decide +kernel
theorem dX13_text_310 : decode cX13_text 310 = .ok (.iconst 0, 1) := by decide +kernel
theorem dX13_text_311 : decode cX13_text 311 = .ok (.putfield 347, 3) := by decide +kernel
theorem dX13_text_314 : decode cX13_text 314 = .ok (.aload_n 0, 1) := by decide +kernel
theorem dX13_text_315 : decode cX13_text 315 = .ok (.iconst 0, 1) := by decide +kernel
theorem dX13_text_316 : decode cX13_text 316 = .ok (.putfield 350, 3) := by decide +kernel
theorem dX13_text_319 : decode cX13_text 319 = .ok (.aload_n 0, 1) := by decide +kernel
theorem dX13_text_320 : decode cX13_text 320 = .ok (.getfield 335, 3) := by decide +kernel
theorem dX13_text_323 : decode cX13_text 323 = .ok (.ireturn, 1) := by decide +kernel
def fX13_text_L71 : Nat → eg_H → Nat → Int32 → Option (Nat × eg_H)
  | 0, _, _, _ => none
  | n + 1, h, l0, l3 =>
    (eg_gI h 13 33 l0).bind fun v1 =>
    if v1 ≤ l3 then
      (some (l0, h))
    else
      (eg_gR h 13 29 l0).bind fun p4 =>
      (eg_gI h 13 32 l0).bind fun v6 =>
      (eg_gR h 13 30 l0).bind fun p8 =>
      (eg_aI h 100 p8 l3).bind fun v10 =>
      (eg_wI h 100 p4 (((24 : Int32) * v6) + l3) v10).bind fun h12 =>
      fX13_text_L71 n h12 l0 (l3 + (1 : Int32))
set_option maxRecDepth 20000 in
theorem fX13_text_L71_ok {h0 : eg_H} {Z : eg_C → State → Prop} {N S : Nat} : ∀ (n : Nat) (h : eg_H) (l0 : Nat) (l3 : Int32) (eE : Nat × eg_H), fX13_text_L71 n h l0 l3 = some eE → (hk0 : ∀ (l0 : Nat) (h : eg_H), eE = (l0, h) → eg_AW (RX13, cX13_text, 4, 396, none, "text", (some .int)) Z N S h0 105 [(0, .ref l0)] [] h) → eg_AW (RX13, cX13_text, 4, 396, none, "text", (some .int)) Z N S h0 71 [(0, .ref l0), (3, .int l3)] [] h := by
  intro n
  induction n with
  | zero => intro h l0 l3 eE hF; exact absurd hF (by intro q; cases q)
  | succ n ih =>
    intro h l0 l3 eE hF hk0
    have hrec := fun (h' : eg_H) (l0 : Nat) (l3 : Int32) hq => ih h' l0 l3 eE hq hk0
    refine eg_iload_n (i := 3) 1 dX13_text_71 rfl rfl ?_
    refine eg_aload_n (i := 0) 0 dX13_text_72 rfl rfl ?_
    replace hF := eg_bind hF; obtain ⟨v1, e2, hF⟩ := hF
    refine eg_getI dX13_text_73 e2 (Nat.le_of_ble_eq_true rfl) (Nat.le_of_ble_eq_true rfl) rfl ew_1467 ?_
    refine eg_ic_ge 105 dX13_text_76 rfl (fun c3 => ?_) (fun c3 => ?_)
    · replace hF := eg_it c3 hF
      exact eg_sub [0] [(0, .ref l0)] rfl (hk0 l0 h (Option.some.inj hF).symm)
    · replace hF := eg_if c3 hF
      refine eg_aload_n (i := 0) 0 dX13_text_79 rfl rfl ?_
      replace hF := eg_bind hF; obtain ⟨p4, e5, hF⟩ := hF
      refine eg_getR dX13_text_80 e5 (Nat.le_of_ble_eq_true rfl) (Nat.le_of_ble_eq_true rfl) rfl ew_1463 ?_
      refine eg_bipush (v := (24 : Int32)) dX13_text_83 (by decide) ?_
      refine eg_aload_n (i := 0) 0 dX13_text_85 rfl rfl ?_
      replace hF := eg_bind hF; obtain ⟨v6, e7, hF⟩ := hF
      refine eg_getI dX13_text_86 e7 (Nat.le_of_ble_eq_true rfl) (Nat.le_of_ble_eq_true rfl) rfl ew_1466 ?_
      refine eg_imul dX13_text_89 ?_
      refine eg_iload_n (i := 3) 1 dX13_text_90 rfl rfl ?_
      refine eg_iadd dX13_text_91 ?_
      refine eg_aload_n (i := 0) 0 dX13_text_92 rfl rfl ?_
      replace hF := eg_bind hF; obtain ⟨p8, e9, hF⟩ := hF
      refine eg_getR dX13_text_93 e9 (Nat.le_of_ble_eq_true rfl) (Nat.le_of_ble_eq_true rfl) rfl ew_1464 ?_
      refine eg_iload_n (i := 3) 1 dX13_text_96 rfl rfl ?_
      replace hF := eg_bind hF; obtain ⟨v10, e11, hF⟩ := hF
      refine eg_iald dX13_text_97 e11 ?_
      replace hF := eg_bind hF; obtain ⟨h12, e13, hF⟩ := hF
      refine eg_iast dX13_text_98 e13 ?_
      refine eg_iinc (i := 3) (v := (l3 + (1 : Int32))) 1 [(3, .int (l3 + (1 : Int32))), (0, .ref l0)] dX13_text_99 rfl rfl (Nat.le_of_ble_eq_true rfl) rfl ?_
      refine eg_goto 71 dX13_text_102 rfl ?_
      exact eg_sub [1, 0] [(0, .ref l0), (3, .int (l3 + (1 : Int32)))] rfl (hrec h12 l0 (l3 + (1 : Int32)) hF)
def fX13_text_L142 : Nat → eg_H → Nat → Int32 → Int32 → Option (Nat × Int32 × eg_H)
  | 0, _, _, _, _ => none
  | n + 1, h, l0, l2, l3 =>
    if l2 ≤ l3 then
      (some (l0, l2, h))
    else
      (eg_gR h 13 2 l0).bind fun p2 =>
      (eg_gI h 13 7 l0).bind fun v4 =>
      (eg_gR h 13 1 l0).bind fun p6 =>
      (eg_aI h 102 p6 l3).bind fun v8 =>
      (eg_wI h 102 p2 (((160 : Int32) * v4) + l3) (vp_nar .byte v8)).bind fun h10 =>
      fX13_text_L142 n h10 l0 l2 (l3 + (1 : Int32))
set_option maxRecDepth 20000 in
theorem fX13_text_L142_ok {h0 : eg_H} {Z : eg_C → State → Prop} {N S : Nat} : ∀ (n : Nat) (h : eg_H) (l0 : Nat) (l2 : Int32) (l3 : Int32) (eE : Nat × Int32 × eg_H), fX13_text_L142 n h l0 l2 l3 = some eE → (hk0 : ∀ (l0 : Nat) (l2 : Int32) (h : eg_H), eE = (l0, l2, h) → eg_AW (RX13, cX13_text, 4, 396, none, "text", (some .int)) Z N S h0 174 [(0, .ref l0), (2, .int l2)] [] h) → eg_AW (RX13, cX13_text, 4, 396, none, "text", (some .int)) Z N S h0 142 [(0, .ref l0), (2, .int l2), (3, .int l3)] [] h := by
  intro n
  induction n with
  | zero => intro h l0 l2 l3 eE hF; exact absurd hF (by intro q; cases q)
  | succ n ih =>
    intro h l0 l2 l3 eE hF hk0
    have hrec := fun (h' : eg_H) (l0 : Nat) (l2 : Int32) (l3 : Int32) hq => ih h' l0 l2 l3 eE hq hk0
    refine eg_iload_n (i := 3) 2 dX13_text_142 rfl rfl ?_
    refine eg_iload_n (i := 2) 1 dX13_text_143 rfl rfl ?_
    refine eg_ic_ge 174 dX13_text_144 rfl (fun c1 => ?_) (fun c1 => ?_)
    · replace hF := eg_it c1 hF
      exact eg_sub [0, 1] [(0, .ref l0), (2, .int l2)] rfl (hk0 l0 l2 h (Option.some.inj hF).symm)
    · replace hF := eg_if c1 hF
      refine eg_aload_n (i := 0) 0 dX13_text_147 rfl rfl ?_
      replace hF := eg_bind hF; obtain ⟨p2, e3, hF⟩ := hF
      refine eg_getR dX13_text_148 e3 (Nat.le_of_ble_eq_true rfl) (Nat.le_of_ble_eq_true rfl) rfl ew_1436 ?_
      refine eg_sipush (v := (160 : Int32)) dX13_text_151 (by decide) ?_
      refine eg_aload_n (i := 0) 0 dX13_text_154 rfl rfl ?_
      replace hF := eg_bind hF; obtain ⟨v4, e5, hF⟩ := hF
      refine eg_getI dX13_text_155 e5 (Nat.le_of_ble_eq_true rfl) (Nat.le_of_ble_eq_true rfl) rfl ew_1441 ?_
      refine eg_imul dX13_text_158 ?_
      refine eg_iload_n (i := 3) 2 dX13_text_159 rfl rfl ?_
      refine eg_iadd dX13_text_160 ?_
      refine eg_aload_n (i := 0) 0 dX13_text_161 rfl rfl ?_
      replace hF := eg_bind hF; obtain ⟨p6, e7, hF⟩ := hF
      refine eg_getR dX13_text_162 e7 (Nat.le_of_ble_eq_true rfl) (Nat.le_of_ble_eq_true rfl) rfl ew_1435 ?_
      refine eg_iload_n (i := 3) 2 dX13_text_165 rfl rfl ?_
      replace hF := eg_bind hF; obtain ⟨v8, e9, hF⟩ := hF
      refine eg_bald dX13_text_166 e9 ?_
      replace hF := eg_bind hF; obtain ⟨h10, e11, hF⟩ := hF
      refine eg_bast dX13_text_167 e11 ?_
      refine eg_iinc (i := 3) (v := (l3 + (1 : Int32))) 2 [(3, .int (l3 + (1 : Int32))), (0, .ref l0), (2, .int l2)] dX13_text_168 rfl rfl (Nat.le_of_ble_eq_true rfl) rfl ?_
      refine eg_goto 142 dX13_text_171 rfl ?_
      exact eg_sub [1, 2, 0] [(0, .ref l0), (2, .int l2), (3, .int (l3 + (1 : Int32)))] rfl (hrec h10 l0 l2 (l3 + (1 : Int32)) hF)
def fX13_text_L219 : Nat → eg_H → Nat → Int32 → Option (Nat × eg_H)
  | 0, _, _, _ => none
  | n + 1, h, l0, l3 =>
    if (4 : Int32) ≤ l3 then
      (some (l0, h))
    else
      (eg_gR h 13 18 l0).bind fun p2 =>
      (eg_gR h 13 19 l0).bind fun p4 =>
      (eg_aI h 100 p4 l3).bind fun v6 =>
      (eg_wI h 100 p2 l3 v6).bind fun h8 =>
      fX13_text_L219 n h8 l0 (l3 + (1 : Int32))
set_option maxRecDepth 20000 in
theorem fX13_text_L219_ok {h0 : eg_H} {Z : eg_C → State → Prop} {N S : Nat} : ∀ (n : Nat) (h : eg_H) (l0 : Nat) (l3 : Int32) (eE : Nat × eg_H), fX13_text_L219 n h l0 l3 = some eE → (hk0 : ∀ (l0 : Nat) (h : eg_H), eE = (l0, h) → eg_AW (RX13, cX13_text, 4, 396, none, "text", (some .int)) Z N S h0 242 [(0, .ref l0)] [] h) → eg_AW (RX13, cX13_text, 4, 396, none, "text", (some .int)) Z N S h0 219 [(0, .ref l0), (3, .int l3)] [] h := by
  intro n
  induction n with
  | zero => intro h l0 l3 eE hF; exact absurd hF (by intro q; cases q)
  | succ n ih =>
    intro h l0 l3 eE hF hk0
    have hrec := fun (h' : eg_H) (l0 : Nat) (l3 : Int32) hq => ih h' l0 l3 eE hq hk0
    refine eg_iload_n (i := 3) 1 dX13_text_219 rfl rfl ?_
    refine eg_iconst (v := (4 : Int32)) dX13_text_220 (by decide) ?_
    refine eg_ic_ge 242 dX13_text_221 rfl (fun c1 => ?_) (fun c1 => ?_)
    · replace hF := eg_it c1 hF
      exact eg_sub [0] [(0, .ref l0)] rfl (hk0 l0 h (Option.some.inj hF).symm)
    · replace hF := eg_if c1 hF
      refine eg_aload_n (i := 0) 0 dX13_text_224 rfl rfl ?_
      replace hF := eg_bind hF; obtain ⟨p2, e3, hF⟩ := hF
      refine eg_getR dX13_text_225 e3 (Nat.le_of_ble_eq_true rfl) (Nat.le_of_ble_eq_true rfl) rfl ew_1452 ?_
      refine eg_iload_n (i := 3) 1 dX13_text_228 rfl rfl ?_
      refine eg_aload_n (i := 0) 0 dX13_text_229 rfl rfl ?_
      replace hF := eg_bind hF; obtain ⟨p4, e5, hF⟩ := hF
      refine eg_getR dX13_text_230 e5 (Nat.le_of_ble_eq_true rfl) (Nat.le_of_ble_eq_true rfl) rfl ew_1453 ?_
      refine eg_iload_n (i := 3) 1 dX13_text_233 rfl rfl ?_
      replace hF := eg_bind hF; obtain ⟨v6, e7, hF⟩ := hF
      refine eg_iald dX13_text_234 e7 ?_
      replace hF := eg_bind hF; obtain ⟨h8, e9, hF⟩ := hF
      refine eg_iast dX13_text_235 e9 ?_
      refine eg_iinc (i := 3) (v := (l3 + (1 : Int32))) 1 [(3, .int (l3 + (1 : Int32))), (0, .ref l0)] dX13_text_236 rfl rfl (Nat.le_of_ble_eq_true rfl) rfl ?_
      refine eg_goto 219 dX13_text_239 rfl ?_
      exact eg_sub [1, 0] [(0, .ref l0), (3, .int (l3 + (1 : Int32)))] rfl (hrec h8 l0 (l3 + (1 : Int32)) hF)
def fX13_text_L244 : Nat → eg_H → Nat → Int32 → Option (Nat × eg_H)
  | 0, _, _, _ => none
  | n + 1, h, l0, l3 =>
    if (24 : Int32) ≤ l3 then
      (some (l0, h))
    else
      (eg_gR h 13 20 l0).bind fun p2 =>
      (eg_gR h 13 21 l0).bind fun p4 =>
      (eg_aI h 100 p4 l3).bind fun v6 =>
      (eg_wI h 100 p2 l3 v6).bind fun h8 =>
      fX13_text_L244 n h8 l0 (l3 + (1 : Int32))
set_option maxRecDepth 20000 in
theorem fX13_text_L244_ok {h0 : eg_H} {Z : eg_C → State → Prop} {N S : Nat} : ∀ (n : Nat) (h : eg_H) (l0 : Nat) (l3 : Int32) (eE : Nat × eg_H), fX13_text_L244 n h l0 l3 = some eE → (hk0 : ∀ (l0 : Nat) (h : eg_H), eE = (l0, h) → eg_AW (RX13, cX13_text, 4, 396, none, "text", (some .int)) Z N S h0 268 [(0, .ref l0)] [] h) → eg_AW (RX13, cX13_text, 4, 396, none, "text", (some .int)) Z N S h0 244 [(0, .ref l0), (3, .int l3)] [] h := by
  intro n
  induction n with
  | zero => intro h l0 l3 eE hF; exact absurd hF (by intro q; cases q)
  | succ n ih =>
    intro h l0 l3 eE hF hk0
    have hrec := fun (h' : eg_H) (l0 : Nat) (l3 : Int32) hq => ih h' l0 l3 eE hq hk0
    refine eg_iload_n (i := 3) 1 dX13_text_244 rfl rfl ?_
    refine eg_bipush (v := (24 : Int32)) dX13_text_245 (by decide) ?_
    refine eg_ic_ge 268 dX13_text_247 rfl (fun c1 => ?_) (fun c1 => ?_)
    · replace hF := eg_it c1 hF
      exact eg_sub [0] [(0, .ref l0)] rfl (hk0 l0 h (Option.some.inj hF).symm)
    · replace hF := eg_if c1 hF
      refine eg_aload_n (i := 0) 0 dX13_text_250 rfl rfl ?_
      replace hF := eg_bind hF; obtain ⟨p2, e3, hF⟩ := hF
      refine eg_getR dX13_text_251 e3 (Nat.le_of_ble_eq_true rfl) (Nat.le_of_ble_eq_true rfl) rfl ew_1454 ?_
      refine eg_iload_n (i := 3) 1 dX13_text_254 rfl rfl ?_
      refine eg_aload_n (i := 0) 0 dX13_text_255 rfl rfl ?_
      replace hF := eg_bind hF; obtain ⟨p4, e5, hF⟩ := hF
      refine eg_getR dX13_text_256 e5 (Nat.le_of_ble_eq_true rfl) (Nat.le_of_ble_eq_true rfl) rfl ew_1455 ?_
      refine eg_iload_n (i := 3) 1 dX13_text_259 rfl rfl ?_
      replace hF := eg_bind hF; obtain ⟨v6, e7, hF⟩ := hF
      refine eg_iald dX13_text_260 e7 ?_
      replace hF := eg_bind hF; obtain ⟨h8, e9, hF⟩ := hF
      refine eg_iast dX13_text_261 e9 ?_
      refine eg_iinc (i := 3) (v := (l3 + (1 : Int32))) 1 [(3, .int (l3 + (1 : Int32))), (0, .ref l0)] dX13_text_262 rfl rfl (Nat.le_of_ble_eq_true rfl) rfl ?_
      refine eg_goto 244 dX13_text_265 rfl ?_
      exact eg_sub [1, 0] [(0, .ref l0), (3, .int (l3 + (1 : Int32)))] rfl (hrec h8 l0 (l3 + (1 : Int32)) hF)
def fX13_text_L270 : Nat → eg_H → Nat → Int32 → Option (Nat × eg_H)
  | 0, _, _, _ => none
  | n + 1, h, l0, l3 =>
    if (12 : Int32) ≤ l3 then
      (some (l0, h))
    else
      (eg_gR h 13 22 l0).bind fun p2 =>
      (eg_gR h 13 23 l0).bind fun p4 =>
      (eg_aI h 100 p4 l3).bind fun v6 =>
      (eg_wI h 100 p2 l3 v6).bind fun h8 =>
      fX13_text_L270 n h8 l0 (l3 + (1 : Int32))
set_option maxRecDepth 20000 in
theorem fX13_text_L270_ok {h0 : eg_H} {Z : eg_C → State → Prop} {N S : Nat} : ∀ (n : Nat) (h : eg_H) (l0 : Nat) (l3 : Int32) (eE : Nat × eg_H), fX13_text_L270 n h l0 l3 = some eE → (hk0 : ∀ (l0 : Nat) (h : eg_H), eE = (l0, h) → eg_AW (RX13, cX13_text, 4, 396, none, "text", (some .int)) Z N S h0 294 [(0, .ref l0)] [] h) → eg_AW (RX13, cX13_text, 4, 396, none, "text", (some .int)) Z N S h0 270 [(0, .ref l0), (3, .int l3)] [] h := by
  intro n
  induction n with
  | zero => intro h l0 l3 eE hF; exact absurd hF (by intro q; cases q)
  | succ n ih =>
    intro h l0 l3 eE hF hk0
    have hrec := fun (h' : eg_H) (l0 : Nat) (l3 : Int32) hq => ih h' l0 l3 eE hq hk0
    refine eg_iload_n (i := 3) 1 dX13_text_270 rfl rfl ?_
    refine eg_bipush (v := (12 : Int32)) dX13_text_271 (by decide) ?_
    refine eg_ic_ge 294 dX13_text_273 rfl (fun c1 => ?_) (fun c1 => ?_)
    · replace hF := eg_it c1 hF
      exact eg_sub [0] [(0, .ref l0)] rfl (hk0 l0 h (Option.some.inj hF).symm)
    · replace hF := eg_if c1 hF
      refine eg_aload_n (i := 0) 0 dX13_text_276 rfl rfl ?_
      replace hF := eg_bind hF; obtain ⟨p2, e3, hF⟩ := hF
      refine eg_getR dX13_text_277 e3 (Nat.le_of_ble_eq_true rfl) (Nat.le_of_ble_eq_true rfl) rfl ew_1456 ?_
      refine eg_iload_n (i := 3) 1 dX13_text_280 rfl rfl ?_
      refine eg_aload_n (i := 0) 0 dX13_text_281 rfl rfl ?_
      replace hF := eg_bind hF; obtain ⟨p4, e5, hF⟩ := hF
      refine eg_getR dX13_text_282 e5 (Nat.le_of_ble_eq_true rfl) (Nat.le_of_ble_eq_true rfl) rfl ew_1457 ?_
      refine eg_iload_n (i := 3) 1 dX13_text_285 rfl rfl ?_
      replace hF := eg_bind hF; obtain ⟨v6, e7, hF⟩ := hF
      refine eg_iald dX13_text_286 e7 ?_
      replace hF := eg_bind hF; obtain ⟨h8, e9, hF⟩ := hF
      refine eg_iast dX13_text_287 e9 ?_
      refine eg_iinc (i := 3) (v := (l3 + (1 : Int32))) 1 [(3, .int (l3 + (1 : Int32))), (0, .ref l0)] dX13_text_288 rfl rfl (Nat.le_of_ble_eq_true rfl) rfl ?_
      refine eg_goto 270 dX13_text_291 rfl ?_
      exact eg_sub [1, 0] [(0, .ref l0), (3, .int (l3 + (1 : Int32)))] rfl (hrec h8 l0 (l3 + (1 : Int32)) hF)
def fX13_text_j43 (h : eg_H) (l0 : Nat) (l1 : Int32) : Option (Int32 × eg_H) :=
  (fX13_fault h l0 l1).bind fun ⟨v2, h1⟩ =>
  if v2 = (-1 : Int32) then
    ((eg_gI h1 13 6 l0).bind fun v5 =>
    (eg_pI h1 13 6 l0 (0 : Int32)).bind fun h7 =>
    if l1 = (2 : Int32) then
      ((fX13_text_L71 eg_F h7 l0 (0 : Int32)).bind fun e =>
      match e with
      | (p12, h13) =>
        (eg_gR h13 13 31 p12).bind fun p14 =>
        (eg_gI h13 13 32 p12).bind fun v16 =>
        (eg_gI h13 13 33 p12).bind fun v18 =>
        (eg_wI h13 100 p14 v16 v18).bind fun h20 =>
        (eg_gI h20 13 32 p12).bind fun v22 =>
        (eg_pI h20 13 32 p12 (v22 + (1 : Int32))).bind fun h24 =>
        (eg_gI h24 13 32 p12).bind fun v26 =>
        some ((v26 - (1 : Int32)), h24))
    else
      if l1 = (1 : Int32) then
        ((fX13_text_L142 eg_F h7 l0 v5 (0 : Int32)).bind fun e =>
        match e with
        | (p32, v33, h34) =>
          (eg_gR h34 13 3 p32).bind fun p35 =>
          (eg_gI h34 13 7 p32).bind fun v37 =>
          (eg_wI h34 100 p35 v37 v33).bind fun h39 =>
          (eg_gI h39 13 7 p32).bind fun v41 =>
          (eg_pI h39 13 7 p32 (v41 + (1 : Int32))).bind fun h43 =>
          (eg_gI h43 13 7 p32).bind fun v45 =>
          some ((v45 - (1 : Int32)), h43))
      else
        (eg_gI h7 13 25 l0).bind fun v48 =>
        (eg_pI h7 13 24 l0 v48).bind fun h50 =>
        (eg_gI h50 13 27 l0).bind fun v52 =>
        (eg_pI h50 13 26 l0 v52).bind fun h54 =>
        (fX13_text_L219 eg_F h54 l0 (0 : Int32)).bind fun e =>
        match e with
        | (p58, h59) =>
          (fX13_text_L244 eg_F h59 p58 (0 : Int32)).bind fun e =>
          match e with
          | (p62, h63) =>
            (fX13_text_L270 eg_F h63 p62 (0 : Int32)).bind fun e =>
            match e with
            | (p66, h67) =>
              (eg_pI h67 13 34 p66 (-1 : Int32)).bind fun h68 =>
              (eg_pI h68 13 49 p66 (0 : Int32)).bind fun h70 =>
              (eg_pI h70 13 65 p66 (0 : Int32)).bind fun h72 =>
              (eg_pI h72 13 72 p66 (0 : Int32)).bind fun h74 =>
              (eg_pZ h74 13 78 p66 (0 : Int32)).bind fun h76 =>
              (eg_gI h76 13 24 p66).bind fun v78 =>
              some (v78, h76))
  else
    some ((-1 : Int32), h1)
set_option maxRecDepth 20000 in
theorem fX13_text_j43_ok {h0 : eg_H} (h : eg_H) (l0 : Nat) (l1 : Int32) {rE : Int32} {hE : eg_H} (hF : fX13_text_j43 h l0 l1 = some (rE, hE)) : eg_AW (RX13, cX13_text, 4, 396, none, "text", (some .int)) (eg_Zm (some (.int rE)) hE h0) (eg_nc hE) (eg_ns hE) h0 43 [(0, .ref l0), (1, .int l1)] [] h := by
  refine eg_aload_n (i := 0) 0 dX13_text_43 rfl rfl ?_
  refine eg_iload_n (i := 1) 1 dX13_text_44 rfl rfl ?_
  replace hF := eg_bind hF; obtain ⟨⟨v2, h1⟩, e3, hF⟩ := hF
  refine eg_callV (c := 13) (n := 1) [.int l1] dX13_text_45 (mX13_fault e3) rfl (fX13_fault_O e3) (Nat.le_of_ble_eq_true rfl) rfl ew_1867 ew_1693 ew_1694 ew_110 ew_1695 hy_X13_fault rfl (Nat.le_of_ble_eq_true rfl) (Nat.le_of_ble_eq_true rfl) (Nat.le_of_ble_eq_true rfl) ?_
  refine eg_iconst (v := (-1 : Int32)) dX13_text_48 (by decide) ?_
  refine eg_ic_eq 54 dX13_text_49 rfl (fun c4 => ?_) (fun c4 => ?_)
  · replace hF := eg_it c4 hF
    refine eg_aload_n (i := 0) 0 dX13_text_54 rfl rfl ?_
    replace hF := eg_bind hF; obtain ⟨v5, e6, hF⟩ := hF
    refine eg_getI dX13_text_55 e6 (Nat.le_of_ble_eq_true rfl) (Nat.le_of_ble_eq_true rfl) rfl ew_1440 ?_
    refine eg_istore_n (i := 2) [(2, .int v5), (0, .ref l0), (1, .int l1)] dX13_text_58 rfl (Nat.le_of_ble_eq_true rfl) rfl ?_
    refine eg_aload_n (i := 0) 1 dX13_text_59 rfl rfl ?_
    refine eg_iconst (v := (0 : Int32)) dX13_text_60 (by decide) ?_
    replace hF := eg_bind hF; obtain ⟨h7, e8, hF⟩ := hF
    refine eg_putI dX13_text_61 e8 (Nat.le_of_ble_eq_true rfl) (Nat.le_of_ble_eq_true rfl) rfl ew_1440 (Or.inl rfl) ?_
    refine eg_iload_n (i := 1) 2 dX13_text_64 rfl rfl ?_
    refine eg_iconst (v := (2 : Int32)) dX13_text_65 (by decide) ?_
    refine eg_ic_ne 135 dX13_text_66 rfl (fun c9 => ?_) (fun c9 => ?_)
    · replace hF := eg_it c9 hF
      refine eg_iconst (v := (0 : Int32)) dX13_text_69 (by decide) ?_
      refine eg_istore_n (i := 3) [(3, .int (0 : Int32)), (2, .int v5), (0, .ref l0), (1, .int l1)] dX13_text_70 rfl (Nat.le_of_ble_eq_true rfl) rfl ?_
      replace hF := eg_bind hF; obtain ⟨x11, e10, hF⟩ := hF
      refine eg_sub [2, 0] [(0, .ref l0), (3, .int (0 : Int32))] rfl (fX13_text_L71_ok eg_F h7 l0 (0 : Int32) x11 e10 ?_)
      · intro p12 h13 e28
        subst e28
        refine eg_aload_n (i := 0) 0 dX13_text_105 rfl rfl ?_
        replace hF := eg_bind hF; obtain ⟨p14, e15, hF⟩ := hF
        refine eg_getR dX13_text_106 e15 (Nat.le_of_ble_eq_true rfl) (Nat.le_of_ble_eq_true rfl) rfl ew_1465 ?_
        refine eg_aload_n (i := 0) 0 dX13_text_109 rfl rfl ?_
        replace hF := eg_bind hF; obtain ⟨v16, e17, hF⟩ := hF
        refine eg_getI dX13_text_110 e17 (Nat.le_of_ble_eq_true rfl) (Nat.le_of_ble_eq_true rfl) rfl ew_1466 ?_
        refine eg_aload_n (i := 0) 0 dX13_text_113 rfl rfl ?_
        replace hF := eg_bind hF; obtain ⟨v18, e19, hF⟩ := hF
        refine eg_getI dX13_text_114 e19 (Nat.le_of_ble_eq_true rfl) (Nat.le_of_ble_eq_true rfl) rfl ew_1467 ?_
        replace hF := eg_bind hF; obtain ⟨h20, e21, hF⟩ := hF
        refine eg_iast dX13_text_117 e21 ?_
        refine eg_aload_n (i := 0) 0 dX13_text_118 rfl rfl ?_
        refine eg_dup dX13_text_119 rfl ?_
        replace hF := eg_bind hF; obtain ⟨v22, e23, hF⟩ := hF
        refine eg_getI dX13_text_120 e23 (Nat.le_of_ble_eq_true rfl) (Nat.le_of_ble_eq_true rfl) rfl ew_1466 ?_
        refine eg_iconst (v := (1 : Int32)) dX13_text_123 (by decide) ?_
        refine eg_iadd dX13_text_124 ?_
        replace hF := eg_bind hF; obtain ⟨h24, e25, hF⟩ := hF
        refine eg_putI dX13_text_125 e25 (Nat.le_of_ble_eq_true rfl) (Nat.le_of_ble_eq_true rfl) rfl ew_1466 (Or.inl rfl) ?_
        refine eg_aload_n (i := 0) 0 dX13_text_128 rfl rfl ?_
        replace hF := eg_bind hF; obtain ⟨v26, e27, hF⟩ := hF
        refine eg_getI dX13_text_129 e27 (Nat.le_of_ble_eq_true rfl) (Nat.le_of_ble_eq_true rfl) rfl ew_1466 ?_
        refine eg_iconst (v := (1 : Int32)) dX13_text_132 (by decide) ?_
        refine eg_isub dX13_text_133 ?_
        exact eg_iretE dX13_text_134 hF
    · replace hF := eg_if c9 hF
      refine eg_iload_n (i := 1) 2 dX13_text_135 rfl rfl ?_
      refine eg_iconst (v := (1 : Int32)) dX13_text_136 (by decide) ?_
      refine eg_ic_ne 201 dX13_text_137 rfl (fun c29 => ?_) (fun c29 => ?_)
      · replace hF := eg_it c29 hF
        refine eg_iconst (v := (0 : Int32)) dX13_text_140 (by decide) ?_
        refine eg_istore_n (i := 3) [(3, .int (0 : Int32)), (2, .int v5), (0, .ref l0), (1, .int l1)] dX13_text_141 rfl (Nat.le_of_ble_eq_true rfl) rfl ?_
        replace hF := eg_bind hF; obtain ⟨x31, e30, hF⟩ := hF
        refine eg_sub [2, 1, 0] [(0, .ref l0), (2, .int v5), (3, .int (0 : Int32))] rfl (fX13_text_L142_ok eg_F h7 l0 v5 (0 : Int32) x31 e30 ?_)
        · intro p32 v33 h34 e47
          subst e47
          refine eg_aload_n (i := 0) 0 dX13_text_174 rfl rfl ?_
          replace hF := eg_bind hF; obtain ⟨p35, e36, hF⟩ := hF
          refine eg_getR dX13_text_175 e36 (Nat.le_of_ble_eq_true rfl) (Nat.le_of_ble_eq_true rfl) rfl ew_1437 ?_
          refine eg_aload_n (i := 0) 0 dX13_text_178 rfl rfl ?_
          replace hF := eg_bind hF; obtain ⟨v37, e38, hF⟩ := hF
          refine eg_getI dX13_text_179 e38 (Nat.le_of_ble_eq_true rfl) (Nat.le_of_ble_eq_true rfl) rfl ew_1441 ?_
          refine eg_iload_n (i := 2) 1 dX13_text_182 rfl rfl ?_
          replace hF := eg_bind hF; obtain ⟨h39, e40, hF⟩ := hF
          refine eg_iast dX13_text_183 e40 ?_
          refine eg_aload_n (i := 0) 0 dX13_text_184 rfl rfl ?_
          refine eg_dup dX13_text_185 rfl ?_
          replace hF := eg_bind hF; obtain ⟨v41, e42, hF⟩ := hF
          refine eg_getI dX13_text_186 e42 (Nat.le_of_ble_eq_true rfl) (Nat.le_of_ble_eq_true rfl) rfl ew_1441 ?_
          refine eg_iconst (v := (1 : Int32)) dX13_text_189 (by decide) ?_
          refine eg_iadd dX13_text_190 ?_
          replace hF := eg_bind hF; obtain ⟨h43, e44, hF⟩ := hF
          refine eg_putI dX13_text_191 e44 (Nat.le_of_ble_eq_true rfl) (Nat.le_of_ble_eq_true rfl) rfl ew_1441 (Or.inl rfl) ?_
          refine eg_aload_n (i := 0) 0 dX13_text_194 rfl rfl ?_
          replace hF := eg_bind hF; obtain ⟨v45, e46, hF⟩ := hF
          refine eg_getI dX13_text_195 e46 (Nat.le_of_ble_eq_true rfl) (Nat.le_of_ble_eq_true rfl) rfl ew_1441 ?_
          refine eg_iconst (v := (1 : Int32)) dX13_text_198 (by decide) ?_
          refine eg_isub dX13_text_199 ?_
          exact eg_iretE dX13_text_200 hF
      · replace hF := eg_if c29 hF
        refine eg_aload_n (i := 0) 1 dX13_text_201 rfl rfl ?_
        refine eg_aload_n (i := 0) 1 dX13_text_202 rfl rfl ?_
        replace hF := eg_bind hF; obtain ⟨v48, e49, hF⟩ := hF
        refine eg_getI dX13_text_203 e49 (Nat.le_of_ble_eq_true rfl) (Nat.le_of_ble_eq_true rfl) rfl ew_1459 ?_
        replace hF := eg_bind hF; obtain ⟨h50, e51, hF⟩ := hF
        refine eg_putI dX13_text_206 e51 (Nat.le_of_ble_eq_true rfl) (Nat.le_of_ble_eq_true rfl) rfl ew_1458 (Or.inl rfl) ?_
        refine eg_aload_n (i := 0) 1 dX13_text_209 rfl rfl ?_
        refine eg_aload_n (i := 0) 1 dX13_text_210 rfl rfl ?_
        replace hF := eg_bind hF; obtain ⟨v52, e53, hF⟩ := hF
        refine eg_getI dX13_text_211 e53 (Nat.le_of_ble_eq_true rfl) (Nat.le_of_ble_eq_true rfl) rfl ew_1461 ?_
        replace hF := eg_bind hF; obtain ⟨h54, e55, hF⟩ := hF
        refine eg_putI dX13_text_214 e55 (Nat.le_of_ble_eq_true rfl) (Nat.le_of_ble_eq_true rfl) rfl ew_1460 (Or.inl rfl) ?_
        refine eg_iconst (v := (0 : Int32)) dX13_text_217 (by decide) ?_
        refine eg_istore_n (i := 3) [(3, .int (0 : Int32)), (2, .int v5), (0, .ref l0), (1, .int l1)] dX13_text_218 rfl (Nat.le_of_ble_eq_true rfl) rfl ?_
        replace hF := eg_bind hF; obtain ⟨x57, e56, hF⟩ := hF
        refine eg_sub [2, 0] [(0, .ref l0), (3, .int (0 : Int32))] rfl (fX13_text_L219_ok eg_F h54 l0 (0 : Int32) x57 e56 ?_)
        · intro p58 h59 e82
          subst e82
          refine eg_iconst (v := (0 : Int32)) dX13_text_242 (by decide) ?_
          refine eg_istore_n (i := 3) [(3, .int (0 : Int32)), (0, .ref p58)] dX13_text_243 rfl (Nat.le_of_ble_eq_true rfl) rfl ?_
          replace hF := eg_bind hF; obtain ⟨x61, e60, hF⟩ := hF
          refine eg_sub [1, 0] [(0, .ref p58), (3, .int (0 : Int32))] rfl (fX13_text_L244_ok eg_F h59 p58 (0 : Int32) x61 e60 ?_)
          · intro p62 h63 e81
            subst e81
            refine eg_iconst (v := (0 : Int32)) dX13_text_268 (by decide) ?_
            refine eg_istore_n (i := 3) [(3, .int (0 : Int32)), (0, .ref p62)] dX13_text_269 rfl (Nat.le_of_ble_eq_true rfl) rfl ?_
            replace hF := eg_bind hF; obtain ⟨x65, e64, hF⟩ := hF
            refine eg_sub [1, 0] [(0, .ref p62), (3, .int (0 : Int32))] rfl (fX13_text_L270_ok eg_F h63 p62 (0 : Int32) x65 e64 ?_)
            · intro p66 h67 e80
              subst e80
              refine eg_aload_n (i := 0) 0 dX13_text_294 rfl rfl ?_
              refine eg_iconst (v := (-1 : Int32)) dX13_text_295 (by decide) ?_
              replace hF := eg_bind hF; obtain ⟨h68, e69, hF⟩ := hF
              refine eg_putI dX13_text_296 e69 (Nat.le_of_ble_eq_true rfl) (Nat.le_of_ble_eq_true rfl) rfl ew_1468 (Or.inl rfl) ?_
              refine eg_aload_n (i := 0) 0 dX13_text_299 rfl rfl ?_
              refine eg_iconst (v := (0 : Int32)) dX13_text_300 (by decide) ?_
              replace hF := eg_bind hF; obtain ⟨h70, e71, hF⟩ := hF
              refine eg_putI dX13_text_301 e71 (Nat.le_of_ble_eq_true rfl) (Nat.le_of_ble_eq_true rfl) rfl ew_1483 (Or.inl rfl) ?_
              refine eg_aload_n (i := 0) 0 dX13_text_304 rfl rfl ?_
              refine eg_iconst (v := (0 : Int32)) dX13_text_305 (by decide) ?_
              replace hF := eg_bind hF; obtain ⟨h72, e73, hF⟩ := hF
              refine eg_putI dX13_text_306 e73 (Nat.le_of_ble_eq_true rfl) (Nat.le_of_ble_eq_true rfl) rfl ew_1499 (Or.inl rfl) ?_
              refine eg_aload_n (i := 0) 0 dX13_text_309 rfl rfl ?_
              refine eg_iconst (v := (0 : Int32)) dX13_text_310 (by decide) ?_
              replace hF := eg_bind hF; obtain ⟨h74, e75, hF⟩ := hF
              refine eg_putI dX13_text_311 e75 (Nat.le_of_ble_eq_true rfl) (Nat.le_of_ble_eq_true rfl) rfl ew_1506 (Or.inl rfl) ?_
              refine eg_aload_n (i := 0) 0 dX13_text_314 rfl rfl ?_
              refine eg_iconst (v := (0 : Int32)) dX13_text_315 (by decide) ?_
              replace hF := eg_bind hF; obtain ⟨h76, e77, hF⟩ := hF
              refine eg_putZ dX13_text_316 e77 (Nat.le_of_ble_eq_true rfl) (Nat.le_of_ble_eq_true rfl) rfl ew_1512 rfl ?_
              refine eg_aload_n (i := 0) 0 dX13_text_319 rfl rfl ?_
              replace hF := eg_bind hF; obtain ⟨v78, e79, hF⟩ := hF
              refine eg_getI dX13_text_320 e79 (Nat.le_of_ble_eq_true rfl) (Nat.le_of_ble_eq_true rfl) rfl ew_1458 ?_
              exact eg_iretE dX13_text_323 hF
  · replace hF := eg_if c4 hF
    refine eg_iconst (v := (-1 : Int32)) dX13_text_52 (by decide) ?_
    exact eg_iretE dX13_text_53 hF
def fX13_text_j30 (h : eg_H) (l0 : Nat) (l1 : Int32) : Option (Int32 × eg_H) :=
  if l1 = (2 : Int32) then
    ((eg_gI h 13 32 l0).bind fun v2 =>
    if v2 = (4 : Int32) then
      (some ((-1 : Int32), h))
    else
      fX13_text_j43 h l0 l1)
  else
    fX13_text_j43 h l0 l1
set_option maxRecDepth 20000 in
theorem fX13_text_j30_ok {h0 : eg_H} (h : eg_H) (l0 : Nat) (l1 : Int32) {rE : Int32} {hE : eg_H} (hF : fX13_text_j30 h l0 l1 = some (rE, hE)) : eg_AW (RX13, cX13_text, 4, 396, none, "text", (some .int)) (eg_Zm (some (.int rE)) hE h0) (eg_nc hE) (eg_ns hE) h0 30 [(0, .ref l0), (1, .int l1)] [] h := by
  refine eg_iload_n (i := 1) 1 dX13_text_30 rfl rfl ?_
  refine eg_iconst (v := (2 : Int32)) dX13_text_31 (by decide) ?_
  refine eg_ic_ne 43 dX13_text_32 rfl (fun c1 => ?_) (fun c1 => ?_)
  · replace hF := eg_it c1 hF
    refine eg_aload_n (i := 0) 0 dX13_text_35 rfl rfl ?_
    replace hF := eg_bind hF; obtain ⟨v2, e3, hF⟩ := hF
    refine eg_getI dX13_text_36 e3 (Nat.le_of_ble_eq_true rfl) (Nat.le_of_ble_eq_true rfl) rfl ew_1466 ?_
    refine eg_iconst (v := (4 : Int32)) dX13_text_39 (by decide) ?_
    refine eg_ic_eq 52 dX13_text_40 rfl (fun c4 => ?_) (fun c4 => ?_)
    · replace hF := eg_it c4 hF
      refine eg_iconst (v := (-1 : Int32)) dX13_text_52 (by decide) ?_
      exact eg_iretE dX13_text_53 hF
    · replace hF := eg_if c4 hF
      exact (fX13_text_j43_ok h l0 l1 hF)
  · replace hF := eg_if c1 hF
    exact (fX13_text_j43_ok h l0 l1 hF)
def fX13_text (h : eg_H) (l0 : Nat) (l1 : Int32) : Option (Int32 × eg_H) :=
  if eg_isO h 13 l0 then (
    (eg_pI h 13 0 l0 (0 : Int32)).bind fun h1 =>
    (fX13_isIn h1 l1.toInt64 (0 : Int64) (2 : Int64)).bind fun ⟨v4, h3⟩ =>
    if v4 = 0 then
      (some ((-1 : Int32), h3))
    else
      if l1 = (1 : Int32) then
        ((eg_gI h3 13 7 l0).bind fun v8 =>
        if v8 = (4 : Int32) then
          (some ((-1 : Int32), h3))
        else
          fX13_text_j30 h3 l0 l1)
      else
        fX13_text_j30 h3 l0 l1) else none
theorem fX13_text_O {h : eg_H} {l0 : Nat} {l1 : Int32} {rE : Int32} {hE : eg_H} (hF : fX13_text h l0 l1 = some (rE, hE)) : eg_isO h 13 l0 := (eg_ifn hF).1
set_option maxRecDepth 20000 in
theorem mX13_text {h : eg_H} {l0 : Nat} {l1 : Int32} {rE : Int32} {hE : eg_H} (hF : fX13_text h l0 l1 = some (rE, hE)) : eg_Met yX13_text cX13_text 4 (some .int) 396 [.ref l0, .int l1] h (some (.int rE)) hE := by
  refine eg_enter rfl (Nat.le_of_ble_eq_true rfl) ?_
  show eg_AW (RX13, cX13_text, 4, 396, none, "text", (some .int)) (eg_Zm (some (.int rE)) hE h) (eg_nc hE) (eg_ns hE) h 0 [(0, .ref l0), (1, .int l1)] [] h
  replace hF := (eg_ifn hF).2
  refine eg_aload_n (i := 0) 0 dX13_text_0 rfl rfl ?_
  refine eg_iconst (v := (0 : Int32)) dX13_text_1 (by decide) ?_
  replace hF := eg_bind hF; obtain ⟨h1, e2, hF⟩ := hF
  refine eg_putI dX13_text_2 e2 (Nat.le_of_ble_eq_true rfl) (Nat.le_of_ble_eq_true rfl) rfl ew_1434 (Or.inl rfl) ?_
  refine eg_iload_n (i := 1) 1 dX13_text_5 rfl rfl ?_
  refine eg_i2l dX13_text_6 ?_
  refine eg_lconst (v := (0 : Int64)) dX13_text_7 (by decide) ?_
  refine eg_ldc2 (v := (2 : Int64)) dX13_text_8 ew_1696 ?_
  replace hF := eg_bind hF; obtain ⟨⟨v4, h3⟩, e5, hF⟩ := hF
  refine eg_callS (n := 3) [.long l1.toInt64, .long (0 : Int64), .long (2 : Int64)] dX13_text_11 (mX13_isIn e5) rfl ew_1697 ew_1698 ew_110 ew_1699 hy_X13_isIn.2 rfl (Nat.le_of_ble_eq_true rfl) (Nat.le_of_ble_eq_true rfl) (Nat.le_of_ble_eq_true rfl) ?_
  refine eg_if_eq 52 dX13_text_14 rfl (fun c6 => ?_) (fun c6 => ?_)
  · replace hF := eg_it c6 hF
    refine eg_iconst (v := (-1 : Int32)) dX13_text_52 (by decide) ?_
    exact eg_iretE dX13_text_53 hF
  · replace hF := eg_if c6 hF
    refine eg_iload_n (i := 1) 1 dX13_text_17 rfl rfl ?_
    refine eg_iconst (v := (1 : Int32)) dX13_text_18 (by decide) ?_
    refine eg_ic_ne 30 dX13_text_19 rfl (fun c7 => ?_) (fun c7 => ?_)
    · replace hF := eg_it c7 hF
      refine eg_aload_n (i := 0) 0 dX13_text_22 rfl rfl ?_
      replace hF := eg_bind hF; obtain ⟨v8, e9, hF⟩ := hF
      refine eg_getI dX13_text_23 e9 (Nat.le_of_ble_eq_true rfl) (Nat.le_of_ble_eq_true rfl) rfl ew_1441 ?_
      refine eg_iconst (v := (4 : Int32)) dX13_text_26 (by decide) ?_
      refine eg_ic_eq 52 dX13_text_27 rfl (fun c10 => ?_) (fun c10 => ?_)
      · replace hF := eg_it c10 hF
        refine eg_iconst (v := (-1 : Int32)) dX13_text_52 (by decide) ?_
        exact eg_iretE dX13_text_53 hF
      · replace hF := eg_if c10 hF
        exact (fX13_text_j30_ok h3 l0 l1 hF)
    · replace hF := eg_if c7 hF
      exact (fX13_text_j30_ok h3 l0 l1 hF)
