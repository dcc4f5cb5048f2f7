theorem dX13_isFilm_0 : decode cX13_isFilm 0 = .ok (.iload_n 1, 1) := by decide +kernel
theorem dX13_isFilm_1 : decode cX13_isFilm 1 = .ok (.ifCond .lt 15, 3) := by decide +kernel
theorem dX13_isFilm_4 : decode cX13_isFilm 4 = .ok (.iload_n 1, 1) := by decide +kernel
theorem dX13_isFilm_5 : decode cX13_isFilm 5 = .ok (.aload_n 0, 1) := by decide +kernel
theorem dX13_isFilm_6 : decode cX13_isFilm 6 = .ok (.getfield 330, 3) := by decide +kernel
theorem dX13_isFilm_9 : decode cX13_isFilm 9 = .ok (.if_icmp .ge 7, 3) := by decide +kernel
theorem dX13_isFilm_12 : decode cX13_isFilm 12 = .ok (.iconst 1, 1) := by decide +kernel
theorem dX13_isFilm_13 : decode cX13_isFilm 13 = .ok (.goto 4, 3) := by decide +kernel
theorem dX13_isFilm_16 : decode cX13_isFilm 16 = .ok (.iconst 0, 1) := by decide +kernel
theorem dX13_isFilm_17 : decode cX13_isFilm 17 = .ok (.ireturn, 1) := by decide +kernel
def fX13_isFilm (h : eg_H) (l0 : Nat) (l1 : Int32) : Option (Int32 × eg_H) :=
  if eg_isO h 13 l0 then (
    if l1 < 0 then
      (some ((0 : Int32), h))
    else
      (eg_gI h 13 32 l0).bind fun v2 =>
      if v2 ≤ l1 then
        (some ((0 : Int32), h))
      else
        some ((1 : Int32), h)) else none
theorem fX13_isFilm_O {h : eg_H} {l0 : Nat} {l1 : Int32} {rE : Int32} {hE : eg_H} (hF : fX13_isFilm h l0 l1 = some (rE, hE)) : eg_isO h 13 l0 := (eg_ifn hF).1
set_option maxRecDepth 20000 in
theorem mX13_isFilm {h : eg_H} {l0 : Nat} {l1 : Int32} {rE : Int32} {hE : eg_H} (hF : fX13_isFilm h l0 l1 = some (rE, hE)) : eg_Met yX13_isFilm cX13_isFilm 2 (some .boolean) 1 [.ref l0, .int l1] h (some (.int rE)) hE := by
  refine eg_enter rfl (Nat.le_of_ble_eq_true rfl) ?_
  show eg_AW (RX13, cX13_isFilm, 2, 1, none, "isFilm", (some .boolean)) (eg_Zm (some (.int rE)) hE h) (eg_nc hE) (eg_ns hE) h 0 [(0, .ref l0), (1, .int l1)] [] h
  replace hF := (eg_ifn hF).2
  refine eg_iload_n (i := 1) 1 dX13_isFilm_0 rfl rfl ?_
  refine eg_if_lt 16 dX13_isFilm_1 rfl (fun c1 => ?_) (fun c1 => ?_)
  · replace hF := eg_it c1 hF
    refine eg_iconst (v := (0 : Int32)) dX13_isFilm_16 (by decide) ?_
    exact eg_zretE dX13_isFilm_17 (Or.inl rfl) hF
  · replace hF := eg_if c1 hF
    refine eg_iload_n (i := 1) 1 dX13_isFilm_4 rfl rfl ?_
    refine eg_aload_n (i := 0) 0 dX13_isFilm_5 rfl rfl ?_
    replace hF := eg_bind hF; obtain ⟨v2, e3, hF⟩ := hF
    refine eg_getI dX13_isFilm_6 e3 (Nat.le_of_ble_eq_true rfl) (Nat.le_of_ble_eq_true rfl) rfl ew_1466 ?_
    refine eg_ic_ge 16 dX13_isFilm_9 rfl (fun c4 => ?_) (fun c4 => ?_)
    · replace hF := eg_it c4 hF
      refine eg_iconst (v := (0 : Int32)) dX13_isFilm_16 (by decide) ?_
      exact eg_zretE dX13_isFilm_17 (Or.inl rfl) hF
    · replace hF := eg_if c4 hF
      refine eg_iconst (v := (1 : Int32)) dX13_isFilm_12 (by decide) ?_
      refine eg_goto 17 dX13_isFilm_13 rfl ?_
      exact eg_zretE dX13_isFilm_17 (Or.inr rfl) hF
theorem dX13_turnsOf_0 : decode cX13_turnsOf 0 = .ok (.iconst 0, 1) := by decide +kernel
theorem dX13_turnsOf_1 : decode cX13_turnsOf 1 = .ok (.istore_n 2, 1) := by decide +kernel
theorem dX13_turnsOf_2 : decode cX13_turnsOf 2 = .ok (.iconst 1, 1) := by decide +kernel
theorem dX13_turnsOf_3 : decode cX13_turnsOf 3 = .ok (.istore_n 3, 1) := by decide +kernel
theorem dX13_turnsOf_4 : decode cX13_turnsOf 4 = .ok (.iload_n 3, 1) := by decide +kernel
theorem dX13_turnsOf_5 : decode cX13_turnsOf 5 = .ok (.aload_n 0, 1) := by decide +kernel
theorem dX13_turnsOf_6 : decode cX13_turnsOf 6 = .ok (.getfield 61, 3) := by decide +kernel
theorem dX13_turnsOf_9 : decode cX13_turnsOf 9 = .ok (.iload_n 1, 1) := by decide +kernel
theorem dX13_turnsOf_10 : decode cX13_turnsOf 10 = .ok (.iaload, 1) := by decide +kernel
theorem dX13_turnsOf_11 : decode cX13_turnsOf 11 = .ok (.iconst 1, 1) := by decide +kernel
theorem dX13_turnsOf_12 : decode cX13_turnsOf 12 = .ok (.isub, 1) := by decide +kernel
theorem dX13_turnsOf_13 : decode cX13_turnsOf 13 = .ok (.if_icmp .ge 147, 3) := by decide +kernel
theorem dX13_turnsOf_16 : decode cX13_turnsOf 16 = .ok (.aload_n 0, 1) := by decide +kernel
theorem dX13_turnsOf_17 : decode cX13_turnsOf 17 = .ok (.getfield 55, 3) := by decide +kernel
theorem dX13_turnsOf_20 : decode cX13_turnsOf 20 = .ok (.bipush 24, 2) := by decide +kernel
theorem dX13_turnsOf_22 : decode cX13_turnsOf 22 = .ok (.iload_n 1, 1) := by decide +kernel
theorem dX13_turnsOf_23 : decode cX13_turnsOf 23 = .ok (.imul, 1) := by decide +kernel
theorem dX13_turnsOf_24 : decode cX13_turnsOf 24 = .ok (.iload_n 3, 1) := by decide +kernel
theorem dX13_turnsOf_25 : decode cX13_turnsOf 25 = .ok (.iadd, 1) := by decide +kernel
theorem dX13_turnsOf_26 : decode cX13_turnsOf 26 = .ok (.iaload, 1) := by decide +kernel
theorem dX13_turnsOf_27 : decode cX13_turnsOf 27 = .ok (.istore 4, 2) := by decide +kernel
theorem dX13_turnsOf_29 : decode cX13_turnsOf 29 = .ok (.aload_n 0, 1) := by decide +kernel
theorem dX13_turnsOf_30 : decode cX13_turnsOf 30 = .ok (.getfield 55, 3) := by decide +kernel
theorem dX13_turnsOf_33 : decode cX13_turnsOf 33 = .ok (.bipush 24, 2) := by decide +kernel
theorem dX13_turnsOf_35 : decode cX13_turnsOf 35 = .ok (.iload_n 1, 1) := by decide +kernel
theorem dX13_turnsOf_36 : decode cX13_turnsOf 36 = .ok (.imul, 1) := by decide +kernel
theorem dX13_turnsOf_37 : decode cX13_turnsOf 37 = .ok (.iload_n 3, 1) := by decide +kernel
theorem dX13_turnsOf_38 : decode cX13_turnsOf 38 = .ok (.iadd, 1) := by decide +kernel
theorem dX13_turnsOf_39 : decode cX13_turnsOf 39 = .ok (.iconst 1, 1) := by decide +kernel
theorem dX13_turnsOf_40 : decode cX13_turnsOf 40 = .ok (.isub, 1) := by decide +kernel
theorem dX13_turnsOf_41 : decode cX13_turnsOf 41 = .ok (.iaload, 1) := by decide +kernel
theorem dX13_turnsOf_42 : decode cX13_turnsOf 42 = .ok (.istore 5, 2) := by decide +kernel
theorem dX13_turnsOf_44 : decode cX13_turnsOf 44 = .ok (.iload_n 3, 1) := by decide +kernel
theorem dX13_turnsOf_45 : decode cX13_turnsOf 45 = .ok (.iconst 1, 1) := by decide +kernel
theorem dX13_turnsOf_46 : decode cX13_turnsOf 46 = .ok (.iadd, 1) := by decide +kernel
theorem dX13_turnsOf_47 : decode cX13_turnsOf 47 = .ok (.istore 6, 2) := by decide +kernel
theorem dX13_turnsOf_49 : decode cX13_turnsOf 49 = .ok (.iload 6, 2) := by decide +kernel
theorem dX13_turnsOf_51 : decode cX13_turnsOf 51 = .ok (.aload_n 0, 1) := by decide +kernel
theorem dX13_turnsOf_52 : decode cX13_turnsOf 52 = .ok (.getfield 61, 3) := by decide +kernel
theorem dX13_turnsOf_55 : decode cX13_turnsOf 55 = .ok (.iload_n 1, 1) := by decide +kernel
theorem dX13_turnsOf_56 : decode cX13_turnsOf 56 = .ok (.iaload, 1) := by decide +kernel
theorem dX13_turnsOf_57 : decode cX13_turnsOf 57 = .ok (.if_icmp .ge 26, 3) := by decide +kernel
theorem dX13_turnsOf_60 : decode cX13_turnsOf 60 = .ok (.aload_n 0, 1) := by decide +kernel
theorem dX13_turnsOf_61 : decode cX13_turnsOf 61 = .ok (.getfield 55, 3) := by decide +kernel
theorem dX13_turnsOf_64 : decode cX13_turnsOf 64 = .ok (.bipush 24, 2) := by decide +kernel
theorem dX13_turnsOf_66 : decode cX13_turnsOf 66 = .ok (.iload_n 1, 1) := by decide +kernel
theorem dX13_turnsOf_67 : decode cX13_turnsOf 67 = .ok (.imul, 1) := by decide +kernel
theorem dX13_turnsOf_68 : decode cX13_turnsOf 68 = .ok (.iload 6, 2) := by decide +kernel
theorem dX13_turnsOf_70 : decode cX13_turnsOf 70 = .ok (.iadd, 1) := by decide +kernel
theorem dX13_turnsOf_71 : decode cX13_turnsOf 71 = .ok (.iaload, 1) := by decide +kernel
theorem dX13_turnsOf_72 : decode cX13_turnsOf 72 = .ok (.iload 4, 2) := by decide +kernel
theorem dX13_turnsOf_74 : decode cX13_turnsOf 74 = .ok (.if_icmp .ne 9, 3) := by decide +kernel
theorem dX13_turnsOf_77 : decode cX13_turnsOf 77 = .ok (.iinc 6 1, 3) := by decide +kernel
theorem dX13_turnsOf_80 : decode cX13_turnsOf 80 = .ok (.goto (-31), 3) := by decide +kernel
theorem dX13_turnsOf_83 : decode cX13_turnsOf 83 = .ok (.iload 5, 2) := by decide +kernel
theorem dX13_turnsOf_85 : decode cX13_turnsOf 85 = .ok (.iload 4, 2) := by decide +kernel
theorem dX13_turnsOf_87 : decode cX13_turnsOf 87 = .ok (.if_icmp .eq 67, 3) := by decide +kernel
theorem dX13_turnsOf_90 : decode cX13_turnsOf 90 = .ok (.iload 6, 2) := by decide +kernel
theorem dX13_turnsOf_92 : decode cX13_turnsOf 92 = .ok (.aload_n 0, 1) := by decide +kernel
theorem dX13_turnsOf_93 : decode cX13_turnsOf 93 = .ok (.getfield 61, 3) := by decide +kernel
theorem dX13_turnsOf_96 : decode cX13_turnsOf 96 = .ok (.iload_n 1, 1) := by decide +kernel
theorem dX13_turnsOf_97 : decode cX13_turnsOf 97 = .ok (.iaload, 1) := by decide +kernel
theorem dX13_turnsOf_98 : decode cX13_turnsOf 98 = .ok (.if_icmp .ne 6, 3) := by decide +kernel
theorem dX13_turnsOf_101 : decode cX13_turnsOf 101 = .ok (.goto 53, 3) := by decide +kernel
theorem dX13_turnsOf_104 : decode cX13_turnsOf 104 = .ok (.aload_n 0, 1) := by decide +kernel
theorem dX13_turnsOf_105 : decode cX13_turnsOf 105 = .ok (.getfield 55, 3) := by decide +kernel
theorem dX13_turnsOf_108 : decode cX13_turnsOf 108 = .ok (.bipush 24, 2) := by decide +kernel
theorem dX13_turnsOf_110 : decode cX13_turnsOf 110 = .ok (.iload_n 1, 1) := by decide +kernel
theorem dX13_turnsOf_111 : decode cX13_turnsOf 111 = .ok (.imul, 1) := by decide +kernel
theorem dX13_turnsOf_112 : decode cX13_turnsOf 112 = .ok (.iload 6, 2) := by decide +kernel
theorem dX13_turnsOf_114 : decode cX13_turnsOf 114 = .ok (.iadd, 1) := by decide +kernel
theorem dX13_turnsOf_115 : decode cX13_turnsOf 115 = .ok (.iaload, 1) := by decide +kernel
theorem dX13_turnsOf_116 : decode cX13_turnsOf 116 = .ok (.istore 7, 2) := by decide +kernel
theorem dX13_turnsOf_118 : decode cX13_turnsOf 118 = .ok (.iload_n 2, 1) := by decide +kernel
theorem dX13_turnsOf_119 : decode cX13_turnsOf 119 = .ok (.iload 4, 2) := by decide +kernel
theorem dX13_turnsOf_121 : decode cX13_turnsOf 121 = .ok (.iload 5, 2) := by decide +kernel
theorem dX13_turnsOf_123 : decode cX13_turnsOf 123 = .ok (.if_icmp .le 10, 3) := by decide +kernel
theorem dX13_turnsOf_126 : decode cX13_turnsOf 126 = .ok (.iload 4, 2) := by decide +kernel
theorem dX13_turnsOf_128 : decode cX13_turnsOf 128 = .ok (.iload 7, 2) := by decide +kernel
theorem dX13_turnsOf_130 : decode cX13_turnsOf 130 = .ok (.if_icmp .gt 17, 3) := by decide +kernel
theorem dX13_turnsOf_133 : decode cX13_turnsOf 133 = .ok (.iload 4, 2) := by decide +kernel
theorem dX13_turnsOf_135 : decode cX13_turnsOf 135 = .ok (.iload 5, 2) := by decide +kernel
theorem dX13_turnsOf_137 : decode cX13_turnsOf 137 = .ok (.if_icmp .ge 14, 3) := by decide +kernel
theorem dX13_turnsOf_140 : decode cX13_turnsOf 140 = .ok (.iload 4, 2) := by decide +kernel
theorem dX13_turnsOf_142 : decode cX13_turnsOf 142 = .ok (.iload 7, 2) := by decide +kernel
theorem dX13_turnsOf_144 : decode cX13_turnsOf 144 = .ok (.if_icmp .ge 7, 3) := by decide +kernel
theorem dX13_turnsOf_147 : decode cX13_turnsOf 147 = .ok (.iconst 1, 1) := by decide +kernel
theorem dX13_turnsOf_148 : decode cX13_turnsOf 148 = .ok (.goto 4, 3) := by decide +kernel
theorem dX13_turnsOf_151 : decode cX13_turnsOf 151 = .ok (.iconst 0, 1) := by decide +kernel
theorem dX13_turnsOf_152 : decode cX13_turnsOf 152 = .ok (.iadd, 1) := by decide +kernel
theorem dX13_turnsOf_153 : decode cX13_turnsOf 153 = .ok (.istore_n 2, 1) := by decide +kernel
theorem dX13_turnsOf_154 : decode cX13_turnsOf 154 = .ok (.iinc 3 1, 3) := by decide +kernel
theorem dX13_turnsOf_157 : decode cX13_turnsOf 157 = .ok (.goto (-153), 3) := by decide +kernel
theorem dX13_turnsOf_160 : decode cX13_turnsOf 160 = .ok (.iload_n 2, 1) := by decide +kernel
theorem dX13_turnsOf_161 : decode cX13_turnsOf 161 = .ok (.ireturn, 1) := by decide +kernel
def fX13_turnsOf_L49 : Nat → eg_H → Nat → Int32 → Int32 → Int32 → Int32 → Int32 → Int32 → Option (Nat × Int32 × Int32 × Int32 × Int32 × Int32 × Int32 × eg_H)
  | 0, _, _, _, _, _, _, _, _ => none
  | n + 1, h, l0, l1, l2, l3, l4, l5, l6 =>
    (eg_gR h 13 31 l0).bind fun p1 =>
    (eg_aI h 100 p1 l1).bind fun v3 =>
    if v3 ≤ l6 then
      (some (l0, l1, l2, l3, l4, l5, l6, h))
    else
      (eg_gR h 13 29 l0).bind fun p6 =>
      (eg_aI h 100 p6 (((24 : Int32) * l1) + l6)).bind fun v8 =>
      if v8 = l4 then
        (fX13_turnsOf_L49 n h l0 l1 l2 l3 l4 l5 (l6 + (1 : Int32)))
      else
        some (l0, l1, l2, l3, l4, l5, l6, h)
set_option maxRecDepth 20000 in
theorem fX13_turnsOf_L49_ok {h0 : eg_H} {Z : eg_C → State → Prop} {N S : Nat} : ∀ (n : Nat) (h : eg_H) (l0 : Nat) (l1 : Int32) (l2 : Int32) (l3 : Int32) (l4 : Int32) (l5 : Int32) (l6 : Int32) (eE : Nat × Int32 × Int32 × Int32 × Int32 × Int32 × Int32 × eg_H), fX13_turnsOf_L49 n h l0 l1 l2 l3 l4 l5 l6 = some eE → (hk0 : ∀ (l0 : Nat) (l1 : Int32) (l2 : Int32) (l3 : Int32) (l4 : Int32) (l5 : Int32) (l6 : Int32) (h : eg_H), eE = (l0, l1, l2, l3, l4, l5, l6, h) → eg_AW (RX13, cX13_turnsOf, 8, 1, none, "turnsOf", (some .int)) Z N S h0 83 [(0, .ref l0), (1, .int l1), (2, .int l2), (3, .int l3), (4, .int l4), (5, .int l5), (6, .int l6)] [] h) → eg_AW (RX13, cX13_turnsOf, 8, 1, none, "turnsOf", (some .int)) Z N S h0 49 [(0, .ref l0), (1, .int l1), (2, .int l2), (3, .int l3), (4, .int l4), (5, .int l5), (6, .int l6)] [] h := by
  intro n
  induction n with
  | zero => intro h l0 l1 l2 l3 l4 l5 l6 eE hF; exact absurd hF (by intro q; cases q)
  | succ n ih =>
    intro h l0 l1 l2 l3 l4 l5 l6 eE hF hk0
    have hrec := fun (h' : eg_H) (l0 : Nat) (l1 : Int32) (l2 : Int32) (l3 : Int32) (l4 : Int32) (l5 : Int32) (l6 : Int32) hq => ih h' l0 l1 l2 l3 l4 l5 l6 eE hq hk0
    refine eg_iload (i := 6) 6 dX13_turnsOf_49 rfl ?_
    refine eg_aload_n (i := 0) 0 dX13_turnsOf_51 rfl rfl ?_
    replace hF := eg_bind hF; obtain ⟨p1, e2, hF⟩ := hF
    refine eg_getR dX13_turnsOf_52 e2 (Nat.le_of_ble_eq_true rfl) (Nat.le_of_ble_eq_true rfl) rfl ew_1465 ?_
    refine eg_iload_n (i := 1) 1 dX13_turnsOf_55 rfl rfl ?_
    replace hF := eg_bind hF; obtain ⟨v3, e4, hF⟩ := hF
    refine eg_iald dX13_turnsOf_56 e4 ?_
    refine eg_ic_ge 83 dX13_turnsOf_57 rfl (fun c5 => ?_) (fun c5 => ?_)
    · replace hF := eg_it c5 hF
      exact (hk0 l0 l1 l2 l3 l4 l5 l6 h (Option.some.inj hF).symm)
    · replace hF := eg_if c5 hF
      refine eg_aload_n (i := 0) 0 dX13_turnsOf_60 rfl rfl ?_
      replace hF := eg_bind hF; obtain ⟨p6, e7, hF⟩ := hF
      refine eg_getR dX13_turnsOf_61 e7 (Nat.le_of_ble_eq_true rfl) (Nat.le_of_ble_eq_true rfl) rfl ew_1463 ?_
      refine eg_bipush (v := (24 : Int32)) dX13_turnsOf_64 (by decide) ?_
      refine eg_iload_n (i := 1) 1 dX13_turnsOf_66 rfl rfl ?_
      refine eg_imul dX13_turnsOf_67 ?_
      refine eg_iload (i := 6) 6 dX13_turnsOf_68 rfl ?_
      refine eg_iadd dX13_turnsOf_70 ?_
      replace hF := eg_bind hF; obtain ⟨v8, e9, hF⟩ := hF
      refine eg_iald dX13_turnsOf_71 e9 ?_
      refine eg_iload (i := 4) 4 dX13_turnsOf_72 rfl ?_
      refine eg_ic_ne 83 dX13_turnsOf_74 rfl (fun c10 => ?_) (fun c10 => ?_)
      · replace hF := eg_it c10 hF
        refine eg_iinc (i := 6) (v := (l6 + (1 : Int32))) 6 [(6, .int (l6 + (1 : Int32))), (0, .ref l0), (1, .int l1), (2, .int l2), (3, .int l3), (4, .int l4), (5, .int l5)] dX13_turnsOf_77 rfl rfl (Nat.le_of_ble_eq_true rfl) rfl ?_
        refine eg_goto 49 dX13_turnsOf_80 rfl ?_
        exact eg_sub [1, 2, 3, 4, 5, 6, 0] [(0, .ref l0), (1, .int l1), (2, .int l2), (3, .int l3), (4, .int l4), (5, .int l5), (6, .int (l6 + (1 : Int32)))] rfl (hrec h l0 l1 l2 l3 l4 l5 (l6 + (1 : Int32)) hF)
      · replace hF := eg_if c10 hF
        exact (hk0 l0 l1 l2 l3 l4 l5 l6 h (Option.some.inj hF).symm)
def fX13_turnsOf_j133 (rec : eg_H → Nat → Int32 → Int32 → Int32 → Option (Int32 × eg_H)) (h : eg_H) (l0 : Nat) (l1 : Int32) (l3 : Int32) (l4 : Int32) (l5 : Int32) (l7 : Int32) (s0 : Int32) : Option (Int32 × eg_H) :=
  if l5 ≤ l4 then
    ((some ((s0 + (0 : Int32)))).bind fun v2 =>
    rec h l0 l1 v2 (l3 + (1 : Int32)))
  else
    if l7 ≤ l4 then
      ((some ((s0 + (0 : Int32)))).bind fun v5 =>
      rec h l0 l1 v5 (l3 + (1 : Int32)))
    else
      (some ((s0 + (1 : Int32)))).bind fun v7 =>
      rec h l0 l1 v7 (l3 + (1 : Int32))
set_option maxRecDepth 20000 in
theorem fX13_turnsOf_j133_ok {rec : eg_H → Nat → Int32 → Int32 → Int32 → Option (Int32 × eg_H)} {h0 : eg_H} {Z : eg_C → State → Prop} {N S : Nat} (h : eg_H) (l0 : Nat) (l1 : Int32) (l3 : Int32) (l4 : Int32) (l5 : Int32) (l7 : Int32) (s0 : Int32) (eE : Int32 × eg_H) (hF : fX13_turnsOf_j133 rec h l0 l1 l3 l4 l5 l7 s0 = some eE) (hrec : ∀ (h : eg_H) (l0 : Nat) (l1 : Int32) (l2 : Int32) (l3 : Int32), rec h l0 l1 l2 l3 = some eE → eg_AW (RX13, cX13_turnsOf, 8, 1, none, "turnsOf", (some .int)) Z N S h0 4 [(0, .ref l0), (1, .int l1), (2, .int l2), (3, .int l3)] [] h) (hk0 : ∀ (l2 : Int32) (h : eg_H), eE = (l2, h) → eg_AW (RX13, cX13_turnsOf, 8, 1, none, "turnsOf", (some .int)) Z N S h0 160 [(2, .int l2)] [] h) : eg_AW (RX13, cX13_turnsOf, 8, 1, none, "turnsOf", (some .int)) Z N S h0 133 [(0, .ref l0), (1, .int l1), (3, .int l3), (4, .int l4), (5, .int l5), (7, .int l7)] [.int s0] h := by
  refine eg_iload (i := 4) 3 dX13_turnsOf_133 rfl ?_
  refine eg_iload (i := 5) 4 dX13_turnsOf_135 rfl ?_
  refine eg_ic_ge 151 dX13_turnsOf_137 rfl (fun c1 => ?_) (fun c1 => ?_)
  · replace hF := eg_it c1 hF
    refine eg_iconst (v := (0 : Int32)) dX13_turnsOf_151 (by decide) ?_
    refine eg_iadd dX13_turnsOf_152 ?_
    replace hF := eg_bind hF; obtain ⟨v2, e3, hF⟩ := hF
    replace e3 := Option.some.inj e3
    rw [e3]
    refine eg_istore_n (i := 2) [(2, .int v2), (0, .ref l0), (1, .int l1), (3, .int l3), (4, .int l4), (5, .int l5), (7, .int l7)] dX13_turnsOf_153 rfl (Nat.le_of_ble_eq_true rfl) rfl ?_
    refine eg_iinc (i := 3) (v := (l3 + (1 : Int32))) 3 [(3, .int (l3 + (1 : Int32))), (2, .int v2), (0, .ref l0), (1, .int l1), (4, .int l4), (5, .int l5), (7, .int l7)] dX13_turnsOf_154 rfl rfl (Nat.le_of_ble_eq_true rfl) rfl ?_
    refine eg_goto 4 dX13_turnsOf_157 rfl ?_
    exact eg_sub [2, 3, 1, 0] [(0, .ref l0), (1, .int l1), (2, .int v2), (3, .int (l3 + (1 : Int32)))] rfl (hrec h l0 l1 v2 (l3 + (1 : Int32)) hF)
  · replace hF := eg_if c1 hF
    refine eg_iload (i := 4) 3 dX13_turnsOf_140 rfl ?_
    refine eg_iload (i := 7) 5 dX13_turnsOf_142 rfl ?_
    refine eg_ic_ge 151 dX13_turnsOf_144 rfl (fun c4 => ?_) (fun c4 => ?_)
    · replace hF := eg_it c4 hF
      refine eg_iconst (v := (0 : Int32)) dX13_turnsOf_151 (by decide) ?_
      refine eg_iadd dX13_turnsOf_152 ?_
      replace hF := eg_bind hF; obtain ⟨v5, e6, hF⟩ := hF
      replace e6 := Option.some.inj e6
      rw [e6]
      refine eg_istore_n (i := 2) [(2, .int v5), (0, .ref l0), (1, .int l1), (3, .int l3), (4, .int l4), (5, .int l5), (7, .int l7)] dX13_turnsOf_153 rfl (Nat.le_of_ble_eq_true rfl) rfl ?_
      refine eg_iinc (i := 3) (v := (l3 + (1 : Int32))) 3 [(3, .int (l3 + (1 : Int32))), (2, .int v5), (0, .ref l0), (1, .int l1), (4, .int l4), (5, .int l5), (7, .int l7)] dX13_turnsOf_154 rfl rfl (Nat.le_of_ble_eq_true rfl) rfl ?_
      refine eg_goto 4 dX13_turnsOf_157 rfl ?_
      exact eg_sub [2, 3, 1, 0] [(0, .ref l0), (1, .int l1), (2, .int v5), (3, .int (l3 + (1 : Int32)))] rfl (hrec h l0 l1 v5 (l3 + (1 : Int32)) hF)
    · replace hF := eg_if c4 hF
      refine eg_iconst (v := (1 : Int32)) dX13_turnsOf_147 (by decide) ?_
      refine eg_goto 152 dX13_turnsOf_148 rfl ?_
      refine eg_iadd dX13_turnsOf_152 ?_
      replace hF := eg_bind hF; obtain ⟨v7, e8, hF⟩ := hF
      replace e8 := Option.some.inj e8
      rw [e8]
      refine eg_istore_n (i := 2) [(2, .int v7), (0, .ref l0), (1, .int l1), (3, .int l3), (4, .int l4), (5, .int l5), (7, .int l7)] dX13_turnsOf_153 rfl (Nat.le_of_ble_eq_true rfl) rfl ?_
      refine eg_iinc (i := 3) (v := (l3 + (1 : Int32))) 3 [(3, .int (l3 + (1 : Int32))), (2, .int v7), (0, .ref l0), (1, .int l1), (4, .int l4), (5, .int l5), (7, .int l7)] dX13_turnsOf_154 rfl rfl (Nat.le_of_ble_eq_true rfl) rfl ?_
      refine eg_goto 4 dX13_turnsOf_157 rfl ?_
      exact eg_sub [2, 3, 1, 0] [(0, .ref l0), (1, .int l1), (2, .int v7), (3, .int (l3 + (1 : Int32)))] rfl (hrec h l0 l1 v7 (l3 + (1 : Int32)) hF)
def fX13_turnsOf_j83 (rec : eg_H → Nat → Int32 → Int32 → Int32 → Option (Int32 × eg_H)) (h : eg_H) (l0 : Nat) (l1 : Int32) (l2 : Int32) (l3 : Int32) (l4 : Int32) (l5 : Int32) (l6 : Int32) : Option (Int32 × eg_H) :=
  if l5 = l4 then
    (rec h l0 l1 l2 (l3 + (1 : Int32)))
  else
    (eg_gR h 13 31 l0).bind fun p2 =>
    (eg_aI h 100 p2 l1).bind fun v4 =>
    if l6 = v4 then
      (rec h l0 l1 l2 (l3 + (1 : Int32)))
    else
      (eg_gR h 13 29 l0).bind fun p7 =>
      (eg_aI h 100 p7 (((24 : Int32) * l1) + l6)).bind fun v9 =>
      if l4 ≤ l5 then
        (fX13_turnsOf_j133 rec h l0 l1 l3 l4 l5 v9 l2)
      else
        if v9 < l4 then
          ((some ((l2 + (1 : Int32)))).bind fun v13 =>
          rec h l0 l1 v13 (l3 + (1 : Int32)))
        else
          fX13_turnsOf_j133 rec h l0 l1 l3 l4 l5 v9 l2
set_option maxRecDepth 20000 in
theorem fX13_turnsOf_j83_ok {rec : eg_H → Nat → Int32 → Int32 → Int32 → Option (Int32 × eg_H)} {h0 : eg_H} {Z : eg_C → State → Prop} {N S : Nat} (h : eg_H) (l0 : Nat) (l1 : Int32) (l2 : Int32) (l3 : Int32) (l4 : Int32) (l5 : Int32) (l6 : Int32) (eE : Int32 × eg_H) (hF : fX13_turnsOf_j83 rec h l0 l1 l2 l3 l4 l5 l6 = some eE) (hrec : ∀ (h : eg_H) (l0 : Nat) (l1 : Int32) (l2 : Int32) (l3 : Int32), rec h l0 l1 l2 l3 = some eE → eg_AW (RX13, cX13_turnsOf, 8, 1, none, "turnsOf", (some .int)) Z N S h0 4 [(0, .ref l0), (1, .int l1), (2, .int l2), (3, .int l3)] [] h) (hk0 : ∀ (l2 : Int32) (h : eg_H), eE = (l2, h) → eg_AW (RX13, cX13_turnsOf, 8, 1, none, "turnsOf", (some .int)) Z N S h0 160 [(2, .int l2)] [] h) : eg_AW (RX13, cX13_turnsOf, 8, 1, none, "turnsOf", (some .int)) Z N S h0 83 [(0, .ref l0), (1, .int l1), (2, .int l2), (3, .int l3), (4, .int l4), (5, .int l5), (6, .int l6)] [] h := by
  refine eg_iload (i := 5) 5 dX13_turnsOf_83 rfl ?_
  refine eg_iload (i := 4) 4 dX13_turnsOf_85 rfl ?_
  refine eg_ic_eq 154 dX13_turnsOf_87 rfl (fun c1 => ?_) (fun c1 => ?_)
  · replace hF := eg_it c1 hF
    refine eg_iinc (i := 3) (v := (l3 + (1 : Int32))) 3 [(3, .int (l3 + (1 : Int32))), (0, .ref l0), (1, .int l1), (2, .int l2), (4, .int l4), (5, .int l5), (6, .int l6)] dX13_turnsOf_154 rfl rfl (Nat.le_of_ble_eq_true rfl) rfl ?_
    refine eg_goto 4 dX13_turnsOf_157 rfl ?_
    exact eg_sub [1, 2, 3, 0] [(0, .ref l0), (1, .int l1), (2, .int l2), (3, .int (l3 + (1 : Int32)))] rfl (hrec h l0 l1 l2 (l3 + (1 : Int32)) hF)
  · replace hF := eg_if c1 hF
    refine eg_iload (i := 6) 6 dX13_turnsOf_90 rfl ?_
    refine eg_aload_n (i := 0) 0 dX13_turnsOf_92 rfl rfl ?_
    replace hF := eg_bind hF; obtain ⟨p2, e3, hF⟩ := hF
    refine eg_getR dX13_turnsOf_93 e3 (Nat.le_of_ble_eq_true rfl) (Nat.le_of_ble_eq_true rfl) rfl ew_1465 ?_
    refine eg_iload_n (i := 1) 1 dX13_turnsOf_96 rfl rfl ?_
    replace hF := eg_bind hF; obtain ⟨v4, e5, hF⟩ := hF
    refine eg_iald dX13_turnsOf_97 e5 ?_
    refine eg_ic_ne 104 dX13_turnsOf_98 rfl (fun c6 => ?_) (fun c6 => ?_)
    · replace hF := eg_it c6 hF
      refine eg_goto 154 dX13_turnsOf_101 rfl ?_
      refine eg_iinc (i := 3) (v := (l3 + (1 : Int32))) 3 [(3, .int (l3 + (1 : Int32))), (0, .ref l0), (1, .int l1), (2, .int l2), (4, .int l4), (5, .int l5), (6, .int l6)] dX13_turnsOf_154 rfl rfl (Nat.le_of_ble_eq_true rfl) rfl ?_
      refine eg_goto 4 dX13_turnsOf_157 rfl ?_
      exact eg_sub [1, 2, 3, 0] [(0, .ref l0), (1, .int l1), (2, .int l2), (3, .int (l3 + (1 : Int32)))] rfl (hrec h l0 l1 l2 (l3 + (1 : Int32)) hF)
    · replace hF := eg_if c6 hF
      refine eg_aload_n (i := 0) 0 dX13_turnsOf_104 rfl rfl ?_
      replace hF := eg_bind hF; obtain ⟨p7, e8, hF⟩ := hF
      refine eg_getR dX13_turnsOf_105 e8 (Nat.le_of_ble_eq_true rfl) (Nat.le_of_ble_eq_true rfl) rfl ew_1463 ?_
      refine eg_bipush (v := (24 : Int32)) dX13_turnsOf_108 (by decide) ?_
      refine eg_iload_n (i := 1) 1 dX13_turnsOf_110 rfl rfl ?_
      refine eg_imul dX13_turnsOf_111 ?_
      refine eg_iload (i := 6) 6 dX13_turnsOf_112 rfl ?_
      refine eg_iadd dX13_turnsOf_114 ?_
      replace hF := eg_bind hF; obtain ⟨v9, e10, hF⟩ := hF
      refine eg_iald dX13_turnsOf_115 e10 ?_
      refine eg_istore (i := 7) [(7, .int v9), (0, .ref l0), (1, .int l1), (2, .int l2), (3, .int l3), (4, .int l4), (5, .int l5), (6, .int l6)] dX13_turnsOf_116 (Nat.le_of_ble_eq_true rfl) rfl ?_
      refine eg_iload_n (i := 2) 3 dX13_turnsOf_118 rfl rfl ?_
      refine eg_iload (i := 4) 5 dX13_turnsOf_119 rfl ?_
      refine eg_iload (i := 5) 6 dX13_turnsOf_121 rfl ?_
      refine eg_ic_le 133 dX13_turnsOf_123 rfl (fun c11 => ?_) (fun c11 => ?_)
      · replace hF := eg_it c11 hF
        exact eg_sub [1, 2, 4, 5, 6, 0] [(0, .ref l0), (1, .int l1), (3, .int l3), (4, .int l4), (5, .int l5), (7, .int v9)] rfl (fX13_turnsOf_j133_ok h l0 l1 l3 l4 l5 v9 l2 eE hF hrec hk0)
      · replace hF := eg_if c11 hF
        refine eg_iload (i := 4) 5 dX13_turnsOf_126 rfl ?_
        refine eg_iload (i := 7) 0 dX13_turnsOf_128 rfl ?_
        refine eg_ic_gt 147 dX13_turnsOf_130 rfl (fun c12 => ?_) (fun c12 => ?_)
        · replace hF := eg_it c12 hF
          refine eg_iconst (v := (1 : Int32)) dX13_turnsOf_147 (by decide) ?_
          refine eg_goto 152 dX13_turnsOf_148 rfl ?_
          refine eg_iadd dX13_turnsOf_152 ?_
          replace hF := eg_bind hF; obtain ⟨v13, e14, hF⟩ := hF
          replace e14 := Option.some.inj e14
          rw [e14]
          refine eg_istore_n (i := 2) [(2, .int v13), (7, .int v9), (0, .ref l0), (1, .int l1), (3, .int l3), (4, .int l4), (5, .int l5), (6, .int l6)] dX13_turnsOf_153 rfl (Nat.le_of_ble_eq_true rfl) rfl ?_
          refine eg_iinc (i := 3) (v := (l3 + (1 : Int32))) 4 [(3, .int (l3 + (1 : Int32))), (2, .int v13), (7, .int v9), (0, .ref l0), (1, .int l1), (4, .int l4), (5, .int l5), (6, .int l6)] dX13_turnsOf_154 rfl rfl (Nat.le_of_ble_eq_true rfl) rfl ?_
          refine eg_goto 4 dX13_turnsOf_157 rfl ?_
          exact eg_sub [3, 4, 1, 0] [(0, .ref l0), (1, .int l1), (2, .int v13), (3, .int (l3 + (1 : Int32)))] rfl (hrec h l0 l1 v13 (l3 + (1 : Int32)) hF)
        · replace hF := eg_if c12 hF
          exact eg_sub [1, 2, 4, 5, 6, 0] [(0, .ref l0), (1, .int l1), (3, .int l3), (4, .int l4), (5, .int l5), (7, .int v9)] rfl (fX13_turnsOf_j133_ok h l0 l1 l3 l4 l5 v9 l2 eE hF hrec hk0)
def fX13_turnsOf_L4 : Nat → eg_H → Nat → Int32 → Int32 → Int32 → Option (Int32 × eg_H)
  | 0, _, _, _, _, _ => none
  | n + 1, h, l0, l1, l2, l3 =>
    (eg_gR h 13 31 l0).bind fun p1 =>
    (eg_aI h 100 p1 l1).bind fun v3 =>
    if (v3 - (1 : Int32)) ≤ l3 then
      (some (l2, h))
    else
      (eg_gR h 13 29 l0).bind fun p6 =>
      (eg_aI h 100 p6 (((24 : Int32) * l1) + l3)).bind fun v8 =>
      (eg_gR h 13 29 l0).bind fun p10 =>
      (eg_aI h 100 p10 ((((24 : Int32) * l1) + l3) - (1 : Int32))).bind fun v12 =>
      (some ((l3 + (1 : Int32)))).bind fun v14 =>
      (fX13_turnsOf_L49 eg_F h l0 l1 l2 l3 v8 v12 v14).bind fun e =>
      match e with
      | (p18, v19, v20, v21, v22, v23, v24, h25) =>
        fX13_turnsOf_j83 (fX13_turnsOf_L4 n) h25 p18 v19 v20 v21 v22 v23 v24
set_option maxRecDepth 20000 in
theorem fX13_turnsOf_L4_ok {h0 : eg_H} {Z : eg_C → State → Prop} {N S : Nat} : ∀ (n : Nat) (h : eg_H) (l0 : Nat) (l1 : Int32) (l2 : Int32) (l3 : Int32) (eE : Int32 × eg_H), fX13_turnsOf_L4 n h l0 l1 l2 l3 = some eE → (hk0 : ∀ (l2 : Int32) (h : eg_H), eE = (l2, h) → eg_AW (RX13, cX13_turnsOf, 8, 1, none, "turnsOf", (some .int)) Z N S h0 160 [(2, .int l2)] [] h) → eg_AW (RX13, cX13_turnsOf, 8, 1, none, "turnsOf", (some .int)) Z N S h0 4 [(0, .ref l0), (1, .int l1), (2, .int l2), (3, .int l3)] [] h := by
  intro n
  induction n with
  | zero => intro h l0 l1 l2 l3 eE hF; exact absurd hF (by intro q; cases q)
  | succ n ih =>
    intro h l0 l1 l2 l3 eE hF hk0
    have hrec := fun (h' : eg_H) (l0 : Nat) (l1 : Int32) (l2 : Int32) (l3 : Int32) hq => ih h' l0 l1 l2 l3 eE hq hk0
    refine eg_iload_n (i := 3) 3 dX13_turnsOf_4 rfl rfl ?_
    refine eg_aload_n (i := 0) 0 dX13_turnsOf_5 rfl rfl ?_
    replace hF := eg_bind hF; obtain ⟨p1, e2, hF⟩ := hF
    refine eg_getR dX13_turnsOf_6 e2 (Nat.le_of_ble_eq_true rfl) (Nat.le_of_ble_eq_true rfl) rfl ew_1465 ?_
    refine eg_iload_n (i := 1) 1 dX13_turnsOf_9 rfl rfl ?_
    replace hF := eg_bind hF; obtain ⟨v3, e4, hF⟩ := hF
    refine eg_iald dX13_turnsOf_10 e4 ?_
    refine eg_iconst (v := (1 : Int32)) dX13_turnsOf_11 (by decide) ?_
    refine eg_isub dX13_turnsOf_12 ?_
    refine eg_ic_ge 160 dX13_turnsOf_13 rfl (fun c5 => ?_) (fun c5 => ?_)
    · replace hF := eg_it c5 hF
      exact eg_sub [2] [(2, .int l2)] rfl (hk0 l2 h (Option.some.inj hF).symm)
    · replace hF := eg_if c5 hF
      refine eg_aload_n (i := 0) 0 dX13_turnsOf_16 rfl rfl ?_
      replace hF := eg_bind hF; obtain ⟨p6, e7, hF⟩ := hF
      refine eg_getR dX13_turnsOf_17 e7 (Nat.le_of_ble_eq_true rfl) (Nat.le_of_ble_eq_true rfl) rfl ew_1463 ?_
      refine eg_bipush (v := (24 : Int32)) dX13_turnsOf_20 (by decide) ?_
      refine eg_iload_n (i := 1) 1 dX13_turnsOf_22 rfl rfl ?_
      refine eg_imul dX13_turnsOf_23 ?_
      refine eg_iload_n (i := 3) 3 dX13_turnsOf_24 rfl rfl ?_
      refine eg_iadd dX13_turnsOf_25 ?_
      replace hF := eg_bind hF; obtain ⟨v8, e9, hF⟩ := hF
      refine eg_iald dX13_turnsOf_26 e9 ?_
      refine eg_istore (i := 4) [(4, .int v8), (0, .ref l0), (1, .int l1), (2, .int l2), (3, .int l3)] dX13_turnsOf_27 (Nat.le_of_ble_eq_true rfl) rfl ?_
      refine eg_aload_n (i := 0) 1 dX13_turnsOf_29 rfl rfl ?_
      replace hF := eg_bind hF; obtain ⟨p10, e11, hF⟩ := hF
      refine eg_getR dX13_turnsOf_30 e11 (Nat.le_of_ble_eq_true rfl) (Nat.le_of_ble_eq_true rfl) rfl ew_1463 ?_
      refine eg_bipush (v := (24 : Int32)) dX13_turnsOf_33 (by decide) ?_
      refine eg_iload_n (i := 1) 2 dX13_turnsOf_35 rfl rfl ?_
      refine eg_imul dX13_turnsOf_36 ?_
      refine eg_iload_n (i := 3) 4 dX13_turnsOf_37 rfl rfl ?_
      refine eg_iadd dX13_turnsOf_38 ?_
      refine eg_iconst (v := (1 : Int32)) dX13_turnsOf_39 (by decide) ?_
      refine eg_isub dX13_turnsOf_40 ?_
      replace hF := eg_bind hF; obtain ⟨v12, e13, hF⟩ := hF
      refine eg_iald dX13_turnsOf_41 e13 ?_
      refine eg_istore (i := 5) [(5, .int v12), (4, .int v8), (0, .ref l0), (1, .int l1), (2, .int l2), (3, .int l3)] dX13_turnsOf_42 (Nat.le_of_ble_eq_true rfl) rfl ?_
      refine eg_iload_n (i := 3) 5 dX13_turnsOf_44 rfl rfl ?_
      refine eg_iconst (v := (1 : Int32)) dX13_turnsOf_45 (by decide) ?_
      refine eg_iadd dX13_turnsOf_46 ?_
      replace hF := eg_bind hF; obtain ⟨v14, e15, hF⟩ := hF
      replace e15 := Option.some.inj e15
      rw [e15]
      refine eg_istore (i := 6) [(6, .int v14), (5, .int v12), (4, .int v8), (0, .ref l0), (1, .int l1), (2, .int l2), (3, .int l3)] dX13_turnsOf_47 (Nat.le_of_ble_eq_true rfl) rfl ?_
      replace hF := eg_bind hF; obtain ⟨x17, e16, hF⟩ := hF
      refine eg_sub [3, 4, 5, 6, 2, 1, 0] [(0, .ref l0), (1, .int l1), (2, .int l2), (3, .int l3), (4, .int v8), (5, .int v12), (6, .int v14)] rfl (fX13_turnsOf_L49_ok eg_F h l0 l1 l2 l3 v8 v12 v14 x17 e16 ?_)
      · intro p18 v19 v20 v21 v22 v23 v24 h25 e26
        subst e26
        exact (fX13_turnsOf_j83_ok h25 p18 v19 v20 v21 v22 v23 v24 eE hF hrec hk0)
def fX13_turnsOf (h : eg_H) (l0 : Nat) (l1 : Int32) : Option (Int32 × eg_H) :=
  if eg_isO h 13 l0 then (
    (fX13_turnsOf_L4 eg_F h l0 l1 (0 : Int32) (1 : Int32)).bind fun e =>
    match e with
    | (v3, h4) =>
      some (v3, h4)) else none
theorem fX13_turnsOf_O {h : eg_H} {l0 : Nat} {l1 : Int32} {rE : Int32} {hE : eg_H} (hF : fX13_turnsOf h l0 l1 = some (rE, hE)) : eg_isO h 13 l0 := (eg_ifn hF).1
set_option maxRecDepth 20000 in
theorem mX13_turnsOf {h : eg_H} {l0 : Nat} {l1 : Int32} {rE : Int32} {hE : eg_H} (hF : fX13_turnsOf h l0 l1 = some (rE, hE)) : eg_Met yX13_turnsOf cX13_turnsOf 8 (some .int) 1 [.ref l0, .int l1] h (some (.int rE)) hE := by
  refine eg_enter rfl (Nat.le_of_ble_eq_true rfl) ?_
  show eg_AW (RX13, cX13_turnsOf, 8, 1, none, "turnsOf", (some .int)) (eg_Zm (some (.int rE)) hE h) (eg_nc hE) (eg_ns hE) h 0 [(0, .ref l0), (1, .int l1)] [] h
  replace hF := (eg_ifn hF).2
  refine eg_iconst (v := (0 : Int32)) dX13_turnsOf_0 (by decide) ?_
  refine eg_istore_n (i := 2) [(2, .int (0 : Int32)), (0, .ref l0), (1, .int l1)] dX13_turnsOf_1 rfl (Nat.le_of_ble_eq_true rfl) rfl ?_
  refine eg_iconst (v := (1 : Int32)) dX13_turnsOf_2 (by decide) ?_
  refine eg_istore_n (i := 3) [(3, .int (1 : Int32)), (2, .int (0 : Int32)), (0, .ref l0), (1, .int l1)] dX13_turnsOf_3 rfl (Nat.le_of_ble_eq_true rfl) rfl ?_
  replace hF := eg_bind hF; obtain ⟨x2, e1, hF⟩ := hF
  refine eg_sub [2, 3, 1, 0] [(0, .ref l0), (1, .int l1), (2, .int (0 : Int32)), (3, .int (1 : Int32))] rfl (fX13_turnsOf_L4_ok eg_F h l0 l1 (0 : Int32) (1 : Int32) x2 e1 ?_)
  · intro v3 h4 e5
    subst e5
    refine eg_iload_n (i := 2) 0 dX13_turnsOf_160 rfl rfl ?_
    exact eg_iretE dX13_turnsOf_161 hF
theorem dX13_film_0 : decode cX13_film 0 = .ok (.aload_n 0, 1) := by decide +kernel
theorem dX13_film_1 : decode cX13_film 1 = .ok (.iconst 0, 1) := by decide +kernel
theorem dX13_film_2 : decode cX13_film 2 = .ok (.putfield 148, 3) := by decide +kernel
theorem dX13_film_5 : decode cX13_film 5 = .ok (.aload_n 0, 1) := by decide +kernel
theorem dX13_film_6 : decode cX13_film 6 = .ok (.iload_n 1, 1) := by decide +kernel
theorem dX13_film_7 : decode cX13_film 7 = .ok (.invokevirtual 474, 3) := by decide +kernel
theorem dX13_film_10 : decode cX13_film 10 = .ok (.ifCond .eq 34, 3) := by decide +kernel
theorem dX13_film_13 : decode cX13_film 13 = .ok (.iload_n 2, 1) := by decide +kernel
theorem dX13_film_14 : decode cX13_film 14 = .ok (.i2l, 1) := by decide +kernel
theorem dX13_film_15 : decode cX13_film 15 = .ok (.lconst 0, 1) := by decide +kernel
theorem dX13_film_16 : decode cX13_film 16 = .ok (.lconst 1, 1) := by decide +kernel
theorem dX13_film_17 : decode cX13_film 17 = .ok (.invokestatic 269, 3) := by decide +kernel
theorem dX13_film_20 : decode cX13_film 20 = .ok (.ifCond .eq 24, 3) := by decide +kernel
theorem dX13_film_23 : decode cX13_film 23 = .ok (.iload_n 2, 1) := by decide +kernel
theorem dX13_film_24 : decode cX13_film 24 = .ok (.ifCond .ne 11, 3) := by decide +kernel
theorem dX13_film_27 : decode cX13_film 27 = .ok (.aload_n 0, 1) := by decide +kernel
theorem dX13_film_28 : decode cX13_film 28 = .ok (.iload_n 1, 1) := by decide +kernel
theorem dX13_film_29 : decode cX13_film 29 = .ok (.invokevirtual 477, 3) := by decide +kernel
theorem dX13_film_32 : decode cX13_film 32 = .ok (.goto 13, 3) := by decide +kernel
theorem dX13_film_35 : decode cX13_film 35 = .ok (.aload_n 0, 1) := by decide +kernel
theorem dX13_film_36 : decode cX13_film 36 = .ok (.getfield 61, 3) := by decide +kernel
theorem dX13_film_39 : decode cX13_film 39 = .ok (.iload_n 1, 1) := by decide +kernel
theorem dX13_film_40 : decode cX13_film 40 = .ok (.iaload, 1) := by decide +kernel
theorem dX13_film_41 : decode cX13_film 41 = .ok (.goto 4, 3) := by decide +kernel
theorem dX13_film_44 : decode cX13_film 44 = .ok (.iconst (-1), 1) := by decide +kernel
theorem dX13_film_45 : decode cX13_film 45 = .ok (.ireturn, 1) := by decide +kernel
def fX13_film (h : eg_H) (l0 : Nat) (l1 : Int32) (l2 : Int32) : Option (Int32 × eg_H) :=
  if eg_isO h 13 l0 then (
    (eg_pI h 13 0 l0 (0 : Int32)).bind fun h1 =>
    (fX13_isFilm h1 l0 l1).bind fun ⟨v4, h3⟩ =>
    if v4 = 0 then
      (some ((-1 : Int32), h3))
    else
      (fX13_isIn h3 l2.toInt64 (0 : Int64) (1 : Int64)).bind fun ⟨v8, h7⟩ =>
      if v8 = 0 then
        (some ((-1 : Int32), h7))
      else
        if l2 = 0 then
          ((fX13_turnsOf h7 l0 l1).bind fun ⟨v13, h12⟩ =>
          some (v13, h12))
        else
          (eg_gR h7 13 31 l0).bind fun p15 =>
          (eg_aI h7 100 p15 l1).bind fun v17 =>
          some (v17, h7)) else none
theorem fX13_film_O {h : eg_H} {l0 : Nat} {l1 : Int32} {l2 : Int32} {rE : Int32} {hE : eg_H} (hF : fX13_film h l0 l1 l2 = some (rE, hE)) : eg_isO h 13 l0 := (eg_ifn hF).1
set_option maxRecDepth 20000 in
theorem mX13_film {h : eg_H} {l0 : Nat} {l1 : Int32} {l2 : Int32} {rE : Int32} {hE : eg_H} (hF : fX13_film h l0 l1 l2 = some (rE, hE)) : eg_Met yX13_film cX13_film 3 (some .int) 2 [.ref l0, .int l1, .int l2] h (some (.int rE)) hE := by
  refine eg_enter rfl (Nat.le_of_ble_eq_true rfl) ?_
  show eg_AW (RX13, cX13_film, 3, 2, none, "film", (some .int)) (eg_Zm (some (.int rE)) hE h) (eg_nc hE) (eg_ns hE) h 0 [(0, .ref l0), (1, .int l1), (2, .int l2)] [] h
  replace hF := (eg_ifn hF).2
  refine eg_aload_n (i := 0) 0 dX13_film_0 rfl rfl ?_
  refine eg_iconst (v := (0 : Int32)) dX13_film_1 (by decide) ?_
  replace hF := eg_bind hF; obtain ⟨h1, e2, hF⟩ := hF
  refine eg_putI dX13_film_2 e2 (Nat.le_of_ble_eq_true rfl) (Nat.le_of_ble_eq_true rfl) rfl ew_1434 (Or.inl rfl) ?_
  refine eg_aload_n (i := 0) 0 dX13_film_5 rfl rfl ?_
  refine eg_iload_n (i := 1) 1 dX13_film_6 rfl rfl ?_
  replace hF := eg_bind hF; obtain ⟨⟨v4, h3⟩, e5, hF⟩ := hF
  refine eg_callV (c := 13) (n := 1) [.int l1] dX13_film_7 (mX13_isFilm e5) rfl (fX13_isFilm_O e5) (Nat.le_of_ble_eq_true rfl) rfl ew_2078 ew_2080 ew_90 ew_110 ew_2081 hy_X13_isFilm rfl (Nat.le_of_ble_eq_true rfl) (Nat.le_of_ble_eq_true rfl) (Nat.le_of_ble_eq_true rfl) ?_
  refine eg_if_eq 44 dX13_film_10 rfl (fun c6 => ?_) (fun c6 => ?_)
  · replace hF := eg_it c6 hF
    refine eg_iconst (v := (-1 : Int32)) dX13_film_44 (by decide) ?_
    exact eg_iretE dX13_film_45 hF
  · replace hF := eg_if c6 hF
    refine eg_iload_n (i := 2) 2 dX13_film_13 rfl rfl ?_
    refine eg_i2l dX13_film_14 ?_
    refine eg_lconst (v := (0 : Int64)) dX13_film_15 (by decide) ?_
    refine eg_lconst (v := (1 : Int64)) dX13_film_16 (by decide) ?_
    replace hF := eg_bind hF; obtain ⟨⟨v8, h7⟩, e9, hF⟩ := hF
    refine eg_callS (n := 3) [.long l2.toInt64, .long (0 : Int64), .long (1 : Int64)] dX13_film_17 (mX13_isIn e9) rfl ew_1697 ew_1698 ew_110 ew_1699 hy_X13_isIn.2 rfl (Nat.le_of_ble_eq_true rfl) (Nat.le_of_ble_eq_true rfl) (Nat.le_of_ble_eq_true rfl) ?_
    refine eg_if_eq 44 dX13_film_20 rfl (fun c10 => ?_) (fun c10 => ?_)
    · replace hF := eg_it c10 hF
      refine eg_iconst (v := (-1 : Int32)) dX13_film_44 (by decide) ?_
      exact eg_iretE dX13_film_45 hF
    · replace hF := eg_if c10 hF
      refine eg_iload_n (i := 2) 2 dX13_film_23 rfl rfl ?_
      refine eg_if_ne 35 dX13_film_24 rfl (fun c11 => ?_) (fun c11 => ?_)
      · replace hF := eg_it c11 hF
        refine eg_aload_n (i := 0) 0 dX13_film_27 rfl rfl ?_
        refine eg_iload_n (i := 1) 1 dX13_film_28 rfl rfl ?_
        replace hF := eg_bind hF; obtain ⟨⟨v13, h12⟩, e14, hF⟩ := hF
        refine eg_callV (c := 13) (n := 1) [.int l1] dX13_film_29 (mX13_turnsOf e14) rfl (fX13_turnsOf_O e14) (Nat.le_of_ble_eq_true rfl) rfl ew_2082 ew_2084 ew_91 ew_110 ew_2085 hy_X13_turnsOf rfl (Nat.le_of_ble_eq_true rfl) (Nat.le_of_ble_eq_true rfl) (Nat.le_of_ble_eq_true rfl) ?_
        refine eg_goto 45 dX13_film_32 rfl ?_
        exact eg_iretE dX13_film_45 hF
      · replace hF := eg_if c11 hF
        refine eg_aload_n (i := 0) 0 dX13_film_35 rfl rfl ?_
        replace hF := eg_bind hF; obtain ⟨p15, e16, hF⟩ := hF
        refine eg_getR dX13_film_36 e16 (Nat.le_of_ble_eq_true rfl) (Nat.le_of_ble_eq_true rfl) rfl ew_1465 ?_
        refine eg_iload_n (i := 1) 1 dX13_film_39 rfl rfl ?_
        replace hF := eg_bind hF; obtain ⟨v17, e18, hF⟩ := hF
        refine eg_iald dX13_film_40 e18 ?_
        refine eg_goto 45 dX13_film_41 rfl ?_
        exact eg_iretE dX13_film_45 hF
theorem dX13_common_0 : decode cX13_common 0 = .ok (.iload_n 1, 1) := by decide +kernel
theorem dX13_common_1 : decode cX13_common 1 = .ok (.ifCond .ne 7, 3) := by decide +kernel
theorem dX13_common_4 : decode cX13_common 4 = .ok (.iload_n 0, 1) := by decide +kernel
theorem dX13_common_5 : decode cX13_common 5 = .ok (.goto 10, 3) := by decide +kernel
theorem dX13_common_8 : decode cX13_common 8 = .ok (.iload_n 1, 1) := by decide +kernel
theorem dX13_common_9 : decode cX13_common 9 = .ok (.iload_n 0, 1) := by decide +kernel
theorem dX13_common_10 : decode cX13_common 10 = .ok (.iload_n 1, 1) := by decide +kernel
theorem dX13_common_11 : decode cX13_common 11 = .ok (.irem, 1) := by decide +kernel
theorem dX13_common_12 : decode cX13_common 12 = .ok (.invokestatic 480, 3) := by decide +kernel
theorem dX13_common_15 : decode cX13_common 15 = .ok (.ireturn, 1) := by decide +kernel
def fX13_commonB (rc : eg_H → Int32 → Int32 → Option (Int32 × eg_H)) (h : eg_H) (l0 : Int32) (l1 : Int32) : Option (Int32 × eg_H) :=
  if l1 = 0 then
    (some (l0, h))
  else
    if l1 = 0 then none else
    (rc h l1 (l0 % l1)).bind fun ⟨v4, h3⟩ =>
    some (v4, h3)
set_option maxRecDepth 20000 in
theorem mX13_commonB {rc : eg_H → Int32 → Int32 → Option (Int32 × eg_H)} {dr : Nat} (hdr : 1 ≤ dr) (hrc : ∀ (h : eg_H) (a0 : Int32) (a1 : Int32) (rE : Int32) (hE : eg_H), rc h a0 a1 = some (rE, hE) → eg_Met yX13_common cX13_common 2 (some .int) dr [.int a0, .int a1] h (some (.int rE)) hE) {h : eg_H} {l0 : Int32} {l1 : Int32} {rE : Int32} {hE : eg_H} (hF : fX13_commonB rc h l0 l1 = some (rE, hE)) : eg_Met yX13_common cX13_common 2 (some .int) (dr + 1) [.int l0, .int l1] h (some (.int rE)) hE := by
  refine eg_enter rfl (Nat.le_of_ble_eq_true rfl) ?_
  show eg_AW (RX13, cX13_common, 2, dr + 1, none, "common", (some .int)) (eg_Zm (some (.int rE)) hE h) (eg_nc hE) (eg_ns hE) h 0 [(0, .int l0), (1, .int l1)] [] h
  refine eg_iload_n (i := 1) 1 dX13_common_0 rfl rfl ?_
  refine eg_if_ne 8 dX13_common_1 rfl (fun c1 => ?_) (fun c1 => ?_)
  · replace hF := eg_it c1 hF
    refine eg_iload_n (i := 0) 0 dX13_common_4 rfl rfl ?_
    refine eg_goto 15 dX13_common_5 rfl ?_
    exact eg_iretE dX13_common_15 hF
  · replace hF := eg_if c1 hF
    refine eg_iload_n (i := 1) 1 dX13_common_8 rfl rfl ?_
    refine eg_iload_n (i := 0) 0 dX13_common_9 rfl rfl ?_
    refine eg_iload_n (i := 1) 1 dX13_common_10 rfl rfl ?_
    replace hF := eg_nif hF; obtain ⟨c2, hF⟩ := hF
    refine eg_irem dX13_common_11 c2 ?_
    replace hF := eg_bind hF; obtain ⟨⟨v4, h3⟩, e5, hF⟩ := hF
    refine eg_callS (n := 2) [.int l1, .int (l0 % l1)] dX13_common_12 (hrc _ _ _ _ _ e5) rfl ew_2091 ew_2092 ew_110 ew_2093 hy_X13_common.2 rfl (by have := eg_D_eq; omega) (Nat.le_of_ble_eq_true rfl) (Nat.le_of_ble_eq_true rfl) ?_
    exact eg_iretE dX13_common_15 hF
def fX13_common : Nat → eg_H → Int32 → Int32 → Option (Int32 × eg_H)
  | 0 => fun _ _ _ => none
  | n + 1 => fX13_commonB (fX13_common n)
theorem mX13_common_x : ∀ (n : Nat) (h : eg_H) (l0 : Int32) (l1 : Int32) (rE : Int32) (hE : eg_H), fX13_common n h l0 l1 = some (rE, hE) → eg_Met yX13_common cX13_common 2 (some .int) (1 + 1 * n) [.int l0, .int l1] h (some (.int rE)) hE := by
  intro n
  induction n with
  | zero => intro h l0 l1 rE hE hF; cases hF
  | succ n ih =>
    intro h l0 l1 rE hE hF
    exact mX13_commonB (rc := fX13_common n) (dr := 1 + 1 * n) (by omega) ih hF
theorem mX13_common (n : Nat) {h : eg_H} {l0 : Int32} {l1 : Int32} {rE : Int32} {hE : eg_H} (hF : fX13_common n h l0 l1 = some (rE, hE)) : eg_Met yX13_common cX13_common 2 (some .int) (1 + 1 * n) [.int l0, .int l1] h (some (.int rE)) hE := mX13_common_x n h l0 l1 rE hE hF
theorem dX13_raw_0 : decode cX13_raw 0 = .ok (.aload_n 0, 1) := by decide +kernel
theorem dX13_raw_1 : decode cX13_raw 1 = .ok (.iconst 0, 1) := by decide +kernel
theorem dX13_raw_2 : decode cX13_raw 2 = .ok (.putfield 148, 3) := by decide +kernel
theorem dX13_raw_5 : decode cX13_raw 5 = .ok (.aload_n 0, 1) := by decide +kernel
theorem dX13_raw_6 : decode cX13_raw 6 = .ok (.iload_n 1, 1) := by decide +kernel
theorem dX13_raw_7 : decode cX13_raw 7 = .ok (.invokevirtual 474, 3) := by decide +kernel
theorem dX13_raw_10 : decode cX13_raw 10 = .ok (.ifCond .eq 25, 3) := by decide +kernel
theorem dX13_raw_13 : decode cX13_raw 13 = .ok (.iload_n 2, 1) := by decide +kernel
theorem dX13_raw_14 : decode cX13_raw 14 = .ok (.i2l, 1) := by decide +kernel
theorem dX13_raw_15 : decode cX13_raw 15 = .ok (.lconst 0, 1) := by decide +kernel
theorem dX13_raw_16 : decode cX13_raw 16 = .ok (.ldc2_w 483, 3) := by decide +kernel
theorem dX13_raw_19 : decode cX13_raw 19 = .ok (.invokestatic 269, 3) := by decide +kernel
theorem dX13_raw_22 : decode cX13_raw 22 = .ok (.ifCond .eq 13, 3) := by decide +kernel
theorem dX13_raw_25 : decode cX13_raw 25 = .ok (.iload_n 3, 1) := by decide +kernel
theorem dX13_raw_26 : decode cX13_raw 26 = .ok (.i2l, 1) := by decide +kernel
theorem dX13_raw_27 : decode cX13_raw 27 = .ok (.lconst 0, 1) := by decide +kernel
theorem dX13_raw_28 : decode cX13_raw 28 = .ok (.lconst 1, 1) := by decide +kernel
theorem dX13_raw_29 : decode cX13_raw 29 = .ok (.invokestatic 269, 3) := by decide +kernel
theorem dX13_raw_32 : decode cX13_raw 32 = .ok (.ifCond .ne 5, 3) := by decide +kernel
theorem dX13_raw_35 : decode cX13_raw 35 = .ok (.iconst (-1), 1) := by decide +kernel
theorem dX13_raw_36 : decode cX13_raw 36 = .ok (.ireturn, 1) := by decide +kernel
theorem dX13_raw_37 : decode cX13_raw 37 = .ok (.iload_n 2, 1) := by decide +kernel
theorem dX13_raw_38 : decode cX13_raw 38 = .ok (.aload_n 0, 1) := by decide +kernel
theorem dX13_raw_39 : decode cX13_raw 39 = .ok (.iload_n 1, 1) := by decide +kernel
theorem dX13_raw_40 : decode cX13_raw 40 = .ok (.invokevirtual 477, 3) := by decide +kernel
theorem dX13_raw_43 : decode cX13_raw 43 = .ok (.iconst 1, 1) := by decide +kernel
theorem dX13_raw_44 : decode cX13_raw 44 = .ok (.iadd, 1) := by decide +kernel
theorem dX13_raw_45 : decode cX13_raw 45 = .ok (.imul, 1) := by decide +kernel
theorem dX13_raw_46 : decode cX13_raw 46 = .ok (.istore 4, 2) := by decide +kernel
theorem dX13_raw_48 : decode cX13_raw 48 = .ok (.iload 4, 2) := by decide +kernel
theorem dX13_raw_50 : decode cX13_raw 50 = .ok (.bipush 100, 2) := by decide +kernel
theorem dX13_raw_52 : decode cX13_raw 52 = .ok (.iload_n 2, 1) := by decide +kernel
theorem dX13_raw_53 : decode cX13_raw 53 = .ok (.isub, 1) := by decide +kernel
theorem dX13_raw_54 : decode cX13_raw 54 = .ok (.aload_n 0, 1) := by decide +kernel
theorem dX13_raw_55 : decode cX13_raw 55 = .ok (.getfield 61, 3) := by decide +kernel
theorem dX13_raw_58 : decode cX13_raw 58 = .ok (.iload_n 1, 1) := by decide +kernel
theorem dX13_raw_59 : decode cX13_raw 59 = .ok (.iaload, 1) := by decide +kernel
theorem dX13_raw_60 : decode cX13_raw 60 = .ok (.iconst 4, 1) := by decide +kernel
theorem dX13_raw_61 : decode cX13_raw 61 = .ok (.idiv, 1) := by decide +kernel
theorem dX13_raw_62 : decode cX13_raw 62 = .ok (.iconst 1, 1) := by decide +kernel
theorem dX13_raw_63 : decode cX13_raw 63 = .ok (.iadd, 1) := by decide +kernel
theorem dX13_raw_64 : decode cX13_raw 64 = .ok (.imul, 1) := by decide +kernel
theorem dX13_raw_65 : decode cX13_raw 65 = .ok (.iadd, 1) := by decide +kernel
theorem dX13_raw_66 : decode cX13_raw 66 = .ok (.istore 5, 2) := by decide +kernel
theorem dX13_raw_68 : decode cX13_raw 68 = .ok (.iload 4, 2) := by decide +kernel
theorem dX13_raw_70 : decode cX13_raw 70 = .ok (.iload 5, 2) := by decide +kernel
theorem dX13_raw_72 : decode cX13_raw 72 = .ok (.invokestatic 480, 3) := by decide +kernel
theorem dX13_raw_75 : decode cX13_raw 75 = .ok (.istore 6, 2) := by decide +kernel
theorem dX13_raw_77 : decode cX13_raw 77 = .ok (.iload_n 3, 1) := by decide +kernel
theorem dX13_raw_78 : decode cX13_raw 78 = .ok (.ifCond .ne 11, 3) := by decide +kernel
theorem dX13_raw_81 : decode cX13_raw 81 = .ok (.iload 4, 2) := by decide +kernel
theorem dX13_raw_83 : decode cX13_raw 83 = .ok (.iload 6, 2) := by decide +kernel
theorem dX13_raw_85 : decode cX13_raw 85 = .ok (.idiv, 1) := by decide +kernel
theorem dX13_raw_86 : decode cX13_raw 86 = .ok (.goto 8, 3) := by decide +kernel
theorem dX13_raw_89 : decode cX13_raw 89 = .ok (.iload 5, 2) := by decide +kernel
theorem dX13_raw_91 : decode cX13_raw 91 = .ok (.iload 6, 2) := by decide +kernel
theorem dX13_raw_93 : decode cX13_raw 93 = .ok (.idiv, 1) := by decide +kernel
theorem dX13_raw_94 : decode cX13_raw 94 = .ok (.ireturn, 1) := by decide +kernel
def fX13_raw (h : eg_H) (l0 : Nat) (l1 : Int32) (l2 : Int32) (l3 : Int32) : Option (Int32 × eg_H) :=
  if eg_isO h 13 l0 then (
    (eg_pI h 13 0 l0 (0 : Int32)).bind fun h1 =>
    (fX13_isFilm h1 l0 l1).bind fun ⟨v4, h3⟩ =>
    if v4 = 0 then
      (some ((-1 : Int32), h3))
    else
      (fX13_isIn h3 l2.toInt64 (0 : Int64) (100 : Int64)).bind fun ⟨v8, h7⟩ =>
      if v8 = 0 then
        (some ((-1 : Int32), h7))
      else
        (fX13_isIn h7 l3.toInt64 (0 : Int64) (1 : Int64)).bind fun ⟨v12, h11⟩ =>
        if v12 = 0 then
          (some ((-1 : Int32), h11))
        else
          (fX13_turnsOf h11 l0 l1).bind fun ⟨v16, h15⟩ =>
          (some ((l2 * (v16 + (1 : Int32))))).bind fun v18 =>
          (eg_gR h15 13 31 l0).bind fun p20 =>
          (eg_aI h15 100 p20 l1).bind fun v22 =>
          (some ((v18 + (((100 : Int32) - l2) * ((v22 / (4 : Int32)) + (1 : Int32)))))).bind fun v24 =>
          (fX13_common eg_D h15 v18 v24).bind fun ⟨v27, h26⟩ =>
          if l3 = 0 then
            (if v27 = 0 then none else
            some ((v18 / v27), h26))
          else
            if v27 = 0 then none else
            some ((v24 / v27), h26)) else none
theorem fX13_raw_O {h : eg_H} {l0 : Nat} {l1 : Int32} {l2 : Int32} {l3 : Int32} {rE : Int32} {hE : eg_H} (hF : fX13_raw h l0 l1 l2 l3 = some (rE, hE)) : eg_isO h 13 l0 := (eg_ifn hF).1
set_option maxRecDepth 20000 in
theorem mX13_raw {h : eg_H} {l0 : Nat} {l1 : Int32} {l2 : Int32} {l3 : Int32} {rE : Int32} {hE : eg_H} (hF : fX13_raw h l0 l1 l2 l3 = some (rE, hE)) : eg_Met yX13_raw cX13_raw 7 (some .int) 66 [.ref l0, .int l1, .int l2, .int l3] h (some (.int rE)) hE := by
  refine eg_enter rfl (Nat.le_of_ble_eq_true rfl) ?_
  show eg_AW (RX13, cX13_raw, 7, 66, none, "raw", (some .int)) (eg_Zm (some (.int rE)) hE h) (eg_nc hE) (eg_ns hE) h 0 [(0, .ref l0), (1, .int l1), (2, .int l2), (3, .int l3)] [] h
  replace hF := (eg_ifn hF).2
  refine eg_aload_n (i := 0) 0 dX13_raw_0 rfl rfl ?_
  refine eg_iconst (v := (0 : Int32)) dX13_raw_1 (by decide) ?_
  replace hF := eg_bind hF; obtain ⟨h1, e2, hF⟩ := hF
  refine eg_putI dX13_raw_2 e2 (Nat.le_of_ble_eq_true rfl) (Nat.le_of_ble_eq_true rfl) rfl ew_1434 (Or.inl rfl) ?_
  refine eg_aload_n (i := 0) 0 dX13_raw_5 rfl rfl ?_
  refine eg_iload_n (i := 1) 1 dX13_raw_6 rfl rfl ?_
  replace hF := eg_bind hF; obtain ⟨⟨v4, h3⟩, e5, hF⟩ := hF
  refine eg_callV (c := 13) (n := 1) [.int l1] dX13_raw_7 (mX13_isFilm e5) rfl (fX13_isFilm_O e5) (Nat.le_of_ble_eq_true rfl) rfl ew_2078 ew_2080 ew_90 ew_110 ew_2081 hy_X13_isFilm rfl (Nat.le_of_ble_eq_true rfl) (Nat.le_of_ble_eq_true rfl) (Nat.le_of_ble_eq_true rfl) ?_
  refine eg_if_eq 35 dX13_raw_10 rfl (fun c6 => ?_) (fun c6 => ?_)
  · replace hF := eg_it c6 hF
    refine eg_iconst (v := (-1 : Int32)) dX13_raw_35 (by decide) ?_
    exact eg_iretE dX13_raw_36 hF
  · replace hF := eg_if c6 hF
    refine eg_iload_n (i := 2) 2 dX13_raw_13 rfl rfl ?_
    refine eg_i2l dX13_raw_14 ?_
    refine eg_lconst (v := (0 : Int64)) dX13_raw_15 (by decide) ?_
    refine eg_ldc2 (v := (100 : Int64)) dX13_raw_16 ew_2090 ?_
    replace hF := eg_bind hF; obtain ⟨⟨v8, h7⟩, e9, hF⟩ := hF
    refine eg_callS (n := 3) [.long l2.toInt64, .long (0 : Int64), .long (100 : Int64)] dX13_raw_19 (mX13_isIn e9) rfl ew_1697 ew_1698 ew_110 ew_1699 hy_X13_isIn.2 rfl (Nat.le_of_ble_eq_true rfl) (Nat.le_of_ble_eq_true rfl) (Nat.le_of_ble_eq_true rfl) ?_
    refine eg_if_eq 35 dX13_raw_22 rfl (fun c10 => ?_) (fun c10 => ?_)
    · replace hF := eg_it c10 hF
      refine eg_iconst (v := (-1 : Int32)) dX13_raw_35 (by decide) ?_
      exact eg_iretE dX13_raw_36 hF
    · replace hF := eg_if c10 hF
      refine eg_iload_n (i := 3) 3 dX13_raw_25 rfl rfl ?_
      refine eg_i2l dX13_raw_26 ?_
      refine eg_lconst (v := (0 : Int64)) dX13_raw_27 (by decide) ?_
      refine eg_lconst (v := (1 : Int64)) dX13_raw_28 (by decide) ?_
      replace hF := eg_bind hF; obtain ⟨⟨v12, h11⟩, e13, hF⟩ := hF
      refine eg_callS (n := 3) [.long l3.toInt64, .long (0 : Int64), .long (1 : Int64)] dX13_raw_29 (mX13_isIn e13) rfl ew_1697 ew_1698 ew_110 ew_1699 hy_X13_isIn.2 rfl (Nat.le_of_ble_eq_true rfl) (Nat.le_of_ble_eq_true rfl) (Nat.le_of_ble_eq_true rfl) ?_
      refine eg_if_ne 37 dX13_raw_32 rfl (fun c14 => ?_) (fun c14 => ?_)
      · replace hF := eg_it c14 hF
        refine eg_iconst (v := (-1 : Int32)) dX13_raw_35 (by decide) ?_
        exact eg_iretE dX13_raw_36 hF
      · replace hF := eg_if c14 hF
        refine eg_iload_n (i := 2) 2 dX13_raw_37 rfl rfl ?_
        refine eg_aload_n (i := 0) 0 dX13_raw_38 rfl rfl ?_
        refine eg_iload_n (i := 1) 1 dX13_raw_39 rfl rfl ?_
        replace hF := eg_bind hF; obtain ⟨⟨v16, h15⟩, e17, hF⟩ := hF
        refine eg_callV (c := 13) (n := 1) [.int l1] dX13_raw_40 (mX13_turnsOf e17) rfl (fX13_turnsOf_O e17) (Nat.le_of_ble_eq_true rfl) rfl ew_2082 ew_2084 ew_91 ew_110 ew_2085 hy_X13_turnsOf rfl (Nat.le_of_ble_eq_true rfl) (Nat.le_of_ble_eq_true rfl) (Nat.le_of_ble_eq_true rfl) ?_
        refine eg_iconst (v := (1 : Int32)) dX13_raw_43 (by decide) ?_
        refine eg_iadd dX13_raw_44 ?_
        refine eg_imul dX13_raw_45 ?_
        replace hF := eg_bind hF; obtain ⟨v18, e19, hF⟩ := hF
        replace e19 := Option.some.inj e19
        rw [e19]
        refine eg_istore (i := 4) [(4, .int v18), (0, .ref l0), (1, .int l1), (2, .int l2), (3, .int l3)] dX13_raw_46 (Nat.le_of_ble_eq_true rfl) rfl ?_
        refine eg_iload (i := 4) 0 dX13_raw_48 rfl ?_
        refine eg_bipush (v := (100 : Int32)) dX13_raw_50 (by decide) ?_
        refine eg_iload_n (i := 2) 3 dX13_raw_52 rfl rfl ?_
        refine eg_isub dX13_raw_53 ?_
        refine eg_aload_n (i := 0) 1 dX13_raw_54 rfl rfl ?_
        replace hF := eg_bind hF; obtain ⟨p20, e21, hF⟩ := hF
        refine eg_getR dX13_raw_55 e21 (Nat.le_of_ble_eq_true rfl) (Nat.le_of_ble_eq_true rfl) rfl ew_1465 ?_
        refine eg_iload_n (i := 1) 2 dX13_raw_58 rfl rfl ?_
        replace hF := eg_bind hF; obtain ⟨v22, e23, hF⟩ := hF
        refine eg_iald dX13_raw_59 e23 ?_
        refine eg_iconst (v := (4 : Int32)) dX13_raw_60 (by decide) ?_
        refine eg_idiv dX13_raw_61 (by decide) ?_
        refine eg_iconst (v := (1 : Int32)) dX13_raw_62 (by decide) ?_
        refine eg_iadd dX13_raw_63 ?_
        refine eg_imul dX13_raw_64 ?_
        refine eg_iadd dX13_raw_65 ?_
        replace hF := eg_bind hF; obtain ⟨v24, e25, hF⟩ := hF
        replace e25 := Option.some.inj e25
        rw [e25]
        refine eg_istore (i := 5) [(5, .int v24), (4, .int v18), (0, .ref l0), (1, .int l1), (2, .int l2), (3, .int l3)] dX13_raw_66 (Nat.le_of_ble_eq_true rfl) rfl ?_
        refine eg_iload (i := 4) 1 dX13_raw_68 rfl ?_
        refine eg_iload (i := 5) 0 dX13_raw_70 rfl ?_
        replace hF := eg_bind hF; obtain ⟨⟨v27, h26⟩, e28, hF⟩ := hF
        refine eg_callS (n := 2) [.int v18, .int v24] dX13_raw_72 (mX13_common eg_D e28) rfl ew_2091 ew_2092 ew_110 ew_2093 hy_X13_common.2 rfl (Nat.le_of_ble_eq_true rfl) (Nat.le_of_ble_eq_true rfl) (Nat.le_of_ble_eq_true rfl) ?_
        refine eg_istore (i := 6) [(6, .int v27), (5, .int v24), (4, .int v18), (0, .ref l0), (1, .int l1), (2, .int l2), (3, .int l3)] dX13_raw_75 (Nat.le_of_ble_eq_true rfl) rfl ?_
        refine eg_iload_n (i := 3) 6 dX13_raw_77 rfl rfl ?_
        refine eg_if_ne 89 dX13_raw_78 rfl (fun c29 => ?_) (fun c29 => ?_)
        · replace hF := eg_it c29 hF
          refine eg_iload (i := 4) 2 dX13_raw_81 rfl ?_
          refine eg_iload (i := 6) 0 dX13_raw_83 rfl ?_
          replace hF := eg_nif hF; obtain ⟨c30, hF⟩ := hF
          refine eg_idiv dX13_raw_85 c30 ?_
          refine eg_goto 94 dX13_raw_86 rfl ?_
          exact eg_iretE dX13_raw_94 hF
        · replace hF := eg_if c29 hF
          refine eg_iload (i := 5) 1 dX13_raw_89 rfl ?_
          refine eg_iload (i := 6) 0 dX13_raw_91 rfl ?_
          replace hF := eg_nif hF; obtain ⟨c31, hF⟩ := hF
          refine eg_idiv dX13_raw_93 c31 ?_
          exact eg_iretE dX13_raw_94 hF
theorem dX13_like_0 : decode cX13_like 0 = .ok (.aload_n 0, 1) := by decide +kernel
theorem dX13_like_1 : decode cX13_like 1 = .ok (.iconst 0, 1) := by decide +kernel
theorem dX13_like_2 : decode cX13_like 2 = .ok (.putfield 148, 3) := by decide +kernel
theorem dX13_like_5 : decode cX13_like 5 = .ok (.aload_n 0, 1) := by decide +kernel
theorem dX13_like_6 : decode cX13_like 6 = .ok (.iload_n 1, 1) := by decide +kernel
theorem dX13_like_7 : decode cX13_like 7 = .ok (.invokevirtual 474, 3) := by decide +kernel
theorem dX13_like_10 : decode cX13_like 10 = .ok (.ifCond .eq 11, 3) := by decide +kernel
theorem dX13_like_13 : decode cX13_like 13 = .ok (.aload_n 0, 1) := by decide +kernel
theorem dX13_like_14 : decode cX13_like 14 = .ok (.iload_n 2, 1) := by decide +kernel
theorem dX13_like_15 : decode cX13_like 15 = .ok (.invokevirtual 474, 3) := by decide +kernel
theorem dX13_like_18 : decode cX13_like 18 = .ok (.ifCond .ne 5, 3) := by decide +kernel
theorem dX13_like_21 : decode cX13_like 21 = .ok (.iconst (-1), 1) := by decide +kernel
theorem dX13_like_22 : decode cX13_like 22 = .ok (.ireturn, 1) := by decide +kernel
theorem dX13_like_23 : decode cX13_like 23 = .ok (.aload_n 0, 1) := by decide +kernel
theorem dX13_like_24 : decode cX13_like 24 = .ok (.getfield 61, 3) := by decide +kernel
theorem dX13_like_27 : decode cX13_like 27 = .ok (.iload_n 1, 1) := by decide +kernel
theorem dX13_like_28 : decode cX13_like 28 = .ok (.iaload, 1) := by decide +kernel
theorem dX13_like_29 : decode cX13_like 29 = .ok (.aload_n 0, 1) := by decide +kernel
theorem dX13_like_30 : decode cX13_like 30 = .ok (.getfield 61, 3) := by decide +kernel
theorem dX13_like_33 : decode cX13_like 33 = .ok (.iload_n 2, 1) := by decide +kernel
theorem dX13_like_34 : decode cX13_like 34 = .ok (.iaload, 1) := by decide +kernel
theorem dX13_like_35 : decode cX13_like 35 = .ok (.isub, 1) := by decide +kernel
theorem dX13_like_36 : decode cX13_like 36 = .ok (.invokestatic 373, 3) := by decide +kernel
theorem dX13_like_39 : decode cX13_like 39 = .ok (.istore_n 3, 1) := by decide +kernel
theorem dX13_like_40 : decode cX13_like 40 = .ok (.iconst 0, 1) := by decide +kernel
theorem dX13_like_41 : decode cX13_like 41 = .ok (.istore 4, 2) := by decide +kernel
theorem dX13_like_43 : decode cX13_like 43 = .ok (.iload 4, 2) := by decide +kernel
theorem dX13_like_45 : decode cX13_like 45 = .ok (.aload_n 0, 1) := by decide +kernel
theorem dX13_like_46 : decode cX13_like 46 = .ok (.getfield 61, 3) := by decide +kernel
theorem dX13_like_49 : decode cX13_like 49 = .ok (.iload_n 1, 1) := by decide +kernel
theorem dX13_like_50 : decode cX13_like 50 = .ok (.iaload, 1) := by decide +kernel
theorem dX13_like_51 : decode cX13_like 51 = .ok (.aload_n 0, 1) := by decide +kernel
theorem dX13_like_52 : decode cX13_like 52 = .ok (.getfield 61, 3) := by decide +kernel
theorem dX13_like_55 : decode cX13_like 55 = .ok (.iload_n 2, 1) := by decide +kernel
theorem dX13_like_56 : decode cX13_like 56 = .ok (.iaload, 1) := by decide +kernel
theorem dX13_like_57 : decode cX13_like 57 = .ok (.invokestatic 376, 3) := by decide +kernel
theorem dX13_like_60 : decode cX13_like 60 = .ok (.if_icmp .ge 44, 3) := by decide +kernel
theorem dX13_like_63 : decode cX13_like 63 = .ok (.iload_n 3, 1) := by decide +kernel
theorem dX13_like_64 : decode cX13_like 64 = .ok (.aload_n 0, 1) := by decide +kernel
theorem dX13_like_65 : decode cX13_like 65 = .ok (.getfield 55, 3) := by decide +kernel
theorem dX13_like_68 : decode cX13_like 68 = .ok (.bipush 24, 2) := by decide +kernel
theorem dX13_like_70 : decode cX13_like 70 = .ok (.iload_n 1, 1) := by decide +kernel
theorem dX13_like_71 : decode cX13_like 71 = .ok (.imul, 1) := by decide +kernel
theorem dX13_like_72 : decode cX13_like 72 = .ok (.iload 4, 2) := by decide +kernel
theorem dX13_like_74 : decode cX13_like 74 = .ok (.iadd, 1) := by decide +kernel
theorem dX13_like_75 : decode cX13_like 75 = .ok (.iaload, 1) := by decide +kernel
theorem dX13_like_76 : decode cX13_like 76 = .ok (.aload_n 0, 1) := by decide +kernel
theorem dX13_like_77 : decode cX13_like 77 = .ok (.getfield 55, 3) := by decide +kernel
theorem dX13_like_80 : decode cX13_like 80 = .ok (.bipush 24, 2) := by decide +kernel
theorem dX13_like_82 : decode cX13_like 82 = .ok (.iload_n 2, 1) := by decide +kernel
theorem dX13_like_83 : decode cX13_like 83 = .ok (.imul, 1) := by decide +kernel
theorem dX13_like_84 : decode cX13_like 84 = .ok (.iload 4, 2) := by decide +kernel
theorem dX13_like_86 : decode cX13_like 86 = .ok (.iadd, 1) := by decide +kernel
theorem dX13_like_87 : decode cX13_like 87 = .ok (.iaload, 1) := by decide +kernel
theorem dX13_like_88 : decode cX13_like 88 = .ok (.if_icmp .ne 7, 3) := by decide +kernel
theorem dX13_like_91 : decode cX13_like 91 = .ok (.iconst 0, 1) := by decide +kernel
theorem dX13_like_92 : decode cX13_like 92 = .ok (.goto 4, 3) := by decide +kernel
theorem dX13_like_95 : decode cX13_like 95 = .ok (.iconst 1, 1) := by decide +kernel
theorem dX13_like_96 : decode cX13_like 96 = .ok (.iadd, 1) := by decide +kernel
theorem dX13_like_97 : decode cX13_like 97 = .ok (.istore_n 3, 1) := by decide +kernel
theorem dX13_like_98 : decode cX13_like 98 = .ok (.iinc 4 1, 3) := by decide +kernel
theorem dX13_like_101 : decode cX13_like 101 = .ok (.goto (-58), 3) := by decide +kernel
theorem dX13_like_104 : decode cX13_like 104 = .ok (.iload_n 3, 1) := by decide +kernel
theorem dX13_like_105 : decode cX13_like 105 = .ok (.ireturn, 1) := by decide +kernel
def fX13_like_L43 : Nat → eg_H → Nat → Int32 → Int32 → Int32 → Int32 → Option (Int32 × eg_H)
  | 0, _, _, _, _, _, _ => none
  | n + 1, h, l0, l1, l2, l3, l4 =>
    (eg_gR h 13 31 l0).bind fun p1 =>
    (eg_aI h 100 p1 l1).bind fun v3 =>
    (eg_gR h 13 31 l0).bind fun p5 =>
    (eg_aI h 100 p5 l2).bind fun v7 =>
    if (eg_minI v3 v7) ≤ l4 then
      (some (l3, h))
    else
      (eg_gR h 13 29 l0).bind fun p10 =>
      (eg_aI h 100 p10 (((24 : Int32) * l1) + l4)).bind fun v12 =>
      (eg_gR h 13 29 l0).bind fun p14 =>
      (eg_aI h 100 p14 (((24 : Int32) * l2) + l4)).bind fun v16 =>
      if v12 = v16 then
        ((some ((l3 + (0 : Int32)))).bind fun v19 =>
        fX13_like_L43 n h l0 l1 l2 v19 (l4 + (1 : Int32)))
      else
        (some ((l3 + (1 : Int32)))).bind fun v21 =>
        fX13_like_L43 n h l0 l1 l2 v21 (l4 + (1 : Int32))
set_option maxRecDepth 20000 in
theorem fX13_like_L43_ok {h0 : eg_H} {Z : eg_C → State → Prop} {N S : Nat} : ∀ (n : Nat) (h : eg_H) (l0 : Nat) (l1 : Int32) (l2 : Int32) (l3 : Int32) (l4 : Int32) (eE : Int32 × eg_H), fX13_like_L43 n h l0 l1 l2 l3 l4 = some eE → (hk0 : ∀ (l3 : Int32) (h : eg_H), eE = (l3, h) → eg_AW (RX13, cX13_like, 5, 2, none, "like", (some .int)) Z N S h0 104 [(3, .int l3)] [] h) → eg_AW (RX13, cX13_like, 5, 2, none, "like", (some .int)) Z N S h0 43 [(0, .ref l0), (1, .int l1), (2, .int l2), (3, .int l3), (4, .int l4)] [] h := by
  intro n
  induction n with
  | zero => intro h l0 l1 l2 l3 l4 eE hF; exact absurd hF (by intro q; cases q)
  | succ n ih =>
    intro h l0 l1 l2 l3 l4 eE hF hk0
    have hrec := fun (h' : eg_H) (l0 : Nat) (l1 : Int32) (l2 : Int32) (l3 : Int32) (l4 : Int32) hq => ih h' l0 l1 l2 l3 l4 eE hq hk0
    refine eg_iload (i := 4) 4 dX13_like_43 rfl ?_
    refine eg_aload_n (i := 0) 0 dX13_like_45 rfl rfl ?_
    replace hF := eg_bind hF; obtain ⟨p1, e2, hF⟩ := hF
    refine eg_getR dX13_like_46 e2 (Nat.le_of_ble_eq_true rfl) (Nat.le_of_ble_eq_true rfl) rfl ew_1465 ?_
    refine eg_iload_n (i := 1) 1 dX13_like_49 rfl rfl ?_
    replace hF := eg_bind hF; obtain ⟨v3, e4, hF⟩ := hF
    refine eg_iald dX13_like_50 e4 ?_
    refine eg_aload_n (i := 0) 0 dX13_like_51 rfl rfl ?_
    replace hF := eg_bind hF; obtain ⟨p5, e6, hF⟩ := hF
    refine eg_getR dX13_like_52 e6 (Nat.le_of_ble_eq_true rfl) (Nat.le_of_ble_eq_true rfl) rfl ew_1465 ?_
    refine eg_iload_n (i := 2) 2 dX13_like_55 rfl rfl ?_
    replace hF := eg_bind hF; obtain ⟨v7, e8, hF⟩ := hF
    refine eg_iald dX13_like_56 e8 ?_
    refine eg_mmin dX13_like_57 ew_1923 (Nat.le_of_ble_eq_true rfl) (Nat.le_of_ble_eq_true rfl) ?_
    refine eg_ic_ge 104 dX13_like_60 rfl (fun c9 => ?_) (fun c9 => ?_)
    · replace hF := eg_it c9 hF
      exact eg_sub [3] [(3, .int l3)] rfl (hk0 l3 h (Option.some.inj hF).symm)
    · replace hF := eg_if c9 hF
      refine eg_iload_n (i := 3) 3 dX13_like_63 rfl rfl ?_
      refine eg_aload_n (i := 0) 0 dX13_like_64 rfl rfl ?_
      replace hF := eg_bind hF; obtain ⟨p10, e11, hF⟩ := hF
      refine eg_getR dX13_like_65 e11 (Nat.le_of_ble_eq_true rfl) (Nat.le_of_ble_eq_true rfl) rfl ew_1463 ?_
      refine eg_bipush (v := (24 : Int32)) dX13_like_68 (by decide) ?_
      refine eg_iload_n (i := 1) 1 dX13_like_70 rfl rfl ?_
      refine eg_imul dX13_like_71 ?_
      refine eg_iload (i := 4) 4 dX13_like_72 rfl ?_
      refine eg_iadd dX13_like_74 ?_
      replace hF := eg_bind hF; obtain ⟨v12, e13, hF⟩ := hF
      refine eg_iald dX13_like_75 e13 ?_
      refine eg_aload_n (i := 0) 0 dX13_like_76 rfl rfl ?_
      replace hF := eg_bind hF; obtain ⟨p14, e15, hF⟩ := hF
      refine eg_getR dX13_like_77 e15 (Nat.le_of_ble_eq_true rfl) (Nat.le_of_ble_eq_true rfl) rfl ew_1463 ?_
      refine eg_bipush (v := (24 : Int32)) dX13_like_80 (by decide) ?_
      refine eg_iload_n (i := 2) 2 dX13_like_82 rfl rfl ?_
      refine eg_imul dX13_like_83 ?_
      refine eg_iload (i := 4) 4 dX13_like_84 rfl ?_
      refine eg_iadd dX13_like_86 ?_
      replace hF := eg_bind hF; obtain ⟨v16, e17, hF⟩ := hF
      refine eg_iald dX13_like_87 e17 ?_
      refine eg_ic_ne 95 dX13_like_88 rfl (fun c18 => ?_) (fun c18 => ?_)
      · replace hF := eg_it c18 hF
        refine eg_iconst (v := (0 : Int32)) dX13_like_91 (by decide) ?_
        refine eg_goto 96 dX13_like_92 rfl ?_
        refine eg_iadd dX13_like_96 ?_
        replace hF := eg_bind hF; obtain ⟨v19, e20, hF⟩ := hF
        replace e20 := Option.some.inj e20
        rw [e20]
        refine eg_istore_n (i := 3) [(3, .int v19), (0, .ref l0), (1, .int l1), (2, .int l2), (4, .int l4)] dX13_like_97 rfl (Nat.le_of_ble_eq_true rfl) rfl ?_
        refine eg_iinc (i := 4) (v := (l4 + (1 : Int32))) 4 [(4, .int (l4 + (1 : Int32))), (3, .int v19), (0, .ref l0), (1, .int l1), (2, .int l2)] dX13_like_98 rfl rfl (Nat.le_of_ble_eq_true rfl) rfl ?_
        refine eg_goto 43 dX13_like_101 rfl ?_
        exact eg_sub [2, 3, 4, 1, 0] [(0, .ref l0), (1, .int l1), (2, .int l2), (3, .int v19), (4, .int (l4 + (1 : Int32)))] rfl (hrec h l0 l1 l2 v19 (l4 + (1 : Int32)) hF)
      · replace hF := eg_if c18 hF
        refine eg_iconst (v := (1 : Int32)) dX13_like_95 (by decide) ?_
        refine eg_iadd dX13_like_96 ?_
        replace hF := eg_bind hF; obtain ⟨v21, e22, hF⟩ := hF
        replace e22 := Option.some.inj e22
        rw [e22]
        refine eg_istore_n (i := 3) [(3, .int v21), (0, .ref l0), (1, .int l1), (2, .int l2), (4, .int l4)] dX13_like_97 rfl (Nat.le_of_ble_eq_true rfl) rfl ?_
        refine eg_iinc (i := 4) (v := (l4 + (1 : Int32))) 4 [(4, .int (l4 + (1 : Int32))), (3, .int v21), (0, .ref l0), (1, .int l1), (2, .int l2)] dX13_like_98 rfl rfl (Nat.le_of_ble_eq_true rfl) rfl ?_
        refine eg_goto 43 dX13_like_101 rfl ?_
        exact eg_sub [2, 3, 4, 1, 0] [(0, .ref l0), (1, .int l1), (2, .int l2), (3, .int v21), (4, .int (l4 + (1 : Int32)))] rfl (hrec h l0 l1 l2 v21 (l4 + (1 : Int32)) hF)
def fX13_like (h : eg_H) (l0 : Nat) (l1 : Int32) (l2 : Int32) : Option (Int32 × eg_H) :=
  if eg_isO h 13 l0 then (
    (eg_pI h 13 0 l0 (0 : Int32)).bind fun h1 =>
    (fX13_isFilm h1 l0 l1).bind fun ⟨v4, h3⟩ =>
    if v4 = 0 then
      (some ((-1 : Int32), h3))
    else
      (fX13_isFilm h3 l0 l2).bind fun ⟨v8, h7⟩ =>
      if v8 = 0 then
        (some ((-1 : Int32), h7))
      else
        (eg_gR h7 13 31 l0).bind fun p11 =>
        (eg_aI h7 100 p11 l1).bind fun v13 =>
        (eg_gR h7 13 31 l0).bind fun p15 =>
        (eg_aI h7 100 p15 l2).bind fun v17 =>
        (some ((eg_absI (v13 - v17)))).bind fun v19 =>
        (fX13_like_L43 eg_F h7 l0 l1 l2 v19 (0 : Int32)).bind fun e =>
        match e with
        | (v23, h24) =>
          some (v23, h24)) else none
theorem fX13_like_O {h : eg_H} {l0 : Nat} {l1 : Int32} {l2 : Int32} {rE : Int32} {hE : eg_H} (hF : fX13_like h l0 l1 l2 = some (rE, hE)) : eg_isO h 13 l0 := (eg_ifn hF).1
set_option maxRecDepth 20000 in
theorem mX13_like {h : eg_H} {l0 : Nat} {l1 : Int32} {l2 : Int32} {rE : Int32} {hE : eg_H} (hF : fX13_like h l0 l1 l2 = some (rE, hE)) : eg_Met yX13_like cX13_like 5 (some .int) 2 [.ref l0, .int l1, .int l2] h (some (.int rE)) hE := by
  refine eg_enter rfl (Nat.le_of_ble_eq_true rfl) ?_
  show eg_AW (RX13, cX13_like, 5, 2, none, "like", (some .int)) (eg_Zm (some (.int rE)) hE h) (eg_nc hE) (eg_ns hE) h 0 [(0, .ref l0), (1, .int l1), (2, .int l2)] [] h
  replace hF := (eg_ifn hF).2
  refine eg_aload_n (i := 0) 0 dX13_like_0 rfl rfl ?_
  refine eg_iconst (v := (0 : Int32)) dX13_like_1 (by decide) ?_
  replace hF := eg_bind hF; obtain ⟨h1, e2, hF⟩ := hF
  refine eg_putI dX13_like_2 e2 (Nat.le_of_ble_eq_true rfl) (Nat.le_of_ble_eq_true rfl) rfl ew_1434 (Or.inl rfl) ?_
  refine eg_aload_n (i := 0) 0 dX13_like_5 rfl rfl ?_
  refine eg_iload_n (i := 1) 1 dX13_like_6 rfl rfl ?_
  replace hF := eg_bind hF; obtain ⟨⟨v4, h3⟩, e5, hF⟩ := hF
  refine eg_callV (c := 13) (n := 1) [.int l1] dX13_like_7 (mX13_isFilm e5) rfl (fX13_isFilm_O e5) (Nat.le_of_ble_eq_true rfl) rfl ew_2078 ew_2080 ew_90 ew_110 ew_2081 hy_X13_isFilm rfl (Nat.le_of_ble_eq_true rfl) (Nat.le_of_ble_eq_true rfl) (Nat.le_of_ble_eq_true rfl) ?_
  refine eg_if_eq 21 dX13_like_10 rfl (fun c6 => ?_) (fun c6 => ?_)
  · replace hF := eg_it c6 hF
    refine eg_iconst (v := (-1 : Int32)) dX13_like_21 (by decide) ?_
    exact eg_iretE dX13_like_22 hF
  · replace hF := eg_if c6 hF
    refine eg_aload_n (i := 0) 0 dX13_like_13 rfl rfl ?_
    refine eg_iload_n (i := 2) 2 dX13_like_14 rfl rfl ?_
    replace hF := eg_bind hF; obtain ⟨⟨v8, h7⟩, e9, hF⟩ := hF
    refine eg_callV (c := 13) (n := 1) [.int l2] dX13_like_15 (mX13_isFilm e9) rfl (fX13_isFilm_O e9) (Nat.le_of_ble_eq_true rfl) rfl ew_2078 ew_2080 ew_90 ew_110 ew_2081 hy_X13_isFilm rfl (Nat.le_of_ble_eq_true rfl) (Nat.le_of_ble_eq_true rfl) (Nat.le_of_ble_eq_true rfl) ?_
    refine eg_if_ne 23 dX13_like_18 rfl (fun c10 => ?_) (fun c10 => ?_)
    · replace hF := eg_it c10 hF
      refine eg_iconst (v := (-1 : Int32)) dX13_like_21 (by decide) ?_
      exact eg_iretE dX13_like_22 hF
    · replace hF := eg_if c10 hF
      refine eg_aload_n (i := 0) 0 dX13_like_23 rfl rfl ?_
      replace hF := eg_bind hF; obtain ⟨p11, e12, hF⟩ := hF
      refine eg_getR dX13_like_24 e12 (Nat.le_of_ble_eq_true rfl) (Nat.le_of_ble_eq_true rfl) rfl ew_1465 ?_
      refine eg_iload_n (i := 1) 1 dX13_like_27 rfl rfl ?_
      replace hF := eg_bind hF; obtain ⟨v13, e14, hF⟩ := hF
      refine eg_iald dX13_like_28 e14 ?_
      refine eg_aload_n (i := 0) 0 dX13_like_29 rfl rfl ?_
      replace hF := eg_bind hF; obtain ⟨p15, e16, hF⟩ := hF
      refine eg_getR dX13_like_30 e16 (Nat.le_of_ble_eq_true rfl) (Nat.le_of_ble_eq_true rfl) rfl ew_1465 ?_
      refine eg_iload_n (i := 2) 2 dX13_like_33 rfl rfl ?_
      replace hF := eg_bind hF; obtain ⟨v17, e18, hF⟩ := hF
      refine eg_iald dX13_like_34 e18 ?_
      refine eg_isub dX13_like_35 ?_
      refine eg_mabs dX13_like_36 ew_1920 (Nat.le_of_ble_eq_true rfl) (Nat.le_of_ble_eq_true rfl) ?_
      replace hF := eg_bind hF; obtain ⟨v19, e20, hF⟩ := hF
      replace e20 := Option.some.inj e20
      rw [e20]
      refine eg_istore_n (i := 3) [(3, .int v19), (0, .ref l0), (1, .int l1), (2, .int l2)] dX13_like_39 rfl (Nat.le_of_ble_eq_true rfl) rfl ?_
      refine eg_iconst (v := (0 : Int32)) dX13_like_40 (by decide) ?_
      refine eg_istore (i := 4) [(4, .int (0 : Int32)), (3, .int v19), (0, .ref l0), (1, .int l1), (2, .int l2)] dX13_like_41 (Nat.le_of_ble_eq_true rfl) rfl ?_
      replace hF := eg_bind hF; obtain ⟨x22, e21, hF⟩ := hF
      refine eg_sub [2, 3, 4, 1, 0] [(0, .ref l0), (1, .int l1), (2, .int l2), (3, .int v19), (4, .int (0 : Int32))] rfl (fX13_like_L43_ok eg_F h7 l0 l1 l2 v19 (0 : Int32) x22 e21 ?_)
      · intro v23 h24 e25
        subst e25
        refine eg_iload_n (i := 3) 0 dX13_like_104 rfl rfl ?_
        exact eg_iretE dX13_like_105 hF
theorem dX13_layPairs_0 : decode cX13_layPairs 0 = .ok (.aload_n 0, 1) := by decide +kernel
theorem dX13_layPairs_1 : decode cX13_layPairs 1 = .ok (.getfield 335, 3) := by decide +kernel
theorem dX13_layPairs_4 : decode cX13_layPairs 4 = .ok (.ifCond .eq 17, 3) := by decide +kernel
theorem dX13_layPairs_7 : decode cX13_layPairs 7 = .ok (.aload_n 0, 1) := by decide +kernel
theorem dX13_layPairs_8 : decode cX13_layPairs 8 = .ok (.getfield 335, 3) := by decide +kernel
theorem dX13_layPairs_11 : decode cX13_layPairs 11 = .ok (.iconst 2, 1) := by decide +kernel
theorem dX13_layPairs_12 : decode cX13_layPairs 12 = .ok (.irem, 1) := by decide +kernel
theorem dX13_layPairs_13 : decode cX13_layPairs 13 = .ok (.iconst 1, 1) := by decide +kernel
theorem dX13_layPairs_14 : decode cX13_layPairs 14 = .ok (.if_icmp .eq 7, 3) := by decide +kernel
theorem dX13_layPairs_17 : decode cX13_layPairs 17 = .ok (.iload_n 1, 1) := by decide +kernel
theorem dX13_layPairs_18 : decode cX13_layPairs 18 = .ok (.ifCond .ge 5, 3) := by decide +kernel
theorem dX13_layPairs_21 : decode cX13_layPairs 21 = .ok (.iconst 0, 1) := by decide +kernel
theorem dX13_layPairs_22 : decode cX13_layPairs 22 = .ok (.ireturn, 1) := by decide +kernel
theorem dX13_layPairs_23 : decode cX13_layPairs 23 = .ok (.iload_n 1, 1) := by decide +kernel
theorem dX13_layPairs_24 : decode cX13_layPairs 24 = .ok (.istore_n 2, 1) := by decide +kernel
theorem dX13_layPairs_25 : decode cX13_layPairs 25 = .ok (.aload_n 0, 1) := by decide +kernel
theorem dX13_layPairs_26 : decode cX13_layPairs 26 = .ok (.getfield 335, 3) := by decide +kernel
theorem dX13_layPairs_29 : decode cX13_layPairs 29 = .ok (.iconst 1, 1) := by decide +kernel
theorem dX13_layPairs_30 : decode cX13_layPairs 30 = .ok (.isub, 1) := by decide +kernel
theorem dX13_layPairs_31 : decode cX13_layPairs 31 = .ok (.istore_n 3, 1) := by decide +kernel
theorem dX13_layPairs_32 : decode cX13_layPairs 32 = .ok (.iload_n 3, 1) := by decide +kernel
theorem dX13_layPairs_33 : decode cX13_layPairs 33 = .ok (.ifCond .lt 24, 3) := by decide +kernel
theorem dX13_layPairs_36 : decode cX13_layPairs 36 = .ok (.aload_n 0, 1) := by decide +kernel
theorem dX13_layPairs_37 : decode cX13_layPairs 37 = .ok (.getfield 79, 3) := by decide +kernel
theorem dX13_layPairs_40 : decode cX13_layPairs 40 = .ok (.iload_n 3, 1) := by decide +kernel
theorem dX13_layPairs_41 : decode cX13_layPairs 41 = .ok (.iload_n 2, 1) := by decide +kernel
theorem dX13_layPairs_42 : decode cX13_layPairs 42 = .ok (.bipush 10, 2) := by decide +kernel
theorem dX13_layPairs_44 : decode cX13_layPairs 44 = .ok (.irem, 1) := by decide +kernel
theorem dX13_layPairs_45 : decode cX13_layPairs 45 = .ok (.iastore, 1) := by decide +kernel
theorem dX13_layPairs_46 : decode cX13_layPairs 46 = .ok (.iload_n 2, 1) := by decide +kernel
theorem dX13_layPairs_47 : decode cX13_layPairs 47 = .ok (.bipush 10, 2) := by decide +kernel
theorem dX13_layPairs_49 : decode cX13_layPairs 49 = .ok (.idiv, 1) := by decide +kernel
theorem dX13_layPairs_50 : decode cX13_layPairs 50 = .ok (.istore_n 2, 1) := by decide +kernel
theorem dX13_layPairs_51 : decode cX13_layPairs 51 = .ok (.iinc 3 (-1), 3) := by decide +kernel
theorem dX13_layPairs_54 : decode cX13_layPairs 54 = .ok (.goto (-22), 3) := by decide +kernel
theorem dX13_layPairs_57 : decode cX13_layPairs 57 = .ok (.iload_n 2, 1) := by decide +kernel
theorem dX13_layPairs_58 : decode cX13_layPairs 58 = .ok (.ifCond .eq 5, 3) := by decide +kernel
theorem dX13_layPairs_61 : decode cX13_layPairs 61 = .ok (.iconst 0, 1) := by decide +kernel
theorem dX13_layPairs_62 : decode cX13_layPairs 62 = .ok (.ireturn, 1) := by decide +kernel
theorem dX13_layPairs_63 : decode cX13_layPairs 63 = .ok (.aload_n 0, 1) := by decide +kernel
theorem dX13_layPairs_64 : decode cX13_layPairs 64 = .ok (.iconst 0, 1) := by decide +kernel
theorem dX13_layPairs_65 : decode cX13_layPairs 65 = .ok (.putfield 485, 3) := by decide +kernel
theorem dX13_layPairs_68 : decode cX13_layPairs 68 = .ok (.iconst 0, 1) := by decide +kernel
theorem dX13_layPairs_69 : decode cX13_layPairs 69 = .ok (.istore_n 3, 1) := by decide +kernel
theorem dX13_layPairs_70 : decode cX13_layPairs 70 = .ok (.iload_n 3, 1) := by decide +kernel
theorem dX13_layPairs_71 : decode cX13_layPairs 71 = .ok (.aload_n 0, 1) := by decide +kernel
theorem dX13_layPairs_72 : decode cX13_layPairs 72 = .ok (.getfield 335, 3) := by decide +kernel
theorem dX13_layPairs_75 : decode cX13_layPairs 75 = .ok (.if_icmp .ge 82, 3) := by decide +kernel
theorem dX13_layPairs_78 : decode cX13_layPairs 78 = .ok (.aload_n 0, 1) := by decide +kernel
theorem dX13_layPairs_79 : decode cX13_layPairs 79 = .ok (.getfield 79, 3) := by decide +kernel
theorem dX13_layPairs_82 : decode cX13_layPairs 82 = .ok (.iload_n 3, 1) := by decide +kernel
theorem dX13_layPairs_83 : decode cX13_layPairs 83 = .ok (.iaload, 1) := by decide +kernel
theorem dX13_layPairs_84 : decode cX13_layPairs 84 = .ok (.aload_n 0, 1) := by decide +kernel
theorem dX13_layPairs_85 : decode cX13_layPairs 85 = .ok (.getfield 335, 3) := by decide +kernel
theorem dX13_layPairs_88 : decode cX13_layPairs 88 = .ok (.if_icmp .ge 28, 3) := by decide +kernel
theorem dX13_layPairs_91 : decode cX13_layPairs 91 = .ok (.aload_n 0, 1) := by decide +kernel
theorem dX13_layPairs_92 : decode cX13_layPairs 92 = .ok (.getfield 79, 3) := by decide +kernel
theorem dX13_layPairs_95 : decode cX13_layPairs 95 = .ok (.iload_n 3, 1) := by decide +kernel
theorem dX13_layPairs_96 : decode cX13_layPairs 96 = .ok (.iaload, 1) := by decide +kernel
theorem dX13_layPairs_97 : decode cX13_layPairs 97 = .ok (.iload_n 3, 1) := by decide +kernel
theorem dX13_layPairs_98 : decode cX13_layPairs 98 = .ok (.if_icmp .eq 18, 3) := by decide +kernel
theorem dX13_layPairs_101 : decode cX13_layPairs 101 = .ok (.aload_n 0, 1) := by decide +kernel
theorem dX13_layPairs_102 : decode cX13_layPairs 102 = .ok (.getfield 79, 3) := by decide +kernel
theorem dX13_layPairs_105 : decode cX13_layPairs 105 = .ok (.aload_n 0, 1) := by decide +kernel
theorem dX13_layPairs_106 : decode cX13_layPairs 106 = .ok (.getfield 79, 3) := by decide +kernel
theorem dX13_layPairs_109 : decode cX13_layPairs 109 = .ok (.iload_n 3, 1) := by decide +kernel
theorem dX13_layPairs_110 : decode cX13_layPairs 110 = .ok (.iaload, 1) := by decide +kernel
theorem dX13_layPairs_111 : decode cX13_layPairs 111 = .ok (.iaload, 1) := by decide +kernel
theorem dX13_layPairs_112 : decode cX13_layPairs 112 = .ok (.iload_n 3, 1) := by decide +kernel
theorem dX13_layPairs_113 : decode cX13_layPairs 113 = .ok (.if_icmp .eq 5, 3) := by decide +kernel
theorem dX13_layPairs_116 : decode cX13_layPairs 116 = .ok (.iconst 0, 1) := by decide +kernel
theorem dX13_layPairs_117 : decode cX13_layPairs 117 = .ok (.ireturn, 1) := by decide +kernel
theorem dX13_layPairs_118 : decode cX13_layPairs 118 = .ok (.aload_n 0, 1) := by decide +kernel
theorem dX13_layPairs_119 : decode cX13_layPairs 119 = .ok (.getfield 79, 3) := by decide +kernel
theorem dX13_layPairs_122 : decode cX13_layPairs 122 = .ok (.iload_n 3, 1) := by decide +kernel
theorem dX13_layPairs_123 : decode cX13_layPairs 123 = .ok (.iaload, 1) := by decide +kernel
theorem dX13_layPairs_124 : decode cX13_layPairs 124 = .ok (.iload_n 3, 1) := by decide +kernel
theorem dX13_layPairs_125 : decode cX13_layPairs 125 = .ok (.if_icmp .ge 6, 3) := by decide +kernel
theorem dX13_layPairs_128 : decode cX13_layPairs 128 = .ok (.goto 23, 3) := by decide +kernel
theorem dX13_layPairs_131 : decode cX13_layPairs 131 = .ok (.aload_n 0, 1) := by decide +kernel
theorem dX13_layPairs_132 : decode cX13_layPairs 132 = .ok (.getfield 100, 3) := by decide +kernel
theorem dX13_layPairs_135 : decode cX13_layPairs 135 = .ok (.aload_n 0, 1) := by decide +kernel
theorem dX13_layPairs_136 : decode cX13_layPairs 136 = .ok (.getfield 485, 3) := by decide +kernel
theorem dX13_layPairs_139 : decode cX13_layPairs 139 = .ok (.iload_n 3, 1) := by decide +kernel
theorem dX13_layPairs_140 : decode cX13_layPairs 140 = .ok (.iastore, 1) := by decide +kernel
theorem dX13_layPairs_141 : decode cX13_layPairs 141 = .ok (.aload_n 0, 1) := by decide +kernel
theorem dX13_layPairs_142 : decode cX13_layPairs 142 = .ok (.dup, 1) := by decide +kernel
theorem dX13_layPairs_143 : decode cX13_layPairs 143 = .ok (.getfield 485, 3) := by decide +kernel
theorem dX13_layPairs_146 : decode cX13_layPairs 146 = .ok (.iconst 1, 1) := by decide +kernel
theorem dX13_layPairs_147 : decode cX13_layPairs 147 = .ok (.iadd, 1) := by decide +kernel
theorem dX13_layPairs_148 : decode cX13_layPairs 148 = .ok (.putfield 485, 3) := by decide +kernel
theorem dX13_layPairs_151 : decode cX13_layPairs 151 = .ok (.iinc 3 1, 3) := by decide +kernel
theorem dX13_layPairs_154 : decode cX13_layPairs 154 = .ok (.goto (-84), 3) := by decide +kernel
theorem dX13_layPairs_157 : decode cX13_layPairs 157 = .ok (.iconst 1, 1) := by decide +kernel
theorem dX13_layPairs_158 : decode cX13_layPairs 158 = .ok (.ireturn, 1) := by decide +kernel
def fX13_layPairs_L32 : Nat → eg_H → Nat → Int32 → Int32 → Option (Nat × Int32 × eg_H)
  | 0, _, _, _, _ => none
  | n + 1, h, l0, l2, l3 =>
    if l3 < 0 then
      (some (l0, l2, h))
    else
      (eg_gR h 13 43 l0).bind fun p2 =>
      (eg_wI h 100 p2 l3 (l2 % (10 : Int32))).bind fun h4 =>
      (some ((l2 / (10 : Int32)))).bind fun v6 =>
      fX13_layPairs_L32 n h4 l0 v6 (l3 + (-1 : Int32))
set_option maxRecDepth 20000 in
theorem fX13_layPairs_L32_ok {h0 : eg_H} {Z : eg_C → State → Prop} {N S : Nat} : ∀ (n : Nat) (h : eg_H) (l0 : Nat) (l2 : Int32) (l3 : Int32) (eE : Nat × Int32 × eg_H), fX13_layPairs_L32 n h l0 l2 l3 = some eE → (hk0 : ∀ (l0 : Nat) (l2 : Int32) (h : eg_H), eE = (l0, l2, h) → eg_AW (RX13, cX13_layPairs, 4, 1, none, "layPairs", (some .boolean)) Z N S h0 57 [(0, .ref l0), (2, .int l2)] [] h) → eg_AW (RX13, cX13_layPairs, 4, 1, none, "layPairs", (some .boolean)) Z N S h0 32 [(0, .ref l0), (2, .int l2), (3, .int l3)] [] h := by
  intro n
  induction n with
  | zero => intro h l0 l2 l3 eE hF; exact absurd hF (by intro q; cases q)
  | succ n ih =>
    intro h l0 l2 l3 eE hF hk0
    have hrec := fun (h' : eg_H) (l0 : Nat) (l2 : Int32) (l3 : Int32) hq => ih h' l0 l2 l3 eE hq hk0
    refine eg_iload_n (i := 3) 2 dX13_layPairs_32 rfl rfl ?_
    refine eg_if_lt 57 dX13_layPairs_33 rfl (fun c1 => ?_) (fun c1 => ?_)
    · replace hF := eg_it c1 hF
      exact eg_sub [0, 1] [(0, .ref l0), (2, .int l2)] rfl (hk0 l0 l2 h (Option.some.inj hF).symm)
    · replace hF := eg_if c1 hF
      refine eg_aload_n (i := 0) 0 dX13_layPairs_36 rfl rfl ?_
      replace hF := eg_bind hF; obtain ⟨p2, e3, hF⟩ := hF
      refine eg_getR dX13_layPairs_37 e3 (Nat.le_of_ble_eq_true rfl) (Nat.le_of_ble_eq_true rfl) rfl ew_1477 ?_
      refine eg_iload_n (i := 3) 2 dX13_layPairs_40 rfl rfl ?_
      refine eg_iload_n (i := 2) 1 dX13_layPairs_41 rfl rfl ?_
      refine eg_bipush (v := (10 : Int32)) dX13_layPairs_42 (by decide) ?_
      refine eg_irem dX13_layPairs_44 (by decide) ?_
      replace hF := eg_bind hF; obtain ⟨h4, e5, hF⟩ := hF
      refine eg_iast dX13_layPairs_45 e5 ?_
      refine eg_iload_n (i := 2) 1 dX13_layPairs_46 rfl rfl ?_
      refine eg_bipush (v := (10 : Int32)) dX13_layPairs_47 (by decide) ?_
      refine eg_idiv dX13_layPairs_49 (by decide) ?_
      replace hF := eg_bind hF; obtain ⟨v6, e7, hF⟩ := hF
      replace e7 := Option.some.inj e7
      rw [e7]
      refine eg_istore_n (i := 2) [(2, .int v6), (0, .ref l0), (3, .int l3)] dX13_layPairs_50 rfl (Nat.le_of_ble_eq_true rfl) rfl ?_
      refine eg_iinc (i := 3) (v := (l3 + (-1 : Int32))) 2 [(3, .int (l3 + (-1 : Int32))), (2, .int v6), (0, .ref l0)] dX13_layPairs_51 rfl rfl (Nat.le_of_ble_eq_true rfl) rfl ?_
      refine eg_goto 32 dX13_layPairs_54 rfl ?_
      exact eg_sub [2, 1, 0] [(0, .ref l0), (2, .int v6), (3, .int (l3 + (-1 : Int32)))] rfl (hrec h4 l0 v6 (l3 + (-1 : Int32)) hF)
def fX13_layPairs_L70 : Nat → eg_H → Nat → Int32 → Option ((eg_H) ⊕ (eg_H))
  | 0, _, _, _ => none
  | n + 1, h, l0, l3 =>
    (eg_gI h 13 24 l0).bind fun v1 =>
    if v1 ≤ l3 then
      (some (.inl h))
    else
      (eg_gR h 13 43 l0).bind fun p4 =>
      (eg_aI h 100 p4 l3).bind fun v6 =>
      (eg_gI h 13 24 l0).bind fun v8 =>
      if v8 ≤ v6 then
        (some (.inr (h)))
      else
        (eg_gR h 13 43 l0).bind fun p11 =>
        (eg_aI h 100 p11 l3).bind fun v13 =>
        if v13 = l3 then
          (some (.inr (h)))
        else
          (eg_gR h 13 43 l0).bind fun p16 =>
          (eg_gR h 13 43 l0).bind fun p18 =>
          (eg_aI h 100 p18 l3).bind fun v20 =>
          (eg_aI h 100 p16 v20).bind fun v22 =>
          if v22 = l3 then
            ((eg_gR h 13 43 l0).bind fun p25 =>
            (eg_aI h 100 p25 l3).bind fun v27 =>
            if l3 ≤ v27 then
              ((eg_gR h 13 53 l0).bind fun p30 =>
              (eg_gI h 13 54 l0).bind fun v32 =>
              (eg_wI h 100 p30 v32 l3).bind fun h34 =>
              (eg_gI h34 13 54 l0).bind fun v36 =>
              (eg_pI h34 13 54 l0 (v36 + (1 : Int32))).bind fun h38 =>
              fX13_layPairs_L70 n h38 l0 (l3 + (1 : Int32)))
            else
              fX13_layPairs_L70 n h l0 (l3 + (1 : Int32)))
          else
            some (.inr (h))
set_option maxRecDepth 20000 in
theorem fX13_layPairs_L70_ok {h0 : eg_H} {Z : eg_C → State → Prop} {N S : Nat} : ∀ (n : Nat) (h : eg_H) (l0 : Nat) (l3 : Int32) (eE : (eg_H) ⊕ (eg_H)), fX13_layPairs_L70 n h l0 l3 = some eE → (hk0 : ∀  (h : eg_H), eE = (.inl h) → eg_AW (RX13, cX13_layPairs, 4, 1, none, "layPairs", (some .boolean)) Z N S h0 157 [] [] h) → (hk1 : ∀  (h : eg_H), eE = (.inr (h)) → eg_AW (RX13, cX13_layPairs, 4, 1, none, "layPairs", (some .boolean)) Z N S h0 116 [] [] h) → eg_AW (RX13, cX13_layPairs, 4, 1, none, "layPairs", (some .boolean)) Z N S h0 70 [(0, .ref l0), (3, .int l3)] [] h := by
  intro n
  induction n with
  | zero => intro h l0 l3 eE hF; exact absurd hF (by intro q; cases q)
  | succ n ih =>
    intro h l0 l3 eE hF hk0 hk1
    have hrec := fun (h' : eg_H) (l0 : Nat) (l3 : Int32) hq => ih h' l0 l3 eE hq hk0 hk1
    refine eg_iload_n (i := 3) 1 dX13_layPairs_70 rfl rfl ?_
    refine eg_aload_n (i := 0) 0 dX13_layPairs_71 rfl rfl ?_
    replace hF := eg_bind hF; obtain ⟨v1, e2, hF⟩ := hF
    refine eg_getI dX13_layPairs_72 e2 (Nat.le_of_ble_eq_true rfl) (Nat.le_of_ble_eq_true rfl) rfl ew_1458 ?_
    refine eg_ic_ge 157 dX13_layPairs_75 rfl (fun c3 => ?_) (fun c3 => ?_)
    · replace hF := eg_it c3 hF
      exact eg_sub [] [] rfl (hk0 h (Option.some.inj hF).symm)
    · replace hF := eg_if c3 hF
      refine eg_aload_n (i := 0) 0 dX13_layPairs_78 rfl rfl ?_
      replace hF := eg_bind hF; obtain ⟨p4, e5, hF⟩ := hF
      refine eg_getR dX13_layPairs_79 e5 (Nat.le_of_ble_eq_true rfl) (Nat.le_of_ble_eq_true rfl) rfl ew_1477 ?_
      refine eg_iload_n (i := 3) 1 dX13_layPairs_82 rfl rfl ?_
      replace hF := eg_bind hF; obtain ⟨v6, e7, hF⟩ := hF
      refine eg_iald dX13_layPairs_83 e7 ?_
      refine eg_aload_n (i := 0) 0 dX13_layPairs_84 rfl rfl ?_
      replace hF := eg_bind hF; obtain ⟨v8, e9, hF⟩ := hF
      refine eg_getI dX13_layPairs_85 e9 (Nat.le_of_ble_eq_true rfl) (Nat.le_of_ble_eq_true rfl) rfl ew_1458 ?_
      refine eg_ic_ge 116 dX13_layPairs_88 rfl (fun c10 => ?_) (fun c10 => ?_)
      · replace hF := eg_it c10 hF
        exact eg_sub [] [] rfl (hk1 h (Option.some.inj hF).symm)
      · replace hF := eg_if c10 hF
        refine eg_aload_n (i := 0) 0 dX13_layPairs_91 rfl rfl ?_
        replace hF := eg_bind hF; obtain ⟨p11, e12, hF⟩ := hF
        refine eg_getR dX13_layPairs_92 e12 (Nat.le_of_ble_eq_true rfl) (Nat.le_of_ble_eq_true rfl) rfl ew_1477 ?_
        refine eg_iload_n (i := 3) 1 dX13_layPairs_95 rfl rfl ?_
        replace hF := eg_bind hF; obtain ⟨v13, e14, hF⟩ := hF
        refine eg_iald dX13_layPairs_96 e14 ?_
        refine eg_iload_n (i := 3) 1 dX13_layPairs_97 rfl rfl ?_
        refine eg_ic_eq 116 dX13_layPairs_98 rfl (fun c15 => ?_) (fun c15 => ?_)
        · replace hF := eg_it c15 hF
          exact eg_sub [] [] rfl (hk1 h (Option.some.inj hF).symm)
        · replace hF := eg_if c15 hF
          refine eg_aload_n (i := 0) 0 dX13_layPairs_101 rfl rfl ?_
          replace hF := eg_bind hF; obtain ⟨p16, e17, hF⟩ := hF
          refine eg_getR dX13_layPairs_102 e17 (Nat.le_of_ble_eq_true rfl) (Nat.le_of_ble_eq_true rfl) rfl ew_1477 ?_
          refine eg_aload_n (i := 0) 0 dX13_layPairs_105 rfl rfl ?_
          replace hF := eg_bind hF; obtain ⟨p18, e19, hF⟩ := hF
          refine eg_getR dX13_layPairs_106 e19 (Nat.le_of_ble_eq_true rfl) (Nat.le_of_ble_eq_true rfl) rfl ew_1477 ?_
          refine eg_iload_n (i := 3) 1 dX13_layPairs_109 rfl rfl ?_
          replace hF := eg_bind hF; obtain ⟨v20, e21, hF⟩ := hF
          refine eg_iald dX13_layPairs_110 e21 ?_
          replace hF := eg_bind hF; obtain ⟨v22, e23, hF⟩ := hF
          refine eg_iald dX13_layPairs_111 e23 ?_
          refine eg_iload_n (i := 3) 1 dX13_layPairs_112 rfl rfl ?_
          refine eg_ic_eq 118 dX13_layPairs_113 rfl (fun c24 => ?_) (fun c24 => ?_)
          · replace hF := eg_it c24 hF
            refine eg_aload_n (i := 0) 0 dX13_layPairs_118 rfl rfl ?_
            replace hF := eg_bind hF; obtain ⟨p25, e26, hF⟩ := hF
            refine eg_getR dX13_layPairs_119 e26 (Nat.le_of_ble_eq_true rfl) (Nat.le_of_ble_eq_true rfl) rfl ew_1477 ?_
            refine eg_iload_n (i := 3) 1 dX13_layPairs_122 rfl rfl ?_
            replace hF := eg_bind hF; obtain ⟨v27, e28, hF⟩ := hF
            refine eg_iald dX13_layPairs_123 e28 ?_
            refine eg_iload_n (i := 3) 1 dX13_layPairs_124 rfl rfl ?_
            refine eg_ic_ge 131 dX13_layPairs_125 rfl (fun c29 => ?_) (fun c29 => ?_)
            · replace hF := eg_it c29 hF
              refine eg_aload_n (i := 0) 0 dX13_layPairs_131 rfl rfl ?_
              replace hF := eg_bind hF; obtain ⟨p30, e31, hF⟩ := hF
              refine eg_getR dX13_layPairs_132 e31 (Nat.le_of_ble_eq_true rfl) (Nat.le_of_ble_eq_true rfl) rfl ew_1487 ?_
              refine eg_aload_n (i := 0) 0 dX13_layPairs_135 rfl rfl ?_
              replace hF := eg_bind hF; obtain ⟨v32, e33, hF⟩ := hF
              refine eg_getI dX13_layPairs_136 e33 (Nat.le_of_ble_eq_true rfl) (Nat.le_of_ble_eq_true rfl) rfl ew_1488 ?_
              refine eg_iload_n (i := 3) 1 dX13_layPairs_139 rfl rfl ?_
              replace hF := eg_bind hF; obtain ⟨h34, e35, hF⟩ := hF
              refine eg_iast dX13_layPairs_140 e35 ?_
              refine eg_aload_n (i := 0) 0 dX13_layPairs_141 rfl rfl ?_
              refine eg_dup dX13_layPairs_142 rfl ?_
              replace hF := eg_bind hF; obtain ⟨v36, e37, hF⟩ := hF
              refine eg_getI dX13_layPairs_143 e37 (Nat.le_of_ble_eq_true rfl) (Nat.le_of_ble_eq_true rfl) rfl ew_1488 ?_
              refine eg_iconst (v := (1 : Int32)) dX13_layPairs_146 (by decide) ?_
              refine eg_iadd dX13_layPairs_147 ?_
              replace hF := eg_bind hF; obtain ⟨h38, e39, hF⟩ := hF
              refine eg_putI dX13_layPairs_148 e39 (Nat.le_of_ble_eq_true rfl) (Nat.le_of_ble_eq_true rfl) rfl ew_1488 (Or.inl rfl) ?_
              refine eg_iinc (i := 3) (v := (l3 + (1 : Int32))) 1 [(3, .int (l3 + (1 : Int32))), (0, .ref l0)] dX13_layPairs_151 rfl rfl (Nat.le_of_ble_eq_true rfl) rfl ?_
              refine eg_goto 70 dX13_layPairs_154 rfl ?_
              exact eg_sub [1, 0] [(0, .ref l0), (3, .int (l3 + (1 : Int32)))] rfl (hrec h38 l0 (l3 + (1 : Int32)) hF)
            · replace hF := eg_if c29 hF
              refine eg_goto 151 dX13_layPairs_128 rfl ?_
              refine eg_iinc (i := 3) (v := (l3 + (1 : Int32))) 1 [(3, .int (l3 + (1 : Int32))), (0, .ref l0)] dX13_layPairs_151 rfl rfl (Nat.le_of_ble_eq_true rfl) rfl ?_
              refine eg_goto 70 dX13_layPairs_154 rfl ?_
              exact eg_sub [1, 0] [(0, .ref l0), (3, .int (l3 + (1 : Int32)))] rfl (hrec h l0 (l3 + (1 : Int32)) hF)
          · replace hF := eg_if c24 hF
            exact eg_sub [] [] rfl (hk1 h (Option.some.inj hF).symm)
def fX13_layPairs (h : eg_H) (l0 : Nat) (l1 : Int32) : Option (Int32 × eg_H) :=
  if eg_isO h 13 l0 then (
    (eg_gI h 13 24 l0).bind fun v1 =>
    if v1 = 0 then
      (some ((0 : Int32), h))
    else
      (eg_gI h 13 24 l0).bind fun v4 =>
      if (v4 % (2 : Int32)) = (1 : Int32) then
        (some ((0 : Int32), h))
      else
        if 0 ≤ l1 then
          ((eg_gI h 13 24 l0).bind fun v8 =>
          (some ((v8 - (1 : Int32)))).bind fun v10 =>
          (fX13_layPairs_L32 eg_F h l0 l1 v10).bind fun e =>
          match e with
          | (p14, v15, h16) =>
            if v15 = 0 then
              ((eg_pI h16 13 54 p14 (0 : Int32)).bind fun h18 =>
              (fX13_layPairs_L70 eg_F h18 p14 (0 : Int32)).bind fun e =>
              match e with
              | .inl h22 =>
                some ((1 : Int32), h22)
              | .inr (h24) =>
                some ((0 : Int32), h24))
            else
              some ((0 : Int32), h16))
        else
          some ((0 : Int32), h)) else none
theorem fX13_layPairs_O {h : eg_H} {l0 : Nat} {l1 : Int32} {rE : Int32} {hE : eg_H} (hF : fX13_layPairs h l0 l1 = some (rE, hE)) : eg_isO h 13 l0 := (eg_ifn hF).1
set_option maxRecDepth 20000 in
theorem mX13_layPairs {h : eg_H} {l0 : Nat} {l1 : Int32} {rE : Int32} {hE : eg_H} (hF : fX13_layPairs h l0 l1 = some (rE, hE)) : eg_Met yX13_layPairs cX13_layPairs 4 (some .boolean) 1 [.ref l0, .int l1] h (some (.int rE)) hE := by
  refine eg_enter rfl (Nat.le_of_ble_eq_true rfl) ?_
  show eg_AW (RX13, cX13_layPairs, 4, 1, none, "layPairs", (some .boolean)) (eg_Zm (some (.int rE)) hE h) (eg_nc hE) (eg_ns hE) h 0 [(0, .ref l0), (1, .int l1)] [] h
  replace hF := (eg_ifn hF).2
  refine eg_aload_n (i := 0) 0 dX13_layPairs_0 rfl rfl ?_
  replace hF := eg_bind hF; obtain ⟨v1, e2, hF⟩ := hF
  refine eg_getI dX13_layPairs_1 e2 (Nat.le_of_ble_eq_true rfl) (Nat.le_of_ble_eq_true rfl) rfl ew_1458 ?_
  refine eg_if_eq 21 dX13_layPairs_4 rfl (fun c3 => ?_) (fun c3 => ?_)
  · replace hF := eg_it c3 hF
    refine eg_iconst (v := (0 : Int32)) dX13_layPairs_21 (by decide) ?_
    exact eg_zretE dX13_layPairs_22 (Or.inl rfl) hF
  · replace hF := eg_if c3 hF
    refine eg_aload_n (i := 0) 0 dX13_layPairs_7 rfl rfl ?_
    replace hF := eg_bind hF; obtain ⟨v4, e5, hF⟩ := hF
    refine eg_getI dX13_layPairs_8 e5 (Nat.le_of_ble_eq_true rfl) (Nat.le_of_ble_eq_true rfl) rfl ew_1458 ?_
    refine eg_iconst (v := (2 : Int32)) dX13_layPairs_11 (by decide) ?_
    refine eg_irem dX13_layPairs_12 (by decide) ?_
    refine eg_iconst (v := (1 : Int32)) dX13_layPairs_13 (by decide) ?_
    refine eg_ic_eq 21 dX13_layPairs_14 rfl (fun c6 => ?_) (fun c6 => ?_)
    · replace hF := eg_it c6 hF
      refine eg_iconst (v := (0 : Int32)) dX13_layPairs_21 (by decide) ?_
      exact eg_zretE dX13_layPairs_22 (Or.inl rfl) hF
    · replace hF := eg_if c6 hF
      refine eg_iload_n (i := 1) 1 dX13_layPairs_17 rfl rfl ?_
      refine eg_if_ge 23 dX13_layPairs_18 rfl (fun c7 => ?_) (fun c7 => ?_)
      · replace hF := eg_it c7 hF
        refine eg_iload_n (i := 1) 1 dX13_layPairs_23 rfl rfl ?_
        refine eg_istore_n (i := 2) [(2, .int l1), (0, .ref l0), (1, .int l1)] dX13_layPairs_24 rfl (Nat.le_of_ble_eq_true rfl) rfl ?_
        refine eg_aload_n (i := 0) 1 dX13_layPairs_25 rfl rfl ?_
        replace hF := eg_bind hF; obtain ⟨v8, e9, hF⟩ := hF
        refine eg_getI dX13_layPairs_26 e9 (Nat.le_of_ble_eq_true rfl) (Nat.le_of_ble_eq_true rfl) rfl ew_1458 ?_
        refine eg_iconst (v := (1 : Int32)) dX13_layPairs_29 (by decide) ?_
        refine eg_isub dX13_layPairs_30 ?_
        replace hF := eg_bind hF; obtain ⟨v10, e11, hF⟩ := hF
        replace e11 := Option.some.inj e11
        rw [e11]
        refine eg_istore_n (i := 3) [(3, .int v10), (2, .int l1), (0, .ref l0), (1, .int l1)] dX13_layPairs_31 rfl (Nat.le_of_ble_eq_true rfl) rfl ?_
        replace hF := eg_bind hF; obtain ⟨x13, e12, hF⟩ := hF
        refine eg_sub [2, 1, 0] [(0, .ref l0), (2, .int l1), (3, .int v10)] rfl (fX13_layPairs_L32_ok eg_F h l0 l1 v10 x13 e12 ?_)
        · intro p14 v15 h16 e26
          subst e26
          refine eg_iload_n (i := 2) 1 dX13_layPairs_57 rfl rfl ?_
          refine eg_if_eq 63 dX13_layPairs_58 rfl (fun c17 => ?_) (fun c17 => ?_)
          · replace hF := eg_it c17 hF
            refine eg_aload_n (i := 0) 0 dX13_layPairs_63 rfl rfl ?_
            refine eg_iconst (v := (0 : Int32)) dX13_layPairs_64 (by decide) ?_
            replace hF := eg_bind hF; obtain ⟨h18, e19, hF⟩ := hF
            refine eg_putI dX13_layPairs_65 e19 (Nat.le_of_ble_eq_true rfl) (Nat.le_of_ble_eq_true rfl) rfl ew_1488 (Or.inl rfl) ?_
            refine eg_iconst (v := (0 : Int32)) dX13_layPairs_68 (by decide) ?_
            refine eg_istore_n (i := 3) [(3, .int (0 : Int32)), (0, .ref p14), (2, .int v15)] dX13_layPairs_69 rfl (Nat.le_of_ble_eq_true rfl) rfl ?_
            replace hF := eg_bind hF; obtain ⟨x21, e20, hF⟩ := hF
            refine eg_sub [1, 0] [(0, .ref p14), (3, .int (0 : Int32))] rfl (fX13_layPairs_L70_ok eg_F h18 p14 (0 : Int32) x21 e20 ?_ ?_)
            · intro h22 e23
              subst e23
              refine eg_iconst (v := (1 : Int32)) dX13_layPairs_157 (by decide) ?_
              exact eg_zretE dX13_layPairs_158 (Or.inr rfl) hF
            · intro h24 e25
              subst e25
              refine eg_iconst (v := (0 : Int32)) dX13_layPairs_116 (by decide) ?_
              exact eg_zretE dX13_layPairs_117 (Or.inl rfl) hF
          · replace hF := eg_if c17 hF
            refine eg_iconst (v := (0 : Int32)) dX13_layPairs_61 (by decide) ?_
            exact eg_zretE dX13_layPairs_62 (Or.inl rfl) hF
      · replace hF := eg_if c7 hF
        refine eg_iconst (v := (0 : Int32)) dX13_layPairs_21 (by decide) ?_
        exact eg_zretE dX13_layPairs_22 (Or.inl rfl) hF
theorem dX13_isThrownWell_0 : decode cX13_isThrownWell 0 = .ok (.iload_n 3, 1) := by decide +kernel
theorem dX13_isThrownWell_1 : decode cX13_isThrownWell 1 = .ok (.iconst 2, 1) := by decide +kernel
theorem dX13_isThrownWell_2 : decode cX13_isThrownWell 2 = .ok (.irem, 1) := by decide +kernel
theorem dX13_isThrownWell_3 : decode cX13_isThrownWell 3 = .ok (.iconst 1, 1) := by decide +kernel
theorem dX13_isThrownWell_4 : decode cX13_isThrownWell 4 = .ok (.if_icmp .ne 7, 3) := by decide +kernel
theorem dX13_isThrownWell_7 : decode cX13_isThrownWell 7 = .ok (.iconst 1, 1) := by decide +kernel
theorem dX13_isThrownWell_8 : decode cX13_isThrownWell 8 = .ok (.goto 4, 3) := by decide +kernel
theorem dX13_isThrownWell_11 : decode cX13_isThrownWell 11 = .ok (.iconst 0, 1) := by decide +kernel
theorem dX13_isThrownWell_12 : decode cX13_isThrownWell 12 = .ok (.istore 5, 2) := by decide +kernel
theorem dX13_isThrownWell_14 : decode cX13_isThrownWell 14 = .ok (.iload 5, 2) := by decide +kernel
theorem dX13_isThrownWell_16 : decode cX13_isThrownWell 16 = .ok (.ifCond .eq 10, 3) := by decide +kernel
theorem dX13_isThrownWell_19 : decode cX13_isThrownWell 19 = .ok (.iload_n 1, 1) := by decide +kernel
theorem dX13_isThrownWell_20 : decode cX13_isThrownWell 20 = .ok (.bipush 10, 2) := by decide +kernel
theorem dX13_isThrownWell_22 : decode cX13_isThrownWell 22 = .ok (.idiv, 1) := by decide +kernel
theorem dX13_isThrownWell_23 : decode cX13_isThrownWell 23 = .ok (.goto 7, 3) := by decide +kernel
theorem dX13_isThrownWell_26 : decode cX13_isThrownWell 26 = .ok (.iload_n 1, 1) := by decide +kernel
theorem dX13_isThrownWell_27 : decode cX13_isThrownWell 27 = .ok (.bipush 10, 2) := by decide +kernel
theorem dX13_isThrownWell_29 : decode cX13_isThrownWell 29 = .ok (.irem, 1) := by decide +kernel
theorem dX13_isThrownWell_30 : decode cX13_isThrownWell 30 = .ok (.istore 6, 2) := by decide +kernel
theorem dX13_isThrownWell_32 : decode cX13_isThrownWell 32 = .ok (.iload 5, 2) := by decide +kernel
theorem dX13_isThrownWell_34 : decode cX13_isThrownWell 34 = .ok (.ifCond .eq 10, 3) := by decide +kernel
theorem dX13_isThrownWell_37 : decode cX13_isThrownWell 37 = .ok (.iload_n 1, 1) := by decide +kernel
theorem dX13_isThrownWell_38 : decode cX13_isThrownWell 38 = .ok (.bipush 10, 2) := by decide +kernel
theorem dX13_isThrownWell_40 : decode cX13_isThrownWell 40 = .ok (.irem, 1) := by decide +kernel
theorem dX13_isThrownWell_41 : decode cX13_isThrownWell 41 = .ok (.goto 7, 3) := by decide +kernel
theorem dX13_isThrownWell_44 : decode cX13_isThrownWell 44 = .ok (.iload_n 1, 1) := by decide +kernel
theorem dX13_isThrownWell_45 : decode cX13_isThrownWell 45 = .ok (.bipush 10, 2) := by decide +kernel
theorem dX13_isThrownWell_47 : decode cX13_isThrownWell 47 = .ok (.idiv, 1) := by decide +kernel
theorem dX13_isThrownWell_48 : decode cX13_isThrownWell 48 = .ok (.istore 7, 2) := by decide +kernel
theorem dX13_isThrownWell_50 : decode cX13_isThrownWell 50 = .ok (.bipush 10, 2) := by decide +kernel
theorem dX13_isThrownWell_52 : decode cX13_isThrownWell 52 = .ok (.iload_n 2, 1) := by decide +kernel
theorem dX13_isThrownWell_53 : decode cX13_isThrownWell 53 = .ok (.imul, 1) := by decide +kernel
theorem dX13_isThrownWell_54 : decode cX13_isThrownWell 54 = .ok (.iload 5, 2) := by decide +kernel
theorem dX13_isThrownWell_56 : decode cX13_isThrownWell 56 = .ok (.ifCond .eq 7, 3) := by decide +kernel
theorem dX13_isThrownWell_59 : decode cX13_isThrownWell 59 = .ok (.iconst 0, 1) := by decide +kernel
theorem dX13_isThrownWell_60 : decode cX13_isThrownWell 60 = .ok (.goto 4, 3) := by decide +kernel
theorem dX13_isThrownWell_63 : decode cX13_isThrownWell 63 = .ok (.iconst 1, 1) := by decide +kernel
theorem dX13_isThrownWell_64 : decode cX13_isThrownWell 64 = .ok (.iadd, 1) := by decide +kernel
theorem dX13_isThrownWell_65 : decode cX13_isThrownWell 65 = .ok (.istore 8, 2) := by decide +kernel
theorem dX13_isThrownWell_67 : decode cX13_isThrownWell 67 = .ok (.aload_n 0, 1) := by decide +kernel
theorem dX13_isThrownWell_68 : decode cX13_isThrownWell 68 = .ok (.iload 6, 2) := by decide +kernel
theorem dX13_isThrownWell_70 : decode cX13_isThrownWell 70 = .ok (.iload 7, 2) := by decide +kernel
theorem dX13_isThrownWell_72 : decode cX13_isThrownWell 72 = .ok (.iload 8, 2) := by decide +kernel
theorem dX13_isThrownWell_74 : decode cX13_isThrownWell 74 = .ok (.iload 4, 2) := by decide +kernel
theorem dX13_isThrownWell_76 : decode cX13_isThrownWell 76 = .ok (.invokevirtual 426, 3) := by decide +kernel
theorem dX13_isThrownWell_79 : decode cX13_isThrownWell 79 = .ok (.aload_n 0, 1) := by decide +kernel
theorem dX13_isThrownWell_80 : decode cX13_isThrownWell 80 = .ok (.aload_n 0, 1) := by decide +kernel
theorem dX13_isThrownWell_81 : decode cX13_isThrownWell 81 = .ok (.getfield 488, 3) := by decide +kernel
theorem dX13_isThrownWell_84 : decode cX13_isThrownWell 84 = .ok (.ldc2_w 491, 3) := by decide +kernel
theorem dX13_isThrownWell_87 : decode cX13_isThrownWell 87 = .ok (.lmul, 1) := by decide +kernel
theorem dX13_isThrownWell_88 : decode cX13_isThrownWell 88 = .ok (.ldc2_w 493, 3) := by decide +kernel
theorem dX13_isThrownWell_91 : decode cX13_isThrownWell 91 = .ok (.ladd, 1) := by decide +kernel
theorem dX13_isThrownWell_92 : decode cX13_isThrownWell 92 = .ok (.putfield 488, 3) := by decide +kernel
theorem dX13_isThrownWell_95 : decode cX13_isThrownWell 95 = .ok (.aload_n 0, 1) := by decide +kernel
theorem dX13_isThrownWell_96 : decode cX13_isThrownWell 96 = .ok (.getfield 488, 3) := by decide +kernel
theorem dX13_isThrownWell_99 : decode cX13_isThrownWell 99 = .ok (.bipush 33, 2) := by decide +kernel
theorem dX13_isThrownWell_101 : decode cX13_isThrownWell 101 = .ok (.lushr, 1) := by decide +kernel
theorem dX13_isThrownWell_102 : decode cX13_isThrownWell 102 = .ok (.iconst 2, 1) := by decide +kernel
theorem dX13_isThrownWell_103 : decode cX13_isThrownWell 103 = .ok (.aload_n 0, 1) := by decide +kernel
theorem dX13_isThrownWell_104 : decode cX13_isThrownWell 104 = .ok (.getfield 43, 3) := by decide +kernel
theorem dX13_isThrownWell_107 : decode cX13_isThrownWell 107 = .ok (.iconst 4, 1) := by decide +kernel
theorem dX13_isThrownWell_108 : decode cX13_isThrownWell 108 = .ok (.iload 6, 2) := by decide +kernel
theorem dX13_isThrownWell_110 : decode cX13_isThrownWell 110 = .ok (.imul, 1) := by decide +kernel
theorem dX13_isThrownWell_111 : decode cX13_isThrownWell 111 = .ok (.iaload, 1) := by decide +kernel
theorem dX13_isThrownWell_112 : decode cX13_isThrownWell 112 = .ok (.imul, 1) := by decide +kernel
theorem dX13_isThrownWell_113 : decode cX13_isThrownWell 113 = .ok (.iconst 1, 1) := by decide +kernel
theorem dX13_isThrownWell_114 : decode cX13_isThrownWell 114 = .ok (.iadd, 1) := by decide +kernel
theorem dX13_isThrownWell_115 : decode cX13_isThrownWell 115 = .ok (.i2l, 1) := by decide +kernel
theorem dX13_isThrownWell_116 : decode cX13_isThrownWell 116 = .ok (.lrem, 1) := by decide +kernel
theorem dX13_isThrownWell_117 : decode cX13_isThrownWell 117 = .ok (.l2i, 1) := by decide +kernel
theorem dX13_isThrownWell_118 : decode cX13_isThrownWell 118 = .ok (.aload_n 0, 1) := by decide +kernel
theorem dX13_isThrownWell_119 : decode cX13_isThrownWell 119 = .ok (.getfield 43, 3) := by decide +kernel
theorem dX13_isThrownWell_122 : decode cX13_isThrownWell 122 = .ok (.iconst 4, 1) := by decide +kernel
theorem dX13_isThrownWell_123 : decode cX13_isThrownWell 123 = .ok (.iload 6, 2) := by decide +kernel
theorem dX13_isThrownWell_125 : decode cX13_isThrownWell 125 = .ok (.imul, 1) := by decide +kernel
theorem dX13_isThrownWell_126 : decode cX13_isThrownWell 126 = .ok (.iaload, 1) := by decide +kernel
theorem dX13_isThrownWell_127 : decode cX13_isThrownWell 127 = .ok (.isub, 1) := by decide +kernel
theorem dX13_isThrownWell_128 : decode cX13_isThrownWell 128 = .ok (.istore 9, 2) := by decide +kernel
theorem dX13_isThrownWell_130 : decode cX13_isThrownWell 130 = .ok (.aload_n 0, 1) := by decide +kernel
theorem dX13_isThrownWell_131 : decode cX13_isThrownWell 131 = .ok (.iload 7, 2) := by decide +kernel
theorem dX13_isThrownWell_133 : decode cX13_isThrownWell 133 = .ok (.iload 8, 2) := by decide +kernel
theorem dX13_isThrownWell_135 : decode cX13_isThrownWell 135 = .ok (.iload 4, 2) := by decide +kernel
theorem dX13_isThrownWell_137 : decode cX13_isThrownWell 137 = .ok (.aload_n 0, 1) := by decide +kernel
theorem dX13_isThrownWell_138 : decode cX13_isThrownWell 138 = .ok (.getfield 420, 3) := by decide +kernel
theorem dX13_isThrownWell_141 : decode cX13_isThrownWell 141 = .ok (.invokevirtual 398, 3) := by decide +kernel
theorem dX13_isThrownWell_144 : decode cX13_isThrownWell 144 = .ok (.aload_n 0, 1) := by decide +kernel
theorem dX13_isThrownWell_145 : decode cX13_isThrownWell 145 = .ok (.aload_n 0, 1) := by decide +kernel
theorem dX13_isThrownWell_146 : decode cX13_isThrownWell 146 = .ok (.iload 8, 2) := by decide +kernel
theorem dX13_isThrownWell_148 : decode cX13_isThrownWell 148 = .ok (.bipush 10, 2) := by decide +kernel
theorem dX13_isThrownWell_150 : decode cX13_isThrownWell 150 = .ok (.irem, 1) := by decide +kernel
theorem dX13_isThrownWell_151 : decode cX13_isThrownWell 151 = .ok (.aload_n 0, 1) := by decide +kernel
theorem dX13_isThrownWell_152 : decode cX13_isThrownWell 152 = .ok (.getfield 420, 3) := by decide +kernel
theorem dX13_isThrownWell_155 : decode cX13_isThrownWell 155 = .ok (.aload_n 0, 1) := by decide +kernel
theorem dX13_isThrownWell_156 : decode cX13_isThrownWell 156 = .ok (.getfield 423, 3) := by decide +kernel
theorem dX13_isThrownWell_159 : decode cX13_isThrownWell 159 = .ok (.iload 9, 2) := by decide +kernel
theorem dX13_isThrownWell_161 : decode cX13_isThrownWell 161 = .ok (.invokevirtual 369, 3) := by decide +kernel
theorem dX13_isThrownWell_164 : decode cX13_isThrownWell 164 = .ok (.invokevirtual 395, 3) := by decide +kernel
theorem dX13_isThrownWell_167 : decode cX13_isThrownWell 167 = .ok (.ireturn, 1) := by decide +kernel
def fX13_isThrownWell_j64 (h : eg_H) (l0 : Nat) (l4 : Int32) (l6 : Int32) (l7 : Int32) (s0 : Int32) (s1 : Int32) : Option (Int32 × eg_H) :=
  (some ((s0 + s1))).bind fun v1 =>
  (fX13_layBest h l0 l6 l7 v1 l4).bind fun h3 =>
  (eg_gL h3 13 55 l0).bind fun v5 =>
  (eg_pL h3 13 55 l0 ((v5 * (6364136223846793005 : Int64)) + (1442695040888963407 : Int64))).bind fun h7 =>
  (eg_gL h7 13 55 l0).bind fun v9 =>
  (eg_gR h7 13 20 l0).bind fun p11 =>
  (eg_aI h7 100 p11 ((4 : Int32) * l6)).bind fun v13 =>
  if (((2 : Int32) * v13) + (1 : Int32)).toInt64 = 0 then none else
  (eg_gR h7 13 20 l0).bind fun p16 =>
  (eg_aI h7 100 p16 ((4 : Int32) * l6)).bind fun v18 =>
  (some ((((v9.toUInt64 >>> ((33 : Int32).toInt64.toUInt64 &&& Int64.toUInt64 63)).toInt64 - (v9.toUInt64 >>> ((33 : Int32).toInt64.toUInt64 &&& Int64.toUInt64 63)).toInt64 / (((2 : Int32) * v13) + (1 : Int32)).toInt64 * (((2 : Int32) * v13) + (1 : Int32)).toInt64).toInt32 - v18))).bind fun v20 =>
  (eg_gI h7 13 36 l0).bind fun v22 =>
  (fX13_layHolds h7 l0 l7 v1 l4 v22).bind fun h24 =>
  (eg_gI h24 13 36 l0).bind fun v26 =>
  (eg_gI h24 13 37 l0).bind fun v28 =>
  (fX13_offOf h24 l0 (v1 % (10 : Int32)) v26 v28 v20).bind fun ⟨v31, h30⟩ =>
  (fX13_isCaught h30 l0 v31).bind fun ⟨v34, h33⟩ =>
  if v34 = 0 ∨ v34 = 1 then some (v34, h33) else none
set_option maxRecDepth 20000 in
theorem fX13_isThrownWell_j64_ok {h0 : eg_H} (h : eg_H) (l0 : Nat) (l4 : Int32) (l6 : Int32) (l7 : Int32) (s0 : Int32) (s1 : Int32) {rE : Int32} {hE : eg_H} (hF : fX13_isThrownWell_j64 h l0 l4 l6 l7 s0 s1 = some (rE, hE)) : eg_AW (RX13, cX13_isThrownWell, 10, 398, none, "isThrownWell", (some .boolean)) (eg_Zm (some (.int rE)) hE h0) (eg_nc hE) (eg_ns hE) h0 64 [(0, .ref l0), (4, .int l4), (6, .int l6), (7, .int l7)] [.int s1, .int s0] h := by
  refine eg_iadd dX13_isThrownWell_64 ?_
  replace hF := eg_bind hF; obtain ⟨v1, e2, hF⟩ := hF
  replace e2 := Option.some.inj e2
  rw [e2]
  refine eg_istore (i := 8) [(8, .int v1), (0, .ref l0), (4, .int l4), (6, .int l6), (7, .int l7)] dX13_isThrownWell_65 (Nat.le_of_ble_eq_true rfl) rfl ?_
  refine eg_aload_n (i := 0) 1 dX13_isThrownWell_67 rfl rfl ?_
  refine eg_iload (i := 6) 3 dX13_isThrownWell_68 rfl ?_
  refine eg_iload (i := 7) 4 dX13_isThrownWell_70 rfl ?_
  refine eg_iload (i := 8) 0 dX13_isThrownWell_72 rfl ?_
  refine eg_iload (i := 4) 2 dX13_isThrownWell_74 rfl ?_
  replace hF := eg_bind hF; obtain ⟨h3, e4, hF⟩ := hF
  refine eg_callV (c := 13) (n := 4) [.int l6, .int l7, .int v1, .int l4] dX13_isThrownWell_76 (mX13_layBest e4) rfl (fX13_layBest_O e4) (Nat.le_of_ble_eq_true rfl) rfl ew_1965 ew_1967 ew_84 ew_110 ew_1968 hy_X13_layBest rfl (Nat.le_of_ble_eq_true rfl) (Nat.le_of_ble_eq_true rfl) (Nat.le_of_ble_eq_true rfl) ?_
  refine eg_aload_n (i := 0) 1 dX13_isThrownWell_79 rfl rfl ?_
  refine eg_aload_n (i := 0) 1 dX13_isThrownWell_80 rfl rfl ?_
  replace hF := eg_bind hF; obtain ⟨v5, e6, hF⟩ := hF
  refine eg_getL dX13_isThrownWell_81 e6 (Nat.le_of_ble_eq_true rfl) (Nat.le_of_ble_eq_true rfl) rfl ew_1489 ?_
  refine eg_ldc2 (v := (6364136223846793005 : Int64)) dX13_isThrownWell_84 ew_2111 ?_
  refine eg_lmul dX13_isThrownWell_87 ?_
  refine eg_ldc2 (v := (1442695040888963407 : Int64)) dX13_isThrownWell_88 ew_2112 ?_
  refine eg_ladd dX13_isThrownWell_91 ?_
  replace hF := eg_bind hF; obtain ⟨h7, e8, hF⟩ := hF
  refine eg_putL dX13_isThrownWell_92 e8 (Nat.le_of_ble_eq_true rfl) (Nat.le_of_ble_eq_true rfl) rfl ew_1489 rfl ?_
  refine eg_aload_n (i := 0) 1 dX13_isThrownWell_95 rfl rfl ?_
  replace hF := eg_bind hF; obtain ⟨v9, e10, hF⟩ := hF
  refine eg_getL dX13_isThrownWell_96 e10 (Nat.le_of_ble_eq_true rfl) (Nat.le_of_ble_eq_true rfl) rfl ew_1489 ?_
  refine eg_bipush (v := (33 : Int32)) dX13_isThrownWell_99 (by decide) ?_
  refine eg_lushr dX13_isThrownWell_101 ?_
  refine eg_iconst (v := (2 : Int32)) dX13_isThrownWell_102 (by decide) ?_
  refine eg_aload_n (i := 0) 1 dX13_isThrownWell_103 rfl rfl ?_
  replace hF := eg_bind hF; obtain ⟨p11, e12, hF⟩ := hF
  refine eg_getR dX13_isThrownWell_104 e12 (Nat.le_of_ble_eq_true rfl) (Nat.le_of_ble_eq_true rfl) rfl ew_1454 ?_
  refine eg_iconst (v := (4 : Int32)) dX13_isThrownWell_107 (by decide) ?_
  refine eg_iload (i := 6) 3 dX13_isThrownWell_108 rfl ?_
  refine eg_imul dX13_isThrownWell_110 ?_
  replace hF := eg_bind hF; obtain ⟨v13, e14, hF⟩ := hF
  refine eg_iald dX13_isThrownWell_111 e14 ?_
  refine eg_imul dX13_isThrownWell_112 ?_
  refine eg_iconst (v := (1 : Int32)) dX13_isThrownWell_113 (by decide) ?_
  refine eg_iadd dX13_isThrownWell_114 ?_
  refine eg_i2l dX13_isThrownWell_115 ?_
  replace hF := eg_nif hF; obtain ⟨c15, hF⟩ := hF
  refine eg_lrem dX13_isThrownWell_116 c15 ?_
  refine eg_l2i dX13_isThrownWell_117 ?_
  refine eg_aload_n (i := 0) 1 dX13_isThrownWell_118 rfl rfl ?_
  replace hF := eg_bind hF; obtain ⟨p16, e17, hF⟩ := hF
  refine eg_getR dX13_isThrownWell_119 e17 (Nat.le_of_ble_eq_true rfl) (Nat.le_of_ble_eq_true rfl) rfl ew_1454 ?_
  refine eg_iconst (v := (4 : Int32)) dX13_isThrownWell_122 (by decide) ?_
  refine eg_iload (i := 6) 3 dX13_isThrownWell_123 rfl ?_
  refine eg_imul dX13_isThrownWell_125 ?_
  replace hF := eg_bind hF; obtain ⟨v18, e19, hF⟩ := hF
  refine eg_iald dX13_isThrownWell_126 e19 ?_
  refine eg_isub dX13_isThrownWell_127 ?_
  replace hF := eg_bind hF; obtain ⟨v20, e21, hF⟩ := hF
  replace e21 := Option.some.inj e21
  rw [e21]
  refine eg_istore (i := 9) [(9, .int v20), (8, .int v1), (0, .ref l0), (4, .int l4), (6, .int l6), (7, .int l7)] dX13_isThrownWell_128 (Nat.le_of_ble_eq_true rfl) rfl ?_
  refine eg_aload_n (i := 0) 2 dX13_isThrownWell_130 rfl rfl ?_
  refine eg_iload (i := 7) 5 dX13_isThrownWell_131 rfl ?_
  refine eg_iload (i := 8) 1 dX13_isThrownWell_133 rfl ?_
  refine eg_iload (i := 4) 3 dX13_isThrownWell_135 rfl ?_
  refine eg_aload_n (i := 0) 2 dX13_isThrownWell_137 rfl rfl ?_
  replace hF := eg_bind hF; obtain ⟨v22, e23, hF⟩ := hF
  refine eg_getI dX13_isThrownWell_138 e23 (Nat.le_of_ble_eq_true rfl) (Nat.le_of_ble_eq_true rfl) rfl ew_1470 ?_
  replace hF := eg_bind hF; obtain ⟨h24, e25, hF⟩ := hF
  refine eg_callV (c := 13) (n := 4) [.int l7, .int v1, .int l4, .int v22] dX13_isThrownWell_141 (mX13_layHolds e25) rfl (fX13_layHolds_O e25) (Nat.le_of_ble_eq_true rfl) rfl ew_1945 ew_1947 ew_80 ew_110 ew_1948 hy_X13_layHolds rfl (Nat.le_of_ble_eq_true rfl) (Nat.le_of_ble_eq_true rfl) (Nat.le_of_ble_eq_true rfl) ?_
  refine eg_aload_n (i := 0) 2 dX13_isThrownWell_144 rfl rfl ?_
  refine eg_aload_n (i := 0) 2 dX13_isThrownWell_145 rfl rfl ?_
  refine eg_iload (i := 8) 1 dX13_isThrownWell_146 rfl ?_
  refine eg_bipush (v := (10 : Int32)) dX13_isThrownWell_148 (by decide) ?_
  refine eg_irem dX13_isThrownWell_150 (by decide) ?_
  refine eg_aload_n (i := 0) 2 dX13_isThrownWell_151 rfl rfl ?_
  replace hF := eg_bind hF; obtain ⟨v26, e27, hF⟩ := hF
  refine eg_getI dX13_isThrownWell_152 e27 (Nat.le_of_ble_eq_true rfl) (Nat.le_of_ble_eq_true rfl) rfl ew_1470 ?_
  refine eg_aload_n (i := 0) 2 dX13_isThrownWell_155 rfl rfl ?_
  replace hF := eg_bind hF; obtain ⟨v28, e29, hF⟩ := hF
  refine eg_getI dX13_isThrownWell_156 e29 (Nat.le_of_ble_eq_true rfl) (Nat.le_of_ble_eq_true rfl) rfl ew_1471 ?_
  refine eg_iload (i := 9) 0 dX13_isThrownWell_159 rfl ?_
  replace hF := eg_bind hF; obtain ⟨⟨v31, h30⟩, e32, hF⟩ := hF
  refine eg_callV (c := 13) (n := 4) [.int (v1 % (10 : Int32)), .int v26, .int v28, .int v20] dX13_isThrownWell_161 (mX13_offOf e32) rfl (fX13_offOf_O e32) (Nat.le_of_ble_eq_true rfl) rfl ew_1900 ew_1902 ew_73 ew_110 ew_1903 hy_X13_offOf rfl (Nat.le_of_ble_eq_true rfl) (Nat.le_of_ble_eq_true rfl) (Nat.le_of_ble_eq_true rfl) ?_
  replace hF := eg_bind hF; obtain ⟨⟨v34, h33⟩, e35, hF⟩ := hF
  refine eg_callV (c := 13) (n := 1) [.int v31] dX13_isThrownWell_164 (mX13_isCaught e35) rfl (fX13_isCaught_O e35) (Nat.le_of_ble_eq_true rfl) rfl ew_1957 ew_1959 ew_83 ew_110 ew_1960 hy_X13_isCaught rfl (Nat.le_of_ble_eq_true rfl) (Nat.le_of_ble_eq_true rfl) (Nat.le_of_ble_eq_true rfl) ?_
  replace hF := eg_ifn hF; obtain ⟨c36, hF⟩ := hF
  exact eg_zretE dX13_isThrownWell_167 c36 hF
def fX13_isThrownWell_j48 (h : eg_H) (l0 : Nat) (l2 : Int32) (l4 : Int32) (l5 : Int32) (l6 : Int32) (s0 : Int32) : Option (Int32 × eg_H) :=
  if l5 = 0 then
    (fX13_isThrownWell_j64 h l0 l4 l6 s0 ((10 : Int32) * l2) (1 : Int32))
  else
    fX13_isThrownWell_j64 h l0 l4 l6 s0 ((10 : Int32) * l2) (0 : Int32)
set_option maxRecDepth 20000 in
theorem fX13_isThrownWell_j48_ok {h0 : eg_H} (h : eg_H) (l0 : Nat) (l2 : Int32) (l4 : Int32) (l5 : Int32) (l6 : Int32) (s0 : Int32) {rE : Int32} {hE : eg_H} (hF : fX13_isThrownWell_j48 h l0 l2 l4 l5 l6 s0 = some (rE, hE)) : eg_AW (RX13, cX13_isThrownWell, 10, 398, none, "isThrownWell", (some .boolean)) (eg_Zm (some (.int rE)) hE h0) (eg_nc hE) (eg_ns hE) h0 48 [(0, .ref l0), (2, .int l2), (4, .int l4), (5, .int l5), (6, .int l6)] [.int s0] h := by
  refine eg_istore (i := 7) [(7, .int s0), (0, .ref l0), (2, .int l2), (4, .int l4), (5, .int l5), (6, .int l6)] dX13_isThrownWell_48 (Nat.le_of_ble_eq_true rfl) rfl ?_
  refine eg_bipush (v := (10 : Int32)) dX13_isThrownWell_50 (by decide) ?_
  refine eg_iload_n (i := 2) 2 dX13_isThrownWell_52 rfl rfl ?_
  refine eg_imul dX13_isThrownWell_53 ?_
  refine eg_iload (i := 5) 4 dX13_isThrownWell_54 rfl ?_
  refine eg_if_eq 63 dX13_isThrownWell_56 rfl (fun c1 => ?_) (fun c1 => ?_)
  · replace hF := eg_it c1 hF
    refine eg_iconst (v := (1 : Int32)) dX13_isThrownWell_63 (by decide) ?_
    exact eg_sub [1, 3, 5, 0] [(0, .ref l0), (4, .int l4), (6, .int l6), (7, .int s0)] rfl (fX13_isThrownWell_j64_ok h l0 l4 l6 s0 ((10 : Int32) * l2) (1 : Int32) hF)
  · replace hF := eg_if c1 hF
    refine eg_iconst (v := (0 : Int32)) dX13_isThrownWell_59 (by decide) ?_
    refine eg_goto 64 dX13_isThrownWell_60 rfl ?_
    exact eg_sub [1, 3, 5, 0] [(0, .ref l0), (4, .int l4), (6, .int l6), (7, .int s0)] rfl (fX13_isThrownWell_j64_ok h l0 l4 l6 s0 ((10 : Int32) * l2) (0 : Int32) hF)
def fX13_isThrownWell_j30 (h : eg_H) (l0 : Nat) (l1 : Int32) (l2 : Int32) (l4 : Int32) (l5 : Int32) (s0 : Int32) : Option (Int32 × eg_H) :=
  if l5 = 0 then
    (fX13_isThrownWell_j48 h l0 l2 l4 l5 s0 (l1 / (10 : Int32)))
  else
    fX13_isThrownWell_j48 h l0 l2 l4 l5 s0 (l1 % (10 : Int32))
set_option maxRecDepth 20000 in
theorem fX13_isThrownWell_j30_ok {h0 : eg_H} (h : eg_H) (l0 : Nat) (l1 : Int32) (l2 : Int32) (l4 : Int32) (l5 : Int32) (s0 : Int32) {rE : Int32} {hE : eg_H} (hF : fX13_isThrownWell_j30 h l0 l1 l2 l4 l5 s0 = some (rE, hE)) : eg_AW (RX13, cX13_isThrownWell, 10, 398, none, "isThrownWell", (some .boolean)) (eg_Zm (some (.int rE)) hE h0) (eg_nc hE) (eg_ns hE) h0 30 [(0, .ref l0), (1, .int l1), (2, .int l2), (4, .int l4), (5, .int l5)] [.int s0] h := by
  refine eg_istore (i := 6) [(6, .int s0), (0, .ref l0), (1, .int l1), (2, .int l2), (4, .int l4), (5, .int l5)] dX13_isThrownWell_30 (Nat.le_of_ble_eq_true rfl) rfl ?_
  refine eg_iload (i := 5) 5 dX13_isThrownWell_32 rfl ?_
  refine eg_if_eq 44 dX13_isThrownWell_34 rfl (fun c1 => ?_) (fun c1 => ?_)
  · replace hF := eg_it c1 hF
    refine eg_iload_n (i := 1) 2 dX13_isThrownWell_44 rfl rfl ?_
    refine eg_bipush (v := (10 : Int32)) dX13_isThrownWell_45 (by decide) ?_
    refine eg_idiv dX13_isThrownWell_47 (by decide) ?_
    exact eg_sub [1, 3, 4, 5, 0] [(0, .ref l0), (2, .int l2), (4, .int l4), (5, .int l5), (6, .int s0)] rfl (fX13_isThrownWell_j48_ok h l0 l2 l4 l5 s0 (l1 / (10 : Int32)) hF)
  · replace hF := eg_if c1 hF
    refine eg_iload_n (i := 1) 2 dX13_isThrownWell_37 rfl rfl ?_
    refine eg_bipush (v := (10 : Int32)) dX13_isThrownWell_38 (by decide) ?_
    refine eg_irem dX13_isThrownWell_40 (by decide) ?_
    refine eg_goto 48 dX13_isThrownWell_41 rfl ?_
    exact eg_sub [1, 3, 4, 5, 0] [(0, .ref l0), (2, .int l2), (4, .int l4), (5, .int l5), (6, .int s0)] rfl (fX13_isThrownWell_j48_ok h l0 l2 l4 l5 s0 (l1 % (10 : Int32)) hF)
def fX13_isThrownWell_j12 (h : eg_H) (l0 : Nat) (l1 : Int32) (l2 : Int32) (l4 : Int32) (s0 : Int32) : Option (Int32 × eg_H) :=
  if s0 = 0 then
    (fX13_isThrownWell_j30 h l0 l1 l2 l4 s0 (l1 % (10 : Int32)))
  else
    fX13_isThrownWell_j30 h l0 l1 l2 l4 s0 (l1 / (10 : Int32))
set_option maxRecDepth 20000 in
theorem fX13_isThrownWell_j12_ok {h0 : eg_H} (h : eg_H) (l0 : Nat) (l1 : Int32) (l2 : Int32) (l4 : Int32) (s0 : Int32) {rE : Int32} {hE : eg_H} (hF : fX13_isThrownWell_j12 h l0 l1 l2 l4 s0 = some (rE, hE)) : eg_AW (RX13, cX13_isThrownWell, 10, 398, none, "isThrownWell", (some .boolean)) (eg_Zm (some (.int rE)) hE h0) (eg_nc hE) (eg_ns hE) h0 12 [(0, .ref l0), (1, .int l1), (2, .int l2), (4, .int l4)] [.int s0] h := by
  refine eg_istore (i := 5) [(5, .int s0), (0, .ref l0), (1, .int l1), (2, .int l2), (4, .int l4)] dX13_isThrownWell_12 (Nat.le_of_ble_eq_true rfl) rfl ?_
  refine eg_iload (i := 5) 0 dX13_isThrownWell_14 rfl ?_
  refine eg_if_eq 26 dX13_isThrownWell_16 rfl (fun c1 => ?_) (fun c1 => ?_)
  · replace hF := eg_it c1 hF
    refine eg_iload_n (i := 1) 2 dX13_isThrownWell_26 rfl rfl ?_
    refine eg_bipush (v := (10 : Int32)) dX13_isThrownWell_27 (by decide) ?_
    refine eg_irem dX13_isThrownWell_29 (by decide) ?_
    exact eg_sub [1, 2, 3, 4, 0] [(0, .ref l0), (1, .int l1), (2, .int l2), (4, .int l4), (5, .int s0)] rfl (fX13_isThrownWell_j30_ok h l0 l1 l2 l4 s0 (l1 % (10 : Int32)) hF)
  · replace hF := eg_if c1 hF
    refine eg_iload_n (i := 1) 2 dX13_isThrownWell_19 rfl rfl ?_
    refine eg_bipush (v := (10 : Int32)) dX13_isThrownWell_20 (by decide) ?_
    refine eg_idiv dX13_isThrownWell_22 (by decide) ?_
    refine eg_goto 30 dX13_isThrownWell_23 rfl ?_
    exact eg_sub [1, 2, 3, 4, 0] [(0, .ref l0), (1, .int l1), (2, .int l2), (4, .int l4), (5, .int s0)] rfl (fX13_isThrownWell_j30_ok h l0 l1 l2 l4 s0 (l1 / (10 : Int32)) hF)
def fX13_isThrownWell (h : eg_H) (l0 : Nat) (l1 : Int32) (l2 : Int32) (l3 : Int32) (l4 : Int32) : Option (Int32 × eg_H) :=
  if eg_isO h 13 l0 then (
    if (l3 % (2 : Int32)) = (1 : Int32) then
      (fX13_isThrownWell_j12 h l0 l1 l2 l4 (1 : Int32))
    else
      fX13_isThrownWell_j12 h l0 l1 l2 l4 (0 : Int32)) else none
theorem fX13_isThrownWell_O {h : eg_H} {l0 : Nat} {l1 : Int32} {l2 : Int32} {l3 : Int32} {l4 : Int32} {rE : Int32} {hE : eg_H} (hF : fX13_isThrownWell h l0 l1 l2 l3 l4 = some (rE, hE)) : eg_isO h 13 l0 := (eg_ifn hF).1
set_option maxRecDepth 20000 in
theorem mX13_isThrownWell {h : eg_H} {l0 : Nat} {l1 : Int32} {l2 : Int32} {l3 : Int32} {l4 : Int32} {rE : Int32} {hE : eg_H} (hF : fX13_isThrownWell h l0 l1 l2 l3 l4 = some (rE, hE)) : eg_Met yX13_isThrownWell cX13_isThrownWell 10 (some .boolean) 398 [.ref l0, .int l1, .int l2, .int l3, .int l4] h (some (.int rE)) hE := by
  refine eg_enter rfl (Nat.le_of_ble_eq_true rfl) ?_
  show eg_AW (RX13, cX13_isThrownWell, 10, 398, none, "isThrownWell", (some .boolean)) (eg_Zm (some (.int rE)) hE h) (eg_nc hE) (eg_ns hE) h 0 [(0, .ref l0), (1, .int l1), (2, .int l2), (3, .int l3), (4, .int l4)] [] h
  replace hF := (eg_ifn hF).2
  refine eg_iload_n (i := 3) 3 dX13_isThrownWell_0 rfl rfl ?_
  refine eg_iconst (v := (2 : Int32)) dX13_isThrownWell_1 (by decide) ?_
  refine eg_irem dX13_isThrownWell_2 (by decide) ?_
  refine eg_iconst (v := (1 : Int32)) dX13_isThrownWell_3 (by decide) ?_
  refine eg_ic_ne 11 dX13_isThrownWell_4 rfl (fun c1 => ?_) (fun c1 => ?_)
  · replace hF := eg_it c1 hF
    refine eg_iconst (v := (1 : Int32)) dX13_isThrownWell_7 (by decide) ?_
    refine eg_goto 12 dX13_isThrownWell_8 rfl ?_
    exact eg_sub [0, 1, 2, 4] [(0, .ref l0), (1, .int l1), (2, .int l2), (4, .int l4)] rfl (fX13_isThrownWell_j12_ok h l0 l1 l2 l4 (1 : Int32) hF)
  · replace hF := eg_if c1 hF
    refine eg_iconst (v := (0 : Int32)) dX13_isThrownWell_11 (by decide) ?_
    exact eg_sub [0, 1, 2, 4] [(0, .ref l0), (1, .int l1), (2, .int l2), (4, .int l4)] rfl (fX13_isThrownWell_j12_ok h l0 l1 l2 l4 (0 : Int32) hF)
