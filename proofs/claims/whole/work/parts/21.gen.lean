theorem dX11_forceBy_0 : decode cX11_forceBy 0 = .ok (.aload_n 1, 1) := by decide +kernel
theorem dX11_forceBy_1 : decode cX11_forceBy 1 = .ok (.ifnonnull 62, 3) := by decide +kernel
theorem dX11_forceBy_4 : decode cX11_forceBy 4 = .ok (.iload_n 3, 1) := by decide +kernel
theorem dX11_forceBy_5 : decode cX11_forceBy 5 = .ok (.iload_n 2, 1) := by decide +kernel
theorem dX11_forceBy_6 : decode cX11_forceBy 6 = .ok (.iconst 4, 1) := by decide +kernel
theorem dX11_forceBy_7 : decode cX11_forceBy 7 = .ok (.idiv, 1) := by decide +kernel
theorem dX11_forceBy_8 : decode cX11_forceBy 8 = .ok (.isub, 1) := by decide +kernel
theorem dX11_forceBy_9 : decode cX11_forceBy 9 = .ok (.istore 6, 2) := by decide +kernel
theorem dX11_forceBy_11 : decode cX11_forceBy 11 = .ok (.iconst 2, 1) := by decide +kernel
theorem dX11_forceBy_12 : decode cX11_forceBy 12 = .ok (.iload_n 2, 1) := by decide +kernel
theorem dX11_forceBy_13 : decode cX11_forceBy 13 = .ok (.imul, 1) := by decide +kernel
theorem dX11_forceBy_14 : decode cX11_forceBy 14 = .ok (.iconst 3, 1) := by decide +kernel
theorem dX11_forceBy_15 : decode cX11_forceBy 15 = .ok (.iload 6, 2) := by decide +kernel
theorem dX11_forceBy_17 : decode cX11_forceBy 17 = .ok (.ifCond .ge 9, 3) := by decide +kernel
theorem dX11_forceBy_20 : decode cX11_forceBy 20 = .ok (.iload 6, 2) := by decide +kernel
theorem dX11_forceBy_22 : decode cX11_forceBy 22 = .ok (.ineg, 1) := by decide +kernel
theorem dX11_forceBy_23 : decode cX11_forceBy 23 = .ok (.goto 5, 3) := by decide +kernel
theorem dX11_forceBy_26 : decode cX11_forceBy 26 = .ok (.iload 6, 2) := by decide +kernel
theorem dX11_forceBy_28 : decode cX11_forceBy 28 = .ok (.imul, 1) := by decide +kernel
theorem dX11_forceBy_29 : decode cX11_forceBy 29 = .ok (.iadd, 1) := by decide +kernel
theorem dX11_forceBy_30 : decode cX11_forceBy 30 = .ok (.iconst 2, 1) := by decide +kernel
theorem dX11_forceBy_31 : decode cX11_forceBy 31 = .ok (.aload_n 0, 1) := by decide +kernel
theorem dX11_forceBy_32 : decode cX11_forceBy 32 = .ok (.getfield 26, 3) := by decide +kernel
theorem dX11_forceBy_35 : decode cX11_forceBy 35 = .ok (.imul, 1) := by decide +kernel
theorem dX11_forceBy_36 : decode cX11_forceBy 36 = .ok (.isub, 1) := by decide +kernel
theorem dX11_forceBy_37 : decode cX11_forceBy 37 = .ok (.aload_n 0, 1) := by decide +kernel
theorem dX11_forceBy_38 : decode cX11_forceBy 38 = .ok (.getfield 32, 3) := by decide +kernel
theorem dX11_forceBy_41 : decode cX11_forceBy 41 = .ok (.isub, 1) := by decide +kernel
theorem dX11_forceBy_42 : decode cX11_forceBy 42 = .ok (.iload 4, 2) := by decide +kernel
theorem dX11_forceBy_44 : decode cX11_forceBy 44 = .ok (.ifCond .le 8, 3) := by decide +kernel
theorem dX11_forceBy_47 : decode cX11_forceBy 47 = .ok (.iload 4, 2) := by decide +kernel
theorem dX11_forceBy_49 : decode cX11_forceBy 49 = .ok (.goto 8, 3) := by decide +kernel
theorem dX11_forceBy_52 : decode cX11_forceBy 52 = .ok (.bipush (-3), 2) := by decide +kernel
theorem dX11_forceBy_54 : decode cX11_forceBy 54 = .ok (.iload 4, 2) := by decide +kernel
theorem dX11_forceBy_56 : decode cX11_forceBy 56 = .ok (.imul, 1) := by decide +kernel
theorem dX11_forceBy_57 : decode cX11_forceBy 57 = .ok (.iadd, 1) := by decide +kernel
theorem dX11_forceBy_58 : decode cX11_forceBy 58 = .ok (.istore 5, 2) := by decide +kernel
theorem dX11_forceBy_60 : decode cX11_forceBy 60 = .ok (.goto 25, 3) := by decide +kernel
theorem dX11_forceBy_63 : decode cX11_forceBy 63 = .ok (.aload_n 1, 1) := by decide +kernel
theorem dX11_forceBy_64 : decode cX11_forceBy 64 = .ok (.iload_n 2, 1) := by decide +kernel
theorem dX11_forceBy_65 : decode cX11_forceBy 65 = .ok (.iload_n 3, 1) := by decide +kernel
theorem dX11_forceBy_66 : decode cX11_forceBy 66 = .ok (.aload_n 0, 1) := by decide +kernel
theorem dX11_forceBy_67 : decode cX11_forceBy 67 = .ok (.getfield 26, 3) := by decide +kernel
theorem dX11_forceBy_70 : decode cX11_forceBy 70 = .ok (.aload_n 0, 1) := by decide +kernel
theorem dX11_forceBy_71 : decode cX11_forceBy 71 = .ok (.getfield 32, 3) := by decide +kernel
theorem dX11_forceBy_74 : decode cX11_forceBy 74 = .ok (.iload 4, 2) := by decide +kernel
theorem dX11_forceBy_76 : decode cX11_forceBy 76 = .ok (.invokevirtual 60, 3) := by decide +kernel
theorem dX11_forceBy_79 : decode cX11_forceBy 79 = .ok (.aload_n 1, 1) := by decide +kernel
theorem dX11_forceBy_80 : decode cX11_forceBy 80 = .ok (.invokevirtual 66, 3) := by decide +kernel
theorem dX11_forceBy_83 : decode cX11_forceBy 83 = .ok (.istore 5, 2) := by decide +kernel
theorem dX11_forceBy_85 : decode cX11_forceBy 85 = .ok (.iload 5, 2) := by decide +kernel
theorem dX11_forceBy_87 : decode cX11_forceBy 87 = .ok (.ifCond .ge 5, 3) := by decide +kernel
theorem dX11_forceBy_90 : decode cX11_forceBy 90 = .ok (.iconst 0, 1) := by decide +kernel
theorem dX11_forceBy_91 : decode cX11_forceBy 91 = .ok (.ireturn, 1) := by decide +kernel
theorem dX11_forceBy_92 : decode cX11_forceBy 92 = .ok (.iload 5, 2) := by decide +kernel
theorem dX11_forceBy_94 : decode cX11_forceBy 94 = .ok (.sipush 999, 3) := by decide +kernel
theorem dX11_forceBy_97 : decode cX11_forceBy 97 = .ok (.if_icmp .le 9, 3) := by decide +kernel
theorem dX11_forceBy_100 : decode cX11_forceBy 100 = .ok (.sipush 999, 3) := by decide +kernel
theorem dX11_forceBy_103 : decode cX11_forceBy 103 = .ok (.goto 5, 3) := by decide +kernel
theorem dX11_forceBy_106 : decode cX11_forceBy 106 = .ok (.iload 5, 2) := by decide +kernel
theorem dX11_forceBy_108 : decode cX11_forceBy 108 = .ok (.ireturn, 1) := by decide +kernel
def fX11_forceBy_j85 (h : eg_H) (l5 : Int32) : Option (Int32 × eg_H) :=
  if 0 ≤ l5 then
    (if l5 ≤ (999 : Int32) then
      (some (l5, h))
    else
      some ((999 : Int32), h))
  else
    some ((0 : Int32), h)
set_option maxRecDepth 20000 in
theorem fX11_forceBy_j85_ok {h0 : eg_H} (h : eg_H) (l5 : Int32) {rE : Int32} {hE : eg_H} (hF : fX11_forceBy_j85 h l5 = some (rE, hE)) : eg_AW (RX11, cX11_forceBy, 7, 2, none, "forceBy", (some .int)) (eg_Zm (some (.int rE)) hE h0) (eg_nc hE) (eg_ns hE) h0 85 [(5, .int l5)] [] h := by
  refine eg_iload (i := 5) 0 dX11_forceBy_85 rfl ?_
  refine eg_if_ge 92 dX11_forceBy_87 rfl (fun c1 => ?_) (fun c1 => ?_)
  · replace hF := eg_it c1 hF
    refine eg_iload (i := 5) 0 dX11_forceBy_92 rfl ?_
    refine eg_sipush (v := (999 : Int32)) dX11_forceBy_94 (by decide) ?_
    refine eg_ic_le 106 dX11_forceBy_97 rfl (fun c2 => ?_) (fun c2 => ?_)
    · replace hF := eg_it c2 hF
      refine eg_iload (i := 5) 0 dX11_forceBy_106 rfl ?_
      exact eg_iretE dX11_forceBy_108 hF
    · replace hF := eg_if c2 hF
      refine eg_sipush (v := (999 : Int32)) dX11_forceBy_100 (by decide) ?_
      refine eg_goto 108 dX11_forceBy_103 rfl ?_
      exact eg_iretE dX11_forceBy_108 hF
  · replace hF := eg_if c1 hF
    refine eg_iconst (v := (0 : Int32)) dX11_forceBy_90 (by decide) ?_
    exact eg_iretE dX11_forceBy_91 hF
def fX11_forceBy_j57 (h : eg_H) (s0 : Int32) (s1 : Int32) : Option (Int32 × eg_H) :=
  (some ((s0 + s1))).bind fun v1 =>
  fX11_forceBy_j85 h v1
set_option maxRecDepth 20000 in
theorem fX11_forceBy_j57_ok {h0 : eg_H} (h : eg_H) (s0 : Int32) (s1 : Int32) {rE : Int32} {hE : eg_H} (hF : fX11_forceBy_j57 h s0 s1 = some (rE, hE)) : eg_AW (RX11, cX11_forceBy, 7, 2, none, "forceBy", (some .int)) (eg_Zm (some (.int rE)) hE h0) (eg_nc hE) (eg_ns hE) h0 57 [] [.int s1, .int s0] h := by
  refine eg_iadd dX11_forceBy_57 ?_
  replace hF := eg_bind hF; obtain ⟨v1, e2, hF⟩ := hF
  replace e2 := Option.some.inj e2
  rw [e2]
  refine eg_istore (i := 5) [(5, .int v1)] dX11_forceBy_58 (Nat.le_of_ble_eq_true rfl) rfl ?_
  refine eg_goto 85 dX11_forceBy_60 rfl ?_
  exact (fX11_forceBy_j85_ok h v1 hF)
def fX11_forceBy_j28 (h : eg_H) (l0 : Nat) (l4 : Int32) (s0 : Int32) (s1 : Int32) (s2 : Int32) : Option (Int32 × eg_H) :=
  (eg_gI h 11 5 l0).bind fun v1 =>
  (eg_gI h 11 7 l0).bind fun v3 =>
  if l4 ≤ 0 then
    (fX11_forceBy_j57 h (((s0 + (s1 * s2)) - ((2 : Int32) * v1)) - v3) ((-3 : Int32) * l4))
  else
    fX11_forceBy_j57 h (((s0 + (s1 * s2)) - ((2 : Int32) * v1)) - v3) l4
set_option maxRecDepth 20000 in
theorem fX11_forceBy_j28_ok {h0 : eg_H} (h : eg_H) (l0 : Nat) (l4 : Int32) (s0 : Int32) (s1 : Int32) (s2 : Int32) {rE : Int32} {hE : eg_H} (hF : fX11_forceBy_j28 h l0 l4 s0 s1 s2 = some (rE, hE)) : eg_AW (RX11, cX11_forceBy, 7, 2, none, "forceBy", (some .int)) (eg_Zm (some (.int rE)) hE h0) (eg_nc hE) (eg_ns hE) h0 28 [(0, .ref l0), (4, .int l4)] [.int s2, .int s1, .int s0] h := by
  refine eg_imul dX11_forceBy_28 ?_
  refine eg_iadd dX11_forceBy_29 ?_
  refine eg_iconst (v := (2 : Int32)) dX11_forceBy_30 (by decide) ?_
  refine eg_aload_n (i := 0) 0 dX11_forceBy_31 rfl rfl ?_
  replace hF := eg_bind hF; obtain ⟨v1, e2, hF⟩ := hF
  refine eg_getI dX11_forceBy_32 e2 (Nat.le_of_ble_eq_true rfl) (Nat.le_of_ble_eq_true rfl) rfl ew_242 ?_
  refine eg_imul dX11_forceBy_35 ?_
  refine eg_isub dX11_forceBy_36 ?_
  refine eg_aload_n (i := 0) 0 dX11_forceBy_37 rfl rfl ?_
  replace hF := eg_bind hF; obtain ⟨v3, e4, hF⟩ := hF
  refine eg_getI dX11_forceBy_38 e4 (Nat.le_of_ble_eq_true rfl) (Nat.le_of_ble_eq_true rfl) rfl ew_244 ?_
  refine eg_isub dX11_forceBy_41 ?_
  refine eg_iload (i := 4) 1 dX11_forceBy_42 rfl ?_
  refine eg_if_le 52 dX11_forceBy_44 rfl (fun c5 => ?_) (fun c5 => ?_)
  · replace hF := eg_it c5 hF
    refine eg_bipush (v := (-3 : Int32)) dX11_forceBy_52 (by decide) ?_
    refine eg_iload (i := 4) 1 dX11_forceBy_54 rfl ?_
    refine eg_imul dX11_forceBy_56 ?_
    exact eg_sub [] [] rfl (fX11_forceBy_j57_ok h (((s0 + (s1 * s2)) - ((2 : Int32) * v1)) - v3) ((-3 : Int32) * l4) hF)
  · replace hF := eg_if c5 hF
    refine eg_iload (i := 4) 1 dX11_forceBy_47 rfl ?_
    refine eg_goto 57 dX11_forceBy_49 rfl ?_
    exact eg_sub [] [] rfl (fX11_forceBy_j57_ok h (((s0 + (s1 * s2)) - ((2 : Int32) * v1)) - v3) l4 hF)
def fX11_forceBy (h : eg_H) (l0 : Nat) (l1 : Option Nat) (l2 : Int32) (l3 : Int32) (l4 : Int32) : Option (Int32 × eg_H) :=
  if eg_isO h 11 l0 then (
    if l1 = none then
      ((some ((l3 - (l2 / (4 : Int32))))).bind fun v2 =>
      if 0 ≤ v2 then
        (fX11_forceBy_j28 h l0 l4 ((2 : Int32) * l2) (3 : Int32) v2)
      else
        fX11_forceBy_j28 h l0 l4 ((2 : Int32) * l2) (3 : Int32) (-v2))
    else
      (eg_gI h 11 5 l0).bind fun v5 =>
      (eg_gI h 11 7 l0).bind fun v7 =>
      l1.bind fun p9 =>
      (fX5_tell h p9 l2 l3 v5 v7 l4).bind fun h11 =>
      (fX5_worth h11 p9).bind fun ⟨v16, h15⟩ =>
      fX11_forceBy_j85 h15 v16) else none
theorem fX11_forceBy_O {h : eg_H} {l0 : Nat} {l1 : Option Nat} {l2 : Int32} {l3 : Int32} {l4 : Int32} {rE : Int32} {hE : eg_H} (hF : fX11_forceBy h l0 l1 l2 l3 l4 = some (rE, hE)) : eg_isO h 11 l0 := (eg_ifn hF).1
set_option maxRecDepth 20000 in
theorem mX11_forceBy {h : eg_H} {l0 : Nat} {l1 : Option Nat} {l2 : Int32} {l3 : Int32} {l4 : Int32} {rE : Int32} {hE : eg_H} (hF : fX11_forceBy h l0 l1 l2 l3 l4 = some (rE, hE)) : eg_Met yX11_forceBy cX11_forceBy 7 (some .int) 2 [.ref l0, va_rf l1, .int l2, .int l3, .int l4] h (some (.int rE)) hE := by
  refine eg_enter rfl (by cases l1 <;> exact (Nat.le_of_ble_eq_true rfl)) ?_
  rw [show lv_args 0 [.ref l0, va_rf l1, .int l2, .int l3, .int l4] = [(0, .ref l0), (1, va_rf l1), (2, .int l2), (3, .int l3), (4, .int l4)] from by cases l1 <;> rfl]
  show eg_AW (RX11, cX11_forceBy, 7, 2, none, "forceBy", (some .int)) (eg_Zm (some (.int rE)) hE h) (eg_nc hE) (eg_ns hE) h 0 [(0, .ref l0), (1, va_rf l1), (2, .int l2), (3, .int l3), (4, .int l4)] [] h
  replace hF := (eg_ifn hF).2
  refine eg_aload_nq (i := 1) 1 dX11_forceBy_0 rfl rfl ?_
  refine eg_ifnonnull (r := l1) 63 dX11_forceBy_1 rfl (fun c1 => ?_) (fun c1 => ?_)
  · replace hF := eg_it c1 hF
    refine eg_iload_n (i := 3) 3 dX11_forceBy_4 rfl rfl ?_
    refine eg_iload_n (i := 2) 2 dX11_forceBy_5 rfl rfl ?_
    refine eg_iconst (v := (4 : Int32)) dX11_forceBy_6 (by decide) ?_
    refine eg_idiv dX11_forceBy_7 (by decide) ?_
    refine eg_isub dX11_forceBy_8 ?_
    replace hF := eg_bind hF; obtain ⟨v2, e3, hF⟩ := hF
    replace e3 := Option.some.inj e3
    rw [e3]
    refine eg_istore (i := 6) [(6, .int v2), (0, .ref l0), (1, va_rf l1), (2, .int l2), (3, .int l3), (4, .int l4)] dX11_forceBy_9 (Nat.le_of_ble_eq_true rfl) rfl ?_
    refine eg_iconst (v := (2 : Int32)) dX11_forceBy_11 (by decide) ?_
    refine eg_iload_n (i := 2) 3 dX11_forceBy_12 rfl rfl ?_
    refine eg_imul dX11_forceBy_13 ?_
    refine eg_iconst (v := (3 : Int32)) dX11_forceBy_14 (by decide) ?_
    refine eg_iload (i := 6) 0 dX11_forceBy_15 rfl ?_
    refine eg_if_ge 26 dX11_forceBy_17 rfl (fun c4 => ?_) (fun c4 => ?_)
    · replace hF := eg_it c4 hF
      refine eg_iload (i := 6) 0 dX11_forceBy_26 rfl ?_
      exact eg_sub [1, 5] [(0, .ref l0), (4, .int l4)] rfl (fX11_forceBy_j28_ok h l0 l4 ((2 : Int32) * l2) (3 : Int32) v2 hF)
    · replace hF := eg_if c4 hF
      refine eg_iload (i := 6) 0 dX11_forceBy_20 rfl ?_
      refine eg_ineg dX11_forceBy_22 ?_
      refine eg_goto 28 dX11_forceBy_23 rfl ?_
      exact eg_sub [1, 5] [(0, .ref l0), (4, .int l4)] rfl (fX11_forceBy_j28_ok h l0 l4 ((2 : Int32) * l2) (3 : Int32) (-v2) hF)
  · replace hF := eg_if c1 hF
    refine eg_aload_nq (i := 1) 1 dX11_forceBy_63 rfl rfl ?_
    refine eg_iload_n (i := 2) 2 dX11_forceBy_64 rfl rfl ?_
    refine eg_iload_n (i := 3) 3 dX11_forceBy_65 rfl rfl ?_
    refine eg_aload_n (i := 0) 0 dX11_forceBy_66 rfl rfl ?_
    replace hF := eg_bind hF; obtain ⟨v5, e6, hF⟩ := hF
    refine eg_getI dX11_forceBy_67 e6 (Nat.le_of_ble_eq_true rfl) (Nat.le_of_ble_eq_true rfl) rfl ew_242 ?_
    refine eg_aload_n (i := 0) 0 dX11_forceBy_70 rfl rfl ?_
    replace hF := eg_bind hF; obtain ⟨v7, e8, hF⟩ := hF
    refine eg_getI dX11_forceBy_71 e8 (Nat.le_of_ble_eq_true rfl) (Nat.le_of_ble_eq_true rfl) rfl ew_244 ?_
    refine eg_iload (i := 4) 4 dX11_forceBy_74 rfl ?_
    replace hF := eg_bind hF; obtain ⟨p9, e10, hF⟩ := hF
    subst e10
    replace hF := eg_bind hF; obtain ⟨h11, e12, hF⟩ := hF
    refine eg_callV (c := 5) (n := 5) [.int l2, .int l3, .int v5, .int v7, .int l4] dX11_forceBy_76 (mX5_tell e12) rfl (fX5_tell_O e12) (Nat.le_of_ble_eq_true rfl) rfl ew_766 ew_767 ew_768 ew_116 ew_769 hy_X5_tell rfl (Nat.le_of_ble_eq_true rfl) (Nat.le_of_ble_eq_true rfl) (Nat.le_of_ble_eq_true rfl) ?_
    refine eg_aload_nq (i := 1) 1 dX11_forceBy_79 rfl rfl ?_
    replace hF := eg_bind hF; obtain ⟨⟨v16, h15⟩, e17, hF⟩ := hF
    refine eg_callV (c := 5) (n := 0) [] dX11_forceBy_80 (mX5_worth e17) rfl (fX5_worth_O e17) (Nat.le_of_ble_eq_true rfl) rfl ew_770 ew_771 ew_772 ew_116 ew_773 hy_X5_worth rfl (Nat.le_of_ble_eq_true rfl) (Nat.le_of_ble_eq_true rfl) (Nat.le_of_ble_eq_true rfl) ?_
    refine eg_istore (i := 5) [(5, .int v16), (0, .ref l0), (1, va_rf (some p9)), (2, .int l2), (3, .int l3), (4, .int l4)] dX11_forceBy_83 (Nat.le_of_ble_eq_true rfl) rfl ?_
    exact eg_sub [0] [(5, .int v16)] rfl (fX11_forceBy_j85_ok h15 v16 hF)
theorem dX11_wholes_0 : decode cX11_wholes 0 = .ok (.iconst 0, 1) := by decide +kernel
theorem dX11_wholes_1 : decode cX11_wholes 1 = .ok (.istore_n 3, 1) := by decide +kernel
theorem dX11_wholes_2 : decode cX11_wholes 2 = .ok (.aload_n 0, 1) := by decide +kernel
theorem dX11_wholes_3 : decode cX11_wholes 3 = .ok (.getfield 29, 3) := by decide +kernel
theorem dX11_wholes_6 : decode cX11_wholes 6 = .ok (.ineg, 1) := by decide +kernel
theorem dX11_wholes_7 : decode cX11_wholes 7 = .ok (.istore 4, 2) := by decide +kernel
theorem dX11_wholes_9 : decode cX11_wholes 9 = .ok (.iload 4, 2) := by decide +kernel
theorem dX11_wholes_11 : decode cX11_wholes 11 = .ok (.aload_n 0, 1) := by decide +kernel
theorem dX11_wholes_12 : decode cX11_wholes 12 = .ok (.getfield 29, 3) := by decide +kernel
theorem dX11_wholes_15 : decode cX11_wholes 15 = .ok (.if_icmp .gt 37, 3) := by decide +kernel
theorem dX11_wholes_18 : decode cX11_wholes 18 = .ok (.aload_n 0, 1) := by decide +kernel
theorem dX11_wholes_19 : decode cX11_wholes 19 = .ok (.aload_n 0, 1) := by decide +kernel
theorem dX11_wholes_20 : decode cX11_wholes 20 = .ok (.getfield 15, 3) := by decide +kernel
theorem dX11_wholes_23 : decode cX11_wholes 23 = .ok (.iload_n 1, 1) := by decide +kernel
theorem dX11_wholes_24 : decode cX11_wholes 24 = .ok (.iload_n 2, 1) := by decide +kernel
theorem dX11_wholes_25 : decode cX11_wholes 25 = .ok (.iload 4, 2) := by decide +kernel
theorem dX11_wholes_27 : decode cX11_wholes 27 = .ok (.invokevirtual 70, 3) := by decide +kernel
theorem dX11_wholes_30 : decode cX11_wholes 30 = .ok (.aload_n 0, 1) := by decide +kernel
theorem dX11_wholes_31 : decode cX11_wholes 31 = .ok (.getfield 35, 3) := by decide +kernel
theorem dX11_wholes_34 : decode cX11_wholes 34 = .ok (.if_icmp .gt 12, 3) := by decide +kernel
theorem dX11_wholes_37 : decode cX11_wholes 37 = .ok (.iload_n 3, 1) := by decide +kernel
theorem dX11_wholes_38 : decode cX11_wholes 38 = .ok (.iconst 1, 1) := by decide +kernel
theorem dX11_wholes_39 : decode cX11_wholes 39 = .ok (.iload 4, 2) := by decide +kernel
theorem dX11_wholes_41 : decode cX11_wholes 41 = .ok (.iconst 5, 1) := by decide +kernel
theorem dX11_wholes_42 : decode cX11_wholes 42 = .ok (.iadd, 1) := by decide +kernel
theorem dX11_wholes_43 : decode cX11_wholes 43 = .ok (.ishl, 1) := by decide +kernel
theorem dX11_wholes_44 : decode cX11_wholes 44 = .ok (.ior, 1) := by decide +kernel
theorem dX11_wholes_45 : decode cX11_wholes 45 = .ok (.istore_n 3, 1) := by decide +kernel
theorem dX11_wholes_46 : decode cX11_wholes 46 = .ok (.iinc 4 1, 3) := by decide +kernel
theorem dX11_wholes_49 : decode cX11_wholes 49 = .ok (.goto (-40), 3) := by decide +kernel
theorem dX11_wholes_52 : decode cX11_wholes 52 = .ok (.iload_n 3, 1) := by decide +kernel
theorem dX11_wholes_53 : decode cX11_wholes 53 = .ok (.ireturn, 1) := by decide +kernel
def fX11_wholes_L9 : Nat → eg_H → Nat → Int32 → Int32 → Int32 → Int32 → Option (Int32 × eg_H)
  | 0, _, _, _, _, _, _ => none
  | n + 1, h, l0, l1, l2, l3, l4 =>
    (eg_gI h 11 6 l0).bind fun v1 =>
    if v1 < l4 then
      (some (l3, h))
    else
      (eg_gQ h 11 2 l0).bind fun q4 =>
      (fX11_forceBy h l0 q4 l1 l2 l4).bind fun ⟨v7, h6⟩ =>
      (eg_gI h6 11 8 l0).bind fun v9 =>
      if v9 < v7 then
        (fX11_wholes_L9 n h6 l0 l1 l2 l3 (l4 + (1 : Int32)))
      else
        (some ((l3 ||| ((1 : Int32) <<< ((l4 + (5 : Int32)) &&& 31))))).bind fun v12 =>
        fX11_wholes_L9 n h6 l0 l1 l2 v12 (l4 + (1 : Int32))
set_option maxRecDepth 20000 in
theorem fX11_wholes_L9_ok {h0 : eg_H} {Z : eg_C → State → Prop} {N S : Nat} : ∀ (n : Nat) (h : eg_H) (l0 : Nat) (l1 : Int32) (l2 : Int32) (l3 : Int32) (l4 : Int32) (eE : Int32 × eg_H), fX11_wholes_L9 n h l0 l1 l2 l3 l4 = some eE → (hk0 : ∀ (l3 : Int32) (h : eg_H), eE = (l3, h) → eg_AW (RX11, cX11_wholes, 5, 3, none, "wholes", (some .int)) Z N S h0 52 [(3, .int l3)] [] h) → eg_AW (RX11, cX11_wholes, 5, 3, none, "wholes", (some .int)) Z N S h0 9 [(0, .ref l0), (1, .int l1), (2, .int l2), (3, .int l3), (4, .int l4)] [] h := by
  intro n
  induction n with
  | zero => intro h l0 l1 l2 l3 l4 eE hF; exact absurd hF (by intro q; cases q)
  | succ n ih =>
    intro h l0 l1 l2 l3 l4 eE hF hk0
    have hrec := fun (h' : eg_H) (l0 : Nat) (l1 : Int32) (l2 : Int32) (l3 : Int32) (l4 : Int32) hq => ih h' l0 l1 l2 l3 l4 eE hq hk0
    refine eg_iload (i := 4) 4 dX11_wholes_9 rfl ?_
    refine eg_aload_n (i := 0) 0 dX11_wholes_11 rfl rfl ?_
    replace hF := eg_bind hF; obtain ⟨v1, e2, hF⟩ := hF
    refine eg_getI dX11_wholes_12 e2 (Nat.le_of_ble_eq_true rfl) (Nat.le_of_ble_eq_true rfl) rfl ew_243 ?_
    refine eg_ic_gt 52 dX11_wholes_15 rfl (fun c3 => ?_) (fun c3 => ?_)
    · replace hF := eg_it c3 hF
      exact eg_sub [3] [(3, .int l3)] rfl (hk0 l3 h (Option.some.inj hF).symm)
    · replace hF := eg_if c3 hF
      refine eg_aload_n (i := 0) 0 dX11_wholes_18 rfl rfl ?_
      refine eg_aload_n (i := 0) 0 dX11_wholes_19 rfl rfl ?_
      replace hF := eg_bind hF; obtain ⟨q4, e5, hF⟩ := hF
      refine eg_getQ dX11_wholes_20 e5 (Nat.le_of_ble_eq_true rfl) (Nat.le_of_ble_eq_true rfl) rfl ew_239 ?_
      refine eg_iload_n (i := 1) 1 dX11_wholes_23 rfl rfl ?_
      refine eg_iload_n (i := 2) 2 dX11_wholes_24 rfl rfl ?_
      refine eg_iload (i := 4) 4 dX11_wholes_25 rfl ?_
      replace hF := eg_bind hF; obtain ⟨⟨v7, h6⟩, e8, hF⟩ := hF
      refine eg_callV (c := 11) (n := 4) [va_rf q4, .int l1, .int l2, .int l4] dX11_wholes_27 (mX11_forceBy e8) rfl (fX11_forceBy_O e8) (Nat.le_of_ble_eq_true rfl) rfl ew_819 ew_763 ew_764 ew_106 ew_765 hy_X11_forceBy rfl (Nat.le_of_ble_eq_true rfl) (Nat.le_of_ble_eq_true rfl) (Nat.le_of_ble_eq_true rfl) ?_
      refine eg_aload_n (i := 0) 0 dX11_wholes_30 rfl rfl ?_
      replace hF := eg_bind hF; obtain ⟨v9, e10, hF⟩ := hF
      refine eg_getI dX11_wholes_31 e10 (Nat.le_of_ble_eq_true rfl) (Nat.le_of_ble_eq_true rfl) rfl ew_245 ?_
      refine eg_ic_gt 46 dX11_wholes_34 rfl (fun c11 => ?_) (fun c11 => ?_)
      · replace hF := eg_it c11 hF
        refine eg_iinc (i := 4) (v := (l4 + (1 : Int32))) 4 [(4, .int (l4 + (1 : Int32))), (0, .ref l0), (1, .int l1), (2, .int l2), (3, .int l3)] dX11_wholes_46 rfl rfl (Nat.le_of_ble_eq_true rfl) rfl ?_
        refine eg_goto 9 dX11_wholes_49 rfl ?_
        exact eg_sub [1, 2, 3, 4, 0] [(0, .ref l0), (1, .int l1), (2, .int l2), (3, .int l3), (4, .int (l4 + (1 : Int32)))] rfl (hrec h6 l0 l1 l2 l3 (l4 + (1 : Int32)) hF)
      · replace hF := eg_if c11 hF
        refine eg_iload_n (i := 3) 3 dX11_wholes_37 rfl rfl ?_
        refine eg_iconst (v := (1 : Int32)) dX11_wholes_38 (by decide) ?_
        refine eg_iload (i := 4) 4 dX11_wholes_39 rfl ?_
        refine eg_iconst (v := (5 : Int32)) dX11_wholes_41 (by decide) ?_
        refine eg_iadd dX11_wholes_42 ?_
        refine eg_ishl dX11_wholes_43 ?_
        refine eg_ior dX11_wholes_44 ?_
        replace hF := eg_bind hF; obtain ⟨v12, e13, hF⟩ := hF
        replace e13 := Option.some.inj e13
        rw [e13]
        refine eg_istore_n (i := 3) [(3, .int v12), (0, .ref l0), (1, .int l1), (2, .int l2), (4, .int l4)] dX11_wholes_45 rfl (Nat.le_of_ble_eq_true rfl) rfl ?_
        refine eg_iinc (i := 4) (v := (l4 + (1 : Int32))) 4 [(4, .int (l4 + (1 : Int32))), (3, .int v12), (0, .ref l0), (1, .int l1), (2, .int l2)] dX11_wholes_46 rfl rfl (Nat.le_of_ble_eq_true rfl) rfl ?_
        refine eg_goto 9 dX11_wholes_49 rfl ?_
        exact eg_sub [2, 3, 4, 1, 0] [(0, .ref l0), (1, .int l1), (2, .int l2), (3, .int v12), (4, .int (l4 + (1 : Int32)))] rfl (hrec h6 l0 l1 l2 v12 (l4 + (1 : Int32)) hF)
def fX11_wholes (h : eg_H) (l0 : Nat) (l1 : Int32) (l2 : Int32) : Option (Int32 × eg_H) :=
  if eg_isO h 11 l0 then (
    (eg_gI h 11 6 l0).bind fun v1 =>
    (some ((-v1))).bind fun v3 =>
    (fX11_wholes_L9 eg_F h l0 l1 l2 (0 : Int32) v3).bind fun e =>
    match e with
    | (v7, h8) =>
      some (v7, h8)) else none
theorem fX11_wholes_O {h : eg_H} {l0 : Nat} {l1 : Int32} {l2 : Int32} {rE : Int32} {hE : eg_H} (hF : fX11_wholes h l0 l1 l2 = some (rE, hE)) : eg_isO h 11 l0 := (eg_ifn hF).1
set_option maxRecDepth 20000 in
theorem mX11_wholes {h : eg_H} {l0 : Nat} {l1 : Int32} {l2 : Int32} {rE : Int32} {hE : eg_H} (hF : fX11_wholes h l0 l1 l2 = some (rE, hE)) : eg_Met yX11_wholes cX11_wholes 5 (some .int) 3 [.ref l0, .int l1, .int l2] h (some (.int rE)) hE := by
  refine eg_enter rfl (Nat.le_of_ble_eq_true rfl) ?_
  show eg_AW (RX11, cX11_wholes, 5, 3, none, "wholes", (some .int)) (eg_Zm (some (.int rE)) hE h) (eg_nc hE) (eg_ns hE) h 0 [(0, .ref l0), (1, .int l1), (2, .int l2)] [] h
  replace hF := (eg_ifn hF).2
  refine eg_iconst (v := (0 : Int32)) dX11_wholes_0 (by decide) ?_
  refine eg_istore_n (i := 3) [(3, .int (0 : Int32)), (0, .ref l0), (1, .int l1), (2, .int l2)] dX11_wholes_1 rfl (Nat.le_of_ble_eq_true rfl) rfl ?_
  refine eg_aload_n (i := 0) 1 dX11_wholes_2 rfl rfl ?_
  replace hF := eg_bind hF; obtain ⟨v1, e2, hF⟩ := hF
  refine eg_getI dX11_wholes_3 e2 (Nat.le_of_ble_eq_true rfl) (Nat.le_of_ble_eq_true rfl) rfl ew_243 ?_
  refine eg_ineg dX11_wholes_6 ?_
  replace hF := eg_bind hF; obtain ⟨v3, e4, hF⟩ := hF
  replace e4 := Option.some.inj e4
  rw [e4]
  refine eg_istore (i := 4) [(4, .int v3), (3, .int (0 : Int32)), (0, .ref l0), (1, .int l1), (2, .int l2)] dX11_wholes_7 (Nat.le_of_ble_eq_true rfl) rfl ?_
  replace hF := eg_bind hF; obtain ⟨x6, e5, hF⟩ := hF
  refine eg_sub [2, 3, 4, 1, 0] [(0, .ref l0), (1, .int l1), (2, .int l2), (3, .int (0 : Int32)), (4, .int v3)] rfl (fX11_wholes_L9_ok eg_F h l0 l1 l2 (0 : Int32) v3 x6 e5 ?_)
  · intro v7 h8 e9
    subst e9
    refine eg_iload_n (i := 3) 0 dX11_wholes_52 rfl rfl ?_
    exact eg_iretE dX11_wholes_53 hF
theorem dJ6_bitCount_0f7a4_0 : decode cJ6_bitCount_0f7a4 0 = .ok (.iload_n 0, 1) := by decide +kernel
theorem dJ6_bitCount_0f7a4_1 : decode cJ6_bitCount_0f7a4 1 = .ok (.iload_n 0, 1) := by decide +kernel
theorem dJ6_bitCount_0f7a4_2 : decode cJ6_bitCount_0f7a4 2 = .ok (.iconst 1, 1) := by decide +kernel
theorem dJ6_bitCount_0f7a4_3 : decode cJ6_bitCount_0f7a4 3 = .ok (.iushr, 1) := by decide +kernel
theorem dJ6_bitCount_0f7a4_4 : decode cJ6_bitCount_0f7a4 4 = .ok (.ldc_w 265, 3) := by decide +kernel
theorem dJ6_bitCount_0f7a4_7 : decode cJ6_bitCount_0f7a4 7 = .ok (.iand, 1) := by decide +kernel
theorem dJ6_bitCount_0f7a4_8 : decode cJ6_bitCount_0f7a4 8 = .ok (.isub, 1) := by decide +kernel
theorem dJ6_bitCount_0f7a4_9 : decode cJ6_bitCount_0f7a4 9 = .ok (.istore_n 0, 1) := by decide +kernel
theorem dJ6_bitCount_0f7a4_10 : decode cJ6_bitCount_0f7a4 10 = .ok (.iload_n 0, 1) := by decide +kernel
theorem dJ6_bitCount_0f7a4_11 : decode cJ6_bitCount_0f7a4 11 = .ok (.ldc_w 266, 3) := by decide +kernel
theorem dJ6_bitCount_0f7a4_14 : decode cJ6_bitCount_0f7a4 14 = .ok (.iand, 1) := by decide +kernel
theorem dJ6_bitCount_0f7a4_15 : decode cJ6_bitCount_0f7a4 15 = .ok (.iload_n 0, 1) := by decide +kernel
theorem dJ6_bitCount_0f7a4_16 : decode cJ6_bitCount_0f7a4 16 = .ok (.iconst 2, 1) := by decide +kernel
theorem dJ6_bitCount_0f7a4_17 : decode cJ6_bitCount_0f7a4 17 = .ok (.iushr, 1) := by decide +kernel
theorem dJ6_bitCount_0f7a4_18 : decode cJ6_bitCount_0f7a4 18 = .ok (.ldc_w 266, 3) := by decide +kernel
theorem dJ6_bitCount_0f7a4_21 : decode cJ6_bitCount_0f7a4 21 = .ok (.iand, 1) := by decide +kernel
theorem dJ6_bitCount_0f7a4_22 : decode cJ6_bitCount_0f7a4 22 = .ok (.iadd, 1) := by decide +kernel
theorem dJ6_bitCount_0f7a4_23 : decode cJ6_bitCount_0f7a4 23 = .ok (.istore_n 0, 1) := by decide +kernel
theorem dJ6_bitCount_0f7a4_24 : decode cJ6_bitCount_0f7a4 24 = .ok (.iload_n 0, 1) := by decide +kernel
theorem dJ6_bitCount_0f7a4_25 : decode cJ6_bitCount_0f7a4 25 = .ok (.iload_n 0, 1) := by decide +kernel
theorem dJ6_bitCount_0f7a4_26 : decode cJ6_bitCount_0f7a4 26 = .ok (.iconst 4, 1) := by decide +kernel
theorem dJ6_bitCount_0f7a4_27 : decode cJ6_bitCount_0f7a4 27 = .ok (.iushr, 1) := by decide +kernel
theorem dJ6_bitCount_0f7a4_28 : decode cJ6_bitCount_0f7a4 28 = .ok (.iadd, 1) := by decide +kernel
theorem dJ6_bitCount_0f7a4_29 : decode cJ6_bitCount_0f7a4 29 = .ok (.ldc_w 267, 3) := by decide +kernel
theorem dJ6_bitCount_0f7a4_32 : decode cJ6_bitCount_0f7a4 32 = .ok (.iand, 1) := by decide +kernel
theorem dJ6_bitCount_0f7a4_33 : decode cJ6_bitCount_0f7a4 33 = .ok (.istore_n 0, 1) := by decide +kernel
theorem dJ6_bitCount_0f7a4_34 : decode cJ6_bitCount_0f7a4 34 = .ok (.iload_n 0, 1) := by decide +kernel
theorem dJ6_bitCount_0f7a4_35 : decode cJ6_bitCount_0f7a4 35 = .ok (.iload_n 0, 1) := by decide +kernel
theorem dJ6_bitCount_0f7a4_36 : decode cJ6_bitCount_0f7a4 36 = .ok (.bipush 8, 2) := by decide +kernel
theorem dJ6_bitCount_0f7a4_38 : decode cJ6_bitCount_0f7a4 38 = .ok (.iushr, 1) := by decide +kernel
theorem dJ6_bitCount_0f7a4_39 : decode cJ6_bitCount_0f7a4 39 = .ok (.iadd, 1) := by decide +kernel
theorem dJ6_bitCount_0f7a4_40 : decode cJ6_bitCount_0f7a4 40 = .ok (.istore_n 0, 1) := by decide +kernel
theorem dJ6_bitCount_0f7a4_41 : decode cJ6_bitCount_0f7a4 41 = .ok (.iload_n 0, 1) := by decide +kernel
theorem dJ6_bitCount_0f7a4_42 : decode cJ6_bitCount_0f7a4 42 = .ok (.iload_n 0, 1) := by decide +kernel
theorem dJ6_bitCount_0f7a4_43 : decode cJ6_bitCount_0f7a4 43 = .ok (.bipush 16, 2) := by decide +kernel
theorem dJ6_bitCount_0f7a4_45 : decode cJ6_bitCount_0f7a4 45 = .ok (.iushr, 1) := by decide +kernel
theorem dJ6_bitCount_0f7a4_46 : decode cJ6_bitCount_0f7a4 46 = .ok (.iadd, 1) := by decide +kernel
theorem dJ6_bitCount_0f7a4_47 : decode cJ6_bitCount_0f7a4 47 = .ok (.istore_n 0, 1) := by decide +kernel
theorem dJ6_bitCount_0f7a4_48 : decode cJ6_bitCount_0f7a4 48 = .ok (.iload_n 0, 1) := by decide +kernel
theorem dJ6_bitCount_0f7a4_49 : decode cJ6_bitCount_0f7a4 49 = .ok (.bipush 63, 2) := by decide +kernel
theorem dJ6_bitCount_0f7a4_51 : decode cJ6_bitCount_0f7a4 51 = .ok (.iand, 1) := by decide +kernel
theorem dJ6_bitCount_0f7a4_52 : decode cJ6_bitCount_0f7a4 52 = .ok (.ireturn, 1) := by decide +kernel
def fJ6_bitCount_0f7a4 (h : eg_H) (l0 : Int32) : Option (Int32 × eg_H) :=
  (some ((l0 - ((l0.toUInt32 >>> ((1 : Int32).toUInt32 &&& Int32.toUInt32 31)).toInt32 &&& (1431655765 : Int32))))).bind fun v1 =>
  (some (((v1 &&& (858993459 : Int32)) + ((v1.toUInt32 >>> ((2 : Int32).toUInt32 &&& Int32.toUInt32 31)).toInt32 &&& (858993459 : Int32))))).bind fun v3 =>
  (some (((v3 + (v3.toUInt32 >>> ((4 : Int32).toUInt32 &&& Int32.toUInt32 31)).toInt32) &&& (252645135 : Int32)))).bind fun v5 =>
  (some ((v5 + (v5.toUInt32 >>> ((8 : Int32).toUInt32 &&& Int32.toUInt32 31)).toInt32))).bind fun v7 =>
  (some ((v7 + (v7.toUInt32 >>> ((16 : Int32).toUInt32 &&& Int32.toUInt32 31)).toInt32))).bind fun v9 =>
  some ((v9 &&& (63 : Int32)), h)
set_option maxRecDepth 20000 in
theorem mJ6_bitCount_0f7a4 {h : eg_H} {l0 : Int32} {rE : Int32} {hE : eg_H} (hF : fJ6_bitCount_0f7a4 h l0 = some (rE, hE)) : eg_Met yJ6_bitCount_0f7a4 cJ6_bitCount_0f7a4 1 (some .int) 1 [.int l0] h (some (.int rE)) hE := by
  refine eg_enter rfl (Nat.le_of_ble_eq_true rfl) ?_
  show eg_AW (RJ6, cJ6_bitCount_0f7a4, 1, 1, none, "bitCount", (some .int)) (eg_Zm (some (.int rE)) hE h) (eg_nc hE) (eg_ns hE) h 0 [(0, .int l0)] [] h
  refine eg_iload_n (i := 0) 0 dJ6_bitCount_0f7a4_0 rfl rfl ?_
  refine eg_iload_n (i := 0) 0 dJ6_bitCount_0f7a4_1 rfl rfl ?_
  refine eg_iconst (v := (1 : Int32)) dJ6_bitCount_0f7a4_2 (by decide) ?_
  refine eg_iushr dJ6_bitCount_0f7a4_3 ?_
  refine eg_ldcw (v := (1431655765 : Int32)) dJ6_bitCount_0f7a4_4 ew_827 ?_
  refine eg_iand dJ6_bitCount_0f7a4_7 ?_
  refine eg_isub dJ6_bitCount_0f7a4_8 ?_
  replace hF := eg_bind hF; obtain ⟨v1, e2, hF⟩ := hF
  replace e2 := Option.some.inj e2
  rw [e2]
  refine eg_istore_n (i := 0) [(0, .int v1)] dJ6_bitCount_0f7a4_9 rfl (Nat.le_of_ble_eq_true rfl) rfl ?_
  refine eg_iload_n (i := 0) 0 dJ6_bitCount_0f7a4_10 rfl rfl ?_
  refine eg_ldcw (v := (858993459 : Int32)) dJ6_bitCount_0f7a4_11 ew_828 ?_
  refine eg_iand dJ6_bitCount_0f7a4_14 ?_
  refine eg_iload_n (i := 0) 0 dJ6_bitCount_0f7a4_15 rfl rfl ?_
  refine eg_iconst (v := (2 : Int32)) dJ6_bitCount_0f7a4_16 (by decide) ?_
  refine eg_iushr dJ6_bitCount_0f7a4_17 ?_
  refine eg_ldcw (v := (858993459 : Int32)) dJ6_bitCount_0f7a4_18 ew_828 ?_
  refine eg_iand dJ6_bitCount_0f7a4_21 ?_
  refine eg_iadd dJ6_bitCount_0f7a4_22 ?_
  replace hF := eg_bind hF; obtain ⟨v3, e4, hF⟩ := hF
  replace e4 := Option.some.inj e4
  rw [e4]
  refine eg_istore_n (i := 0) [(0, .int v3)] dJ6_bitCount_0f7a4_23 rfl (Nat.le_of_ble_eq_true rfl) rfl ?_
  refine eg_iload_n (i := 0) 0 dJ6_bitCount_0f7a4_24 rfl rfl ?_
  refine eg_iload_n (i := 0) 0 dJ6_bitCount_0f7a4_25 rfl rfl ?_
  refine eg_iconst (v := (4 : Int32)) dJ6_bitCount_0f7a4_26 (by decide) ?_
  refine eg_iushr dJ6_bitCount_0f7a4_27 ?_
  refine eg_iadd dJ6_bitCount_0f7a4_28 ?_
  refine eg_ldcw (v := (252645135 : Int32)) dJ6_bitCount_0f7a4_29 ew_829 ?_
  refine eg_iand dJ6_bitCount_0f7a4_32 ?_
  replace hF := eg_bind hF; obtain ⟨v5, e6, hF⟩ := hF
  replace e6 := Option.some.inj e6
  rw [e6]
  refine eg_istore_n (i := 0) [(0, .int v5)] dJ6_bitCount_0f7a4_33 rfl (Nat.le_of_ble_eq_true rfl) rfl ?_
  refine eg_iload_n (i := 0) 0 dJ6_bitCount_0f7a4_34 rfl rfl ?_
  refine eg_iload_n (i := 0) 0 dJ6_bitCount_0f7a4_35 rfl rfl ?_
  refine eg_bipush (v := (8 : Int32)) dJ6_bitCount_0f7a4_36 (by decide) ?_
  refine eg_iushr dJ6_bitCount_0f7a4_38 ?_
  refine eg_iadd dJ6_bitCount_0f7a4_39 ?_
  replace hF := eg_bind hF; obtain ⟨v7, e8, hF⟩ := hF
  replace e8 := Option.some.inj e8
  rw [e8]
  refine eg_istore_n (i := 0) [(0, .int v7)] dJ6_bitCount_0f7a4_40 rfl (Nat.le_of_ble_eq_true rfl) rfl ?_
  refine eg_iload_n (i := 0) 0 dJ6_bitCount_0f7a4_41 rfl rfl ?_
  refine eg_iload_n (i := 0) 0 dJ6_bitCount_0f7a4_42 rfl rfl ?_
  refine eg_bipush (v := (16 : Int32)) dJ6_bitCount_0f7a4_43 (by decide) ?_
  refine eg_iushr dJ6_bitCount_0f7a4_45 ?_
  refine eg_iadd dJ6_bitCount_0f7a4_46 ?_
  replace hF := eg_bind hF; obtain ⟨v9, e10, hF⟩ := hF
  replace e10 := Option.some.inj e10
  rw [e10]
  refine eg_istore_n (i := 0) [(0, .int v9)] dJ6_bitCount_0f7a4_47 rfl (Nat.le_of_ble_eq_true rfl) rfl ?_
  refine eg_iload_n (i := 0) 0 dJ6_bitCount_0f7a4_48 rfl rfl ?_
  refine eg_bipush (v := (63 : Int32)) dJ6_bitCount_0f7a4_49 (by decide) ?_
  refine eg_iand dJ6_bitCount_0f7a4_51 ?_
  exact eg_iretE dJ6_bitCount_0f7a4_52 hF
theorem dX11_goodOf_0 : decode cX11_goodOf 0 = .ok (.iload_n 3, 1) := by decide +kernel
theorem dX11_goodOf_1 : decode cX11_goodOf 1 = .ok (.aload_n 0, 1) := by decide +kernel
theorem dX11_goodOf_2 : decode cX11_goodOf 2 = .ok (.getfield 32, 3) := by decide +kernel
theorem dX11_goodOf_5 : decode cX11_goodOf 5 = .ok (.iload_n 2, 1) := by decide +kernel
theorem dX11_goodOf_6 : decode cX11_goodOf 6 = .ok (.imul, 1) := by decide +kernel
theorem dX11_goodOf_7 : decode cX11_goodOf 7 = .ok (.iconst 4, 1) := by decide +kernel
theorem dX11_goodOf_8 : decode cX11_goodOf 8 = .ok (.idiv, 1) := by decide +kernel
theorem dX11_goodOf_9 : decode cX11_goodOf 9 = .ok (.iadd, 1) := by decide +kernel
theorem dX11_goodOf_10 : decode cX11_goodOf 10 = .ok (.aload_n 0, 1) := by decide +kernel
theorem dX11_goodOf_11 : decode cX11_goodOf 11 = .ok (.getfield 19, 3) := by decide +kernel
theorem dX11_goodOf_14 : decode cX11_goodOf 14 = .ok (.isub, 1) := by decide +kernel
theorem dX11_goodOf_15 : decode cX11_goodOf 15 = .ok (.iconst 5, 1) := by decide +kernel
theorem dX11_goodOf_16 : decode cX11_goodOf 16 = .ok (.iadd, 1) := by decide +kernel
theorem dX11_goodOf_17 : decode cX11_goodOf 17 = .ok (.istore 4, 2) := by decide +kernel
theorem dX11_goodOf_19 : decode cX11_goodOf 19 = .ok (.iload 4, 2) := by decide +kernel
theorem dX11_goodOf_21 : decode cX11_goodOf 21 = .ok (.iconst 2, 1) := by decide +kernel
theorem dX11_goodOf_22 : decode cX11_goodOf 22 = .ok (.aload_n 0, 1) := by decide +kernel
theorem dX11_goodOf_23 : decode cX11_goodOf 23 = .ok (.getfield 19, 3) := by decide +kernel
theorem dX11_goodOf_26 : decode cX11_goodOf 26 = .ok (.imul, 1) := by decide +kernel
theorem dX11_goodOf_27 : decode cX11_goodOf 27 = .ok (.iadd, 1) := by decide +kernel
theorem dX11_goodOf_28 : decode cX11_goodOf 28 = .ok (.istore 5, 2) := by decide +kernel
theorem dX11_goodOf_30 : decode cX11_goodOf 30 = .ok (.iload 5, 2) := by decide +kernel
theorem dX11_goodOf_32 : decode cX11_goodOf 32 = .ok (.ifCond .lt 10, 3) := by decide +kernel
theorem dX11_goodOf_35 : decode cX11_goodOf 35 = .ok (.iload 4, 2) := by decide +kernel
theorem dX11_goodOf_37 : decode cX11_goodOf 37 = .ok (.bipush 10, 2) := by decide +kernel
theorem dX11_goodOf_39 : decode cX11_goodOf 39 = .ok (.if_icmp .le 5, 3) := by decide +kernel
theorem dX11_goodOf_42 : decode cX11_goodOf 42 = .ok (.iconst 0, 1) := by decide +kernel
theorem dX11_goodOf_43 : decode cX11_goodOf 43 = .ok (.ireturn, 1) := by decide +kernel
theorem dX11_goodOf_44 : decode cX11_goodOf 44 = .ok (.iconst 1, 1) := by decide +kernel
theorem dX11_goodOf_45 : decode cX11_goodOf 45 = .ok (.iconst 2, 1) := by decide +kernel
theorem dX11_goodOf_46 : decode cX11_goodOf 46 = .ok (.aload_n 0, 1) := by decide +kernel
theorem dX11_goodOf_47 : decode cX11_goodOf 47 = .ok (.getfield 19, 3) := by decide +kernel
theorem dX11_goodOf_50 : decode cX11_goodOf 50 = .ok (.imul, 1) := by decide +kernel
theorem dX11_goodOf_51 : decode cX11_goodOf 51 = .ok (.iconst 1, 1) := by decide +kernel
theorem dX11_goodOf_52 : decode cX11_goodOf 52 = .ok (.iadd, 1) := by decide +kernel
theorem dX11_goodOf_53 : decode cX11_goodOf 53 = .ok (.ishl, 1) := by decide +kernel
theorem dX11_goodOf_54 : decode cX11_goodOf 54 = .ok (.iconst 1, 1) := by decide +kernel
theorem dX11_goodOf_55 : decode cX11_goodOf 55 = .ok (.isub, 1) := by decide +kernel
theorem dX11_goodOf_56 : decode cX11_goodOf 56 = .ok (.istore 6, 2) := by decide +kernel
theorem dX11_goodOf_58 : decode cX11_goodOf 58 = .ok (.iload 4, 2) := by decide +kernel
theorem dX11_goodOf_60 : decode cX11_goodOf 60 = .ok (.ifCond .ge 14, 3) := by decide +kernel
theorem dX11_goodOf_63 : decode cX11_goodOf 63 = .ok (.iload_n 1, 1) := by decide +kernel
theorem dX11_goodOf_64 : decode cX11_goodOf 64 = .ok (.iload 6, 2) := by decide +kernel
theorem dX11_goodOf_66 : decode cX11_goodOf 66 = .ok (.iload 4, 2) := by decide +kernel
theorem dX11_goodOf_68 : decode cX11_goodOf 68 = .ok (.ineg, 1) := by decide +kernel
theorem dX11_goodOf_69 : decode cX11_goodOf 69 = .ok (.ishr, 1) := by decide +kernel
theorem dX11_goodOf_70 : decode cX11_goodOf 70 = .ok (.iand, 1) := by decide +kernel
theorem dX11_goodOf_71 : decode cX11_goodOf 71 = .ok (.goto 10, 3) := by decide +kernel
theorem dX11_goodOf_74 : decode cX11_goodOf 74 = .ok (.iload_n 1, 1) := by decide +kernel
theorem dX11_goodOf_75 : decode cX11_goodOf 75 = .ok (.iload 4, 2) := by decide +kernel
theorem dX11_goodOf_77 : decode cX11_goodOf 77 = .ok (.ishr, 1) := by decide +kernel
theorem dX11_goodOf_78 : decode cX11_goodOf 78 = .ok (.iload 6, 2) := by decide +kernel
theorem dX11_goodOf_80 : decode cX11_goodOf 80 = .ok (.iand, 1) := by decide +kernel
theorem dX11_goodOf_81 : decode cX11_goodOf 81 = .ok (.invokestatic 74, 3) := by decide +kernel
theorem dX11_goodOf_84 : decode cX11_goodOf 84 = .ok (.ireturn, 1) := by decide +kernel
def fX11_goodOf (h : eg_H) (l0 : Nat) (l1 : Int32) (l2 : Int32) (l3 : Int32) : Option (Int32 × eg_H) :=
  if eg_isO h 11 l0 then (
    (eg_gI h 11 7 l0).bind fun v1 =>
    (eg_gI h 11 3 l0).bind fun v3 =>
    (some ((((l3 + ((v1 * l2) / (4 : Int32))) - v3) + (5 : Int32)))).bind fun v5 =>
    (eg_gI h 11 3 l0).bind fun v7 =>
    (some ((v5 + ((2 : Int32) * v7)))).bind fun v9 =>
    if v9 < 0 then
      (some ((0 : Int32), h))
    else
      if v5 ≤ (10 : Int32) then
        ((eg_gI h 11 3 l0).bind fun v13 =>
        (some ((((1 : Int32) <<< ((((2 : Int32) * v13) + (1 : Int32)) &&& 31)) - (1 : Int32)))).bind fun v15 =>
        if 0 ≤ v5 then
          ((fJ6_bitCount_0f7a4 h ((l1 >>> (v5 &&& 31)) &&& v15)).bind fun ⟨v19, h18⟩ =>
          some (v19, h18))
        else
          (fJ6_bitCount_0f7a4 h (l1 &&& (v15 >>> ((-v5) &&& 31)))).bind fun ⟨v22, h21⟩ =>
          some (v22, h21))
      else
        some ((0 : Int32), h)) else none
theorem fX11_goodOf_O {h : eg_H} {l0 : Nat} {l1 : Int32} {l2 : Int32} {l3 : Int32} {rE : Int32} {hE : eg_H} (hF : fX11_goodOf h l0 l1 l2 l3 = some (rE, hE)) : eg_isO h 11 l0 := (eg_ifn hF).1
set_option maxRecDepth 20000 in
theorem mX11_goodOf {h : eg_H} {l0 : Nat} {l1 : Int32} {l2 : Int32} {l3 : Int32} {rE : Int32} {hE : eg_H} (hF : fX11_goodOf h l0 l1 l2 l3 = some (rE, hE)) : eg_Met yX11_goodOf cX11_goodOf 7 (some .int) 2 [.ref l0, .int l1, .int l2, .int l3] h (some (.int rE)) hE := by
  refine eg_enter rfl (Nat.le_of_ble_eq_true rfl) ?_
  show eg_AW (RX11, cX11_goodOf, 7, 2, none, "goodOf", (some .int)) (eg_Zm (some (.int rE)) hE h) (eg_nc hE) (eg_ns hE) h 0 [(0, .ref l0), (1, .int l1), (2, .int l2), (3, .int l3)] [] h
  replace hF := (eg_ifn hF).2
  refine eg_iload_n (i := 3) 3 dX11_goodOf_0 rfl rfl ?_
  refine eg_aload_n (i := 0) 0 dX11_goodOf_1 rfl rfl ?_
  replace hF := eg_bind hF; obtain ⟨v1, e2, hF⟩ := hF
  refine eg_getI dX11_goodOf_2 e2 (Nat.le_of_ble_eq_true rfl) (Nat.le_of_ble_eq_true rfl) rfl ew_244 ?_
  refine eg_iload_n (i := 2) 2 dX11_goodOf_5 rfl rfl ?_
  refine eg_imul dX11_goodOf_6 ?_
  refine eg_iconst (v := (4 : Int32)) dX11_goodOf_7 (by decide) ?_
  refine eg_idiv dX11_goodOf_8 (by decide) ?_
  refine eg_iadd dX11_goodOf_9 ?_
  refine eg_aload_n (i := 0) 0 dX11_goodOf_10 rfl rfl ?_
  replace hF := eg_bind hF; obtain ⟨v3, e4, hF⟩ := hF
  refine eg_getI dX11_goodOf_11 e4 (Nat.le_of_ble_eq_true rfl) (Nat.le_of_ble_eq_true rfl) rfl ew_240 ?_
  refine eg_isub dX11_goodOf_14 ?_
  refine eg_iconst (v := (5 : Int32)) dX11_goodOf_15 (by decide) ?_
  refine eg_iadd dX11_goodOf_16 ?_
  replace hF := eg_bind hF; obtain ⟨v5, e6, hF⟩ := hF
  replace e6 := Option.some.inj e6
  rw [e6]
  refine eg_istore (i := 4) [(4, .int v5), (0, .ref l0), (1, .int l1), (2, .int l2), (3, .int l3)] dX11_goodOf_17 (Nat.le_of_ble_eq_true rfl) rfl ?_
  refine eg_iload (i := 4) 0 dX11_goodOf_19 rfl ?_
  refine eg_iconst (v := (2 : Int32)) dX11_goodOf_21 (by decide) ?_
  refine eg_aload_n (i := 0) 1 dX11_goodOf_22 rfl rfl ?_
  replace hF := eg_bind hF; obtain ⟨v7, e8, hF⟩ := hF
  refine eg_getI dX11_goodOf_23 e8 (Nat.le_of_ble_eq_true rfl) (Nat.le_of_ble_eq_true rfl) rfl ew_240 ?_
  refine eg_imul dX11_goodOf_26 ?_
  refine eg_iadd dX11_goodOf_27 ?_
  replace hF := eg_bind hF; obtain ⟨v9, e10, hF⟩ := hF
  replace e10 := Option.some.inj e10
  rw [e10]
  refine eg_istore (i := 5) [(5, .int v9), (4, .int v5), (0, .ref l0), (1, .int l1), (2, .int l2), (3, .int l3)] dX11_goodOf_28 (Nat.le_of_ble_eq_true rfl) rfl ?_
  refine eg_iload (i := 5) 0 dX11_goodOf_30 rfl ?_
  refine eg_if_lt 42 dX11_goodOf_32 rfl (fun c11 => ?_) (fun c11 => ?_)
  · replace hF := eg_it c11 hF
    refine eg_iconst (v := (0 : Int32)) dX11_goodOf_42 (by decide) ?_
    exact eg_iretE dX11_goodOf_43 hF
  · replace hF := eg_if c11 hF
    refine eg_iload (i := 4) 1 dX11_goodOf_35 rfl ?_
    refine eg_bipush (v := (10 : Int32)) dX11_goodOf_37 (by decide) ?_
    refine eg_ic_le 44 dX11_goodOf_39 rfl (fun c12 => ?_) (fun c12 => ?_)
    · replace hF := eg_it c12 hF
      refine eg_iconst (v := (1 : Int32)) dX11_goodOf_44 (by decide) ?_
      refine eg_iconst (v := (2 : Int32)) dX11_goodOf_45 (by decide) ?_
      refine eg_aload_n (i := 0) 2 dX11_goodOf_46 rfl rfl ?_
      replace hF := eg_bind hF; obtain ⟨v13, e14, hF⟩ := hF
      refine eg_getI dX11_goodOf_47 e14 (Nat.le_of_ble_eq_true rfl) (Nat.le_of_ble_eq_true rfl) rfl ew_240 ?_
      refine eg_imul dX11_goodOf_50 ?_
      refine eg_iconst (v := (1 : Int32)) dX11_goodOf_51 (by decide) ?_
      refine eg_iadd dX11_goodOf_52 ?_
      refine eg_ishl dX11_goodOf_53 ?_
      refine eg_iconst (v := (1 : Int32)) dX11_goodOf_54 (by decide) ?_
      refine eg_isub dX11_goodOf_55 ?_
      replace hF := eg_bind hF; obtain ⟨v15, e16, hF⟩ := hF
      replace e16 := Option.some.inj e16
      rw [e16]
      refine eg_istore (i := 6) [(6, .int v15), (5, .int v9), (4, .int v5), (0, .ref l0), (1, .int l1), (2, .int l2), (3, .int l3)] dX11_goodOf_56 (Nat.le_of_ble_eq_true rfl) rfl ?_
      refine eg_iload (i := 4) 2 dX11_goodOf_58 rfl ?_
      refine eg_if_ge 74 dX11_goodOf_60 rfl (fun c17 => ?_) (fun c17 => ?_)
      · replace hF := eg_it c17 hF
        refine eg_iload_n (i := 1) 4 dX11_goodOf_74 rfl rfl ?_
        refine eg_iload (i := 4) 2 dX11_goodOf_75 rfl ?_
        refine eg_ishr dX11_goodOf_77 ?_
        refine eg_iload (i := 6) 0 dX11_goodOf_78 rfl ?_
        refine eg_iand dX11_goodOf_80 ?_
        replace hF := eg_bind hF; obtain ⟨⟨v19, h18⟩, e20, hF⟩ := hF
        refine eg_callS (n := 1) [.int ((l1 >>> (v5 &&& 31)) &&& v15)] dX11_goodOf_81 (mJ6_bitCount_0f7a4 e20) rfl ew_824 ew_825 ew_124 ew_826 hy_J6_bitCount_0f7a4.2 rfl (Nat.le_of_ble_eq_true rfl) (Nat.le_of_ble_eq_true rfl) (Nat.le_of_ble_eq_true rfl) ?_
        exact eg_iretE dX11_goodOf_84 hF
      · replace hF := eg_if c17 hF
        refine eg_iload_n (i := 1) 4 dX11_goodOf_63 rfl rfl ?_
        refine eg_iload (i := 6) 0 dX11_goodOf_64 rfl ?_
        refine eg_iload (i := 4) 2 dX11_goodOf_66 rfl ?_
        refine eg_ineg dX11_goodOf_68 ?_
        refine eg_ishr dX11_goodOf_69 ?_
        refine eg_iand dX11_goodOf_70 ?_
        refine eg_goto 81 dX11_goodOf_71 rfl ?_
        replace hF := eg_bind hF; obtain ⟨⟨v22, h21⟩, e23, hF⟩ := hF
        refine eg_callS (n := 1) [.int (l1 &&& (v15 >>> ((-v5) &&& 31)))] dX11_goodOf_81 (mJ6_bitCount_0f7a4 e23) rfl ew_824 ew_825 ew_124 ew_826 hy_J6_bitCount_0f7a4.2 rfl (Nat.le_of_ble_eq_true rfl) (Nat.le_of_ble_eq_true rfl) (Nat.le_of_ble_eq_true rfl) ?_
        exact eg_iretE dX11_goodOf_84 hF
    · replace hF := eg_if c12 hF
      refine eg_iconst (v := (0 : Int32)) dX11_goodOf_42 (by decide) ?_
      exact eg_iretE dX11_goodOf_43 hF
theorem dX11_seek_0 : decode cX11_seek 0 = .ok (.iconst 0, 1) := by decide +kernel
theorem dX11_seek_1 : decode cX11_seek 1 = .ok (.istore_n 2, 1) := by decide +kernel
theorem dX11_seek_2 : decode cX11_seek 2 = .ok (.iconst 0, 1) := by decide +kernel
theorem dX11_seek_3 : decode cX11_seek 3 = .ok (.bipush (-5), 2) := by decide +kernel
theorem dX11_seek_5 : decode cX11_seek 5 = .ok (.iconst 0, 1) := by decide +kernel
theorem dX11_seek_6 : decode cX11_seek 6 = .ok (.invokestatic 79, 3) := by decide +kernel
theorem dX11_seek_9 : decode cX11_seek 9 = .ok (.istore_n 3, 1) := by decide +kernel
theorem dX11_seek_10 : decode cX11_seek 10 = .ok (.aload_n 0, 1) := by decide +kernel
theorem dX11_seek_11 : decode cX11_seek 11 = .ok (.getfield 19, 3) := by decide +kernel
theorem dX11_seek_14 : decode cX11_seek 14 = .ok (.aload_n 0, 1) := by decide +kernel
theorem dX11_seek_15 : decode cX11_seek 15 = .ok (.getfield 29, 3) := by decide +kernel
theorem dX11_seek_18 : decode cX11_seek 18 = .ok (.if_icmp .ge 14, 3) := by decide +kernel
theorem dX11_seek_21 : decode cX11_seek 21 = .ok (.iconst 2, 1) := by decide +kernel
theorem dX11_seek_22 : decode cX11_seek 22 = .ok (.aload_n 0, 1) := by decide +kernel
theorem dX11_seek_23 : decode cX11_seek 23 = .ok (.getfield 19, 3) := by decide +kernel
theorem dX11_seek_26 : decode cX11_seek 26 = .ok (.imul, 1) := by decide +kernel
theorem dX11_seek_27 : decode cX11_seek 27 = .ok (.iconst 1, 1) := by decide +kernel
theorem dX11_seek_28 : decode cX11_seek 28 = .ok (.iadd, 1) := by decide +kernel
theorem dX11_seek_29 : decode cX11_seek 29 = .ok (.goto 11, 3) := by decide +kernel
theorem dX11_seek_32 : decode cX11_seek 32 = .ok (.iconst 2, 1) := by decide +kernel
theorem dX11_seek_33 : decode cX11_seek 33 = .ok (.aload_n 0, 1) := by decide +kernel
theorem dX11_seek_34 : decode cX11_seek 34 = .ok (.getfield 29, 3) := by decide +kernel
theorem dX11_seek_37 : decode cX11_seek 37 = .ok (.imul, 1) := by decide +kernel
theorem dX11_seek_38 : decode cX11_seek 38 = .ok (.iconst 1, 1) := by decide +kernel
theorem dX11_seek_39 : decode cX11_seek 39 = .ok (.iadd, 1) := by decide +kernel
theorem dX11_seek_40 : decode cX11_seek 40 = .ok (.istore 4, 2) := by decide +kernel
theorem dX11_seek_42 : decode cX11_seek 42 = .ok (.iconst 0, 1) := by decide +kernel
theorem dX11_seek_43 : decode cX11_seek 43 = .ok (.istore 5, 2) := by decide +kernel
theorem dX11_seek_45 : decode cX11_seek 45 = .ok (.iload 5, 2) := by decide +kernel
theorem dX11_seek_47 : decode cX11_seek 47 = .ok (.aload_n 0, 1) := by decide +kernel
theorem dX11_seek_48 : decode cX11_seek 48 = .ok (.getfield 23, 3) := by decide +kernel
theorem dX11_seek_51 : decode cX11_seek 51 = .ok (.if_icmp .gt 89, 3) := by decide +kernel
theorem dX11_seek_54 : decode cX11_seek 54 = .ok (.iload_n 2, 1) := by decide +kernel
theorem dX11_seek_55 : decode cX11_seek 55 = .ok (.iload 4, 2) := by decide +kernel
theorem dX11_seek_57 : decode cX11_seek 57 = .ok (.if_icmp .ge 83, 3) := by decide +kernel
theorem dX11_seek_60 : decode cX11_seek 60 = .ok (.aload_n 0, 1) := by decide +kernel
theorem dX11_seek_61 : decode cX11_seek 61 = .ok (.iload_n 1, 1) := by decide +kernel
theorem dX11_seek_62 : decode cX11_seek 62 = .ok (.iload 5, 2) := by decide +kernel
theorem dX11_seek_64 : decode cX11_seek 64 = .ok (.invokevirtual 83, 3) := by decide +kernel
theorem dX11_seek_67 : decode cX11_seek 67 = .ok (.istore 6, 2) := by decide +kernel
theorem dX11_seek_69 : decode cX11_seek 69 = .ok (.iload 6, 2) := by decide +kernel
theorem dX11_seek_71 : decode cX11_seek 71 = .ok (.invokestatic 74, 3) := by decide +kernel
theorem dX11_seek_74 : decode cX11_seek 74 = .ok (.iload_n 2, 1) := by decide +kernel
theorem dX11_seek_75 : decode cX11_seek 75 = .ok (.if_icmp .gt 6, 3) := by decide +kernel
theorem dX11_seek_78 : decode cX11_seek 78 = .ok (.goto 56, 3) := by decide +kernel
theorem dX11_seek_81 : decode cX11_seek 81 = .ok (.bipush (-5), 2) := by decide +kernel
theorem dX11_seek_83 : decode cX11_seek 83 = .ok (.istore 7, 2) := by decide +kernel
theorem dX11_seek_85 : decode cX11_seek 85 = .ok (.iload 7, 2) := by decide +kernel
theorem dX11_seek_87 : decode cX11_seek 87 = .ok (.iconst 5, 1) := by decide +kernel
theorem dX11_seek_88 : decode cX11_seek 88 = .ok (.if_icmp .gt 46, 3) := by decide +kernel
theorem dX11_seek_91 : decode cX11_seek 91 = .ok (.iload_n 2, 1) := by decide +kernel
theorem dX11_seek_92 : decode cX11_seek 92 = .ok (.iload 4, 2) := by decide +kernel
theorem dX11_seek_94 : decode cX11_seek 94 = .ok (.if_icmp .ge 40, 3) := by decide +kernel
theorem dX11_seek_97 : decode cX11_seek 97 = .ok (.aload_n 0, 1) := by decide +kernel
theorem dX11_seek_98 : decode cX11_seek 98 = .ok (.iload 6, 2) := by decide +kernel
theorem dX11_seek_100 : decode cX11_seek 100 = .ok (.iload 5, 2) := by decide +kernel
theorem dX11_seek_102 : decode cX11_seek 102 = .ok (.iload 7, 2) := by decide +kernel
theorem dX11_seek_104 : decode cX11_seek 104 = .ok (.invokevirtual 86, 3) := by decide +kernel
theorem dX11_seek_107 : decode cX11_seek 107 = .ok (.istore 8, 2) := by decide +kernel
theorem dX11_seek_109 : decode cX11_seek 109 = .ok (.iload 8, 2) := by decide +kernel
theorem dX11_seek_111 : decode cX11_seek 111 = .ok (.iload_n 2, 1) := by decide +kernel
theorem dX11_seek_112 : decode cX11_seek 112 = .ok (.if_icmp .le 16, 3) := by decide +kernel
theorem dX11_seek_115 : decode cX11_seek 115 = .ok (.iload 8, 2) := by decide +kernel
theorem dX11_seek_117 : decode cX11_seek 117 = .ok (.istore_n 2, 1) := by decide +kernel
theorem dX11_seek_118 : decode cX11_seek 118 = .ok (.iload 5, 2) := by decide +kernel
theorem dX11_seek_120 : decode cX11_seek 120 = .ok (.iload 7, 2) := by decide +kernel
theorem dX11_seek_122 : decode cX11_seek 122 = .ok (.iload 8, 2) := by decide +kernel
theorem dX11_seek_124 : decode cX11_seek 124 = .ok (.invokestatic 79, 3) := by decide +kernel
theorem dX11_seek_127 : decode cX11_seek 127 = .ok (.istore_n 3, 1) := by decide +kernel
theorem dX11_seek_128 : decode cX11_seek 128 = .ok (.iinc 7 1, 3) := by decide +kernel
theorem dX11_seek_131 : decode cX11_seek 131 = .ok (.goto (-46), 3) := by decide +kernel
theorem dX11_seek_134 : decode cX11_seek 134 = .ok (.iinc 5 1, 3) := by decide +kernel
theorem dX11_seek_137 : decode cX11_seek 137 = .ok (.goto (-92), 3) := by decide +kernel
theorem dX11_seek_140 : decode cX11_seek 140 = .ok (.iload_n 3, 1) := by decide +kernel
theorem dX11_seek_141 : decode cX11_seek 141 = .ok (.ireturn, 1) := by decide +kernel
def fX11_seek_L85 : Nat → eg_H → Nat → Int32 → Int32 → Int32 → Int32 → Int32 → Int32 → Int32 → Option (Nat × Int32 × Int32 × Int32 × Int32 × Int32 × eg_H)
  | 0, _, _, _, _, _, _, _, _, _ => none
  | n + 1, h, l0, l1, l2, l3, l4, l5, l6, l7 =>
    if (5 : Int32) < l7 then
      (some (l0, l1, l2, l3, l4, l5, h))
    else
      if l4 ≤ l2 then
        (some (l0, l1, l2, l3, l4, l5, h))
      else
        (fX11_goodOf h l0 l6 l5 l7).bind fun ⟨v4, h3⟩ =>
        if v4 ≤ l2 then
          (fX11_seek_L85 n h3 l0 l1 l2 l3 l4 l5 l6 (l7 + (1 : Int32)))
        else
          (fX11_packed h3 l5 l7 v4).bind fun ⟨v8, h7⟩ =>
          fX11_seek_L85 n h7 l0 l1 v4 v8 l4 l5 l6 (l7 + (1 : Int32))
set_option maxRecDepth 20000 in
theorem fX11_seek_L85_ok {h0 : eg_H} {Z : eg_C → State → Prop} {N S : Nat} : ∀ (n : Nat) (h : eg_H) (l0 : Nat) (l1 : Int32) (l2 : Int32) (l3 : Int32) (l4 : Int32) (l5 : Int32) (l6 : Int32) (l7 : Int32) (eE : Nat × Int32 × Int32 × Int32 × Int32 × Int32 × eg_H), fX11_seek_L85 n h l0 l1 l2 l3 l4 l5 l6 l7 = some eE → (hk0 : ∀ (l0 : Nat) (l1 : Int32) (l2 : Int32) (l3 : Int32) (l4 : Int32) (l5 : Int32) (h : eg_H), eE = (l0, l1, l2, l3, l4, l5, h) → eg_AW (RX11, cX11_seek, 9, 4, none, "seek", (some .int)) Z N S h0 134 [(0, .ref l0), (1, .int l1), (2, .int l2), (3, .int l3), (4, .int l4), (5, .int l5)] [] h) → eg_AW (RX11, cX11_seek, 9, 4, none, "seek", (some .int)) Z N S h0 85 [(0, .ref l0), (1, .int l1), (2, .int l2), (3, .int l3), (4, .int l4), (5, .int l5), (6, .int l6), (7, .int l7)] [] h := by
  intro n
  induction n with
  | zero => intro h l0 l1 l2 l3 l4 l5 l6 l7 eE hF; exact absurd hF (by intro q; cases q)
  | succ n ih =>
    intro h l0 l1 l2 l3 l4 l5 l6 l7 eE hF hk0
    have hrec := fun (h' : eg_H) (l0 : Nat) (l1 : Int32) (l2 : Int32) (l3 : Int32) (l4 : Int32) (l5 : Int32) (l6 : Int32) (l7 : Int32) hq => ih h' l0 l1 l2 l3 l4 l5 l6 l7 eE hq hk0
    refine eg_iload (i := 7) 7 dX11_seek_85 rfl ?_
    refine eg_iconst (v := (5 : Int32)) dX11_seek_87 (by decide) ?_
    refine eg_ic_gt 134 dX11_seek_88 rfl (fun c1 => ?_) (fun c1 => ?_)
    · replace hF := eg_it c1 hF
      exact eg_sub [0, 1, 2, 3, 4, 5] [(0, .ref l0), (1, .int l1), (2, .int l2), (3, .int l3), (4, .int l4), (5, .int l5)] rfl (hk0 l0 l1 l2 l3 l4 l5 h (Option.some.inj hF).symm)
    · replace hF := eg_if c1 hF
      refine eg_iload_n (i := 2) 2 dX11_seek_91 rfl rfl ?_
      refine eg_iload (i := 4) 4 dX11_seek_92 rfl ?_
      refine eg_ic_ge 134 dX11_seek_94 rfl (fun c2 => ?_) (fun c2 => ?_)
      · replace hF := eg_it c2 hF
        exact eg_sub [0, 1, 2, 3, 4, 5] [(0, .ref l0), (1, .int l1), (2, .int l2), (3, .int l3), (4, .int l4), (5, .int l5)] rfl (hk0 l0 l1 l2 l3 l4 l5 h (Option.some.inj hF).symm)
      · replace hF := eg_if c2 hF
        refine eg_aload_n (i := 0) 0 dX11_seek_97 rfl rfl ?_
        refine eg_iload (i := 6) 6 dX11_seek_98 rfl ?_
        refine eg_iload (i := 5) 5 dX11_seek_100 rfl ?_
        refine eg_iload (i := 7) 7 dX11_seek_102 rfl ?_
        replace hF := eg_bind hF; obtain ⟨⟨v4, h3⟩, e5, hF⟩ := hF
        refine eg_callV (c := 11) (n := 3) [.int l6, .int l5, .int l7] dX11_seek_104 (mX11_goodOf e5) rfl (fX11_goodOf_O e5) (Nat.le_of_ble_eq_true rfl) rfl ew_871 ew_821 ew_822 ew_106 ew_823 hy_X11_goodOf rfl (Nat.le_of_ble_eq_true rfl) (Nat.le_of_ble_eq_true rfl) (Nat.le_of_ble_eq_true rfl) ?_
        refine eg_istore (i := 8) [(8, .int v4), (0, .ref l0), (1, .int l1), (2, .int l2), (3, .int l3), (4, .int l4), (5, .int l5), (6, .int l6), (7, .int l7)] dX11_seek_107 (Nat.le_of_ble_eq_true rfl) rfl ?_
        refine eg_iload (i := 8) 0 dX11_seek_109 rfl ?_
        refine eg_iload_n (i := 2) 3 dX11_seek_111 rfl rfl ?_
        refine eg_ic_le 128 dX11_seek_112 rfl (fun c6 => ?_) (fun c6 => ?_)
        · replace hF := eg_it c6 hF
          refine eg_iinc (i := 7) (v := (l7 + (1 : Int32))) 8 [(7, .int (l7 + (1 : Int32))), (8, .int v4), (0, .ref l0), (1, .int l1), (2, .int l2), (3, .int l3), (4, .int l4), (5, .int l5), (6, .int l6)] dX11_seek_128 rfl rfl (Nat.le_of_ble_eq_true rfl) rfl ?_
          refine eg_goto 85 dX11_seek_131 rfl ?_
          exact eg_sub [2, 3, 4, 5, 6, 7, 8, 0] [(0, .ref l0), (1, .int l1), (2, .int l2), (3, .int l3), (4, .int l4), (5, .int l5), (6, .int l6), (7, .int (l7 + (1 : Int32)))] rfl (hrec h3 l0 l1 l2 l3 l4 l5 l6 (l7 + (1 : Int32)) hF)
        · replace hF := eg_if c6 hF
          refine eg_iload (i := 8) 0 dX11_seek_115 rfl ?_
          refine eg_istore_n (i := 2) [(2, .int v4), (8, .int v4), (0, .ref l0), (1, .int l1), (3, .int l3), (4, .int l4), (5, .int l5), (6, .int l6), (7, .int l7)] dX11_seek_117 rfl (Nat.le_of_ble_eq_true rfl) rfl ?_
          refine eg_iload (i := 5) 6 dX11_seek_118 rfl ?_
          refine eg_iload (i := 7) 8 dX11_seek_120 rfl ?_
          refine eg_iload (i := 8) 1 dX11_seek_122 rfl ?_
          replace hF := eg_bind hF; obtain ⟨⟨v8, h7⟩, e9, hF⟩ := hF
          refine eg_callS (n := 3) [.int l5, .int l7, .int v4] dX11_seek_124 (mX11_packed e9) rfl ew_867 ew_868 ew_106 ew_869 hy_X11_packed.2 rfl (Nat.le_of_ble_eq_true rfl) (Nat.le_of_ble_eq_true rfl) (Nat.le_of_ble_eq_true rfl) ?_
          refine eg_istore_n (i := 3) [(3, .int v8), (2, .int v4), (8, .int v4), (0, .ref l0), (1, .int l1), (4, .int l4), (5, .int l5), (6, .int l6), (7, .int l7)] dX11_seek_127 rfl (Nat.le_of_ble_eq_true rfl) rfl ?_
          refine eg_iinc (i := 7) (v := (l7 + (1 : Int32))) 8 [(7, .int (l7 + (1 : Int32))), (3, .int v8), (2, .int v4), (8, .int v4), (0, .ref l0), (1, .int l1), (4, .int l4), (5, .int l5), (6, .int l6)] dX11_seek_128 rfl rfl (Nat.le_of_ble_eq_true rfl) rfl ?_
          refine eg_goto 85 dX11_seek_131 rfl ?_
          exact eg_sub [4, 5, 2, 1, 6, 7, 8, 0] [(0, .ref l0), (1, .int l1), (2, .int v4), (3, .int v8), (4, .int l4), (5, .int l5), (6, .int l6), (7, .int (l7 + (1 : Int32)))] rfl (hrec h7 l0 l1 v4 v8 l4 l5 l6 (l7 + (1 : Int32)) hF)
def fX11_seek_L45 : Nat → eg_H → Nat → Int32 → Int32 → Int32 → Int32 → Int32 → Option (Int32 × eg_H)
  | 0, _, _, _, _, _, _, _ => none
  | n + 1, h, l0, l1, l2, l3, l4, l5 =>
    (eg_gI h 11 4 l0).bind fun v1 =>
    if v1 < l5 then
      (some (l3, h))
    else
      if l4 ≤ l2 then
        (some (l3, h))
      else
        (fX11_wholes h l0 l1 l5).bind fun ⟨v6, h5⟩ =>
        (fJ6_bitCount_0f7a4 h5 v6).bind fun ⟨v9, h8⟩ =>
        if l2 < v9 then
          ((fX11_seek_L85 eg_F h8 l0 l1 l2 l3 l4 l5 v6 (-5 : Int32)).bind fun e =>
          match e with
          | (p14, v15, v16, v17, v18, v19, h20) =>
            fX11_seek_L45 n h20 p14 v15 v16 v17 v18 (v19 + (1 : Int32)))
        else
          fX11_seek_L45 n h8 l0 l1 l2 l3 l4 (l5 + (1 : Int32))
set_option maxRecDepth 20000 in
theorem fX11_seek_L45_ok {h0 : eg_H} {Z : eg_C → State → Prop} {N S : Nat} : ∀ (n : Nat) (h : eg_H) (l0 : Nat) (l1 : Int32) (l2 : Int32) (l3 : Int32) (l4 : Int32) (l5 : Int32) (eE : Int32 × eg_H), fX11_seek_L45 n h l0 l1 l2 l3 l4 l5 = some eE → (hk0 : ∀ (l3 : Int32) (h : eg_H), eE = (l3, h) → eg_AW (RX11, cX11_seek, 9, 4, none, "seek", (some .int)) Z N S h0 140 [(3, .int l3)] [] h) → eg_AW (RX11, cX11_seek, 9, 4, none, "seek", (some .int)) Z N S h0 45 [(0, .ref l0), (1, .int l1), (2, .int l2), (3, .int l3), (4, .int l4), (5, .int l5)] [] h := by
  intro n
  induction n with
  | zero => intro h l0 l1 l2 l3 l4 l5 eE hF; exact absurd hF (by intro q; cases q)
  | succ n ih =>
    intro h l0 l1 l2 l3 l4 l5 eE hF hk0
    have hrec := fun (h' : eg_H) (l0 : Nat) (l1 : Int32) (l2 : Int32) (l3 : Int32) (l4 : Int32) (l5 : Int32) hq => ih h' l0 l1 l2 l3 l4 l5 eE hq hk0
    refine eg_iload (i := 5) 5 dX11_seek_45 rfl ?_
    refine eg_aload_n (i := 0) 0 dX11_seek_47 rfl rfl ?_
    replace hF := eg_bind hF; obtain ⟨v1, e2, hF⟩ := hF
    refine eg_getI dX11_seek_48 e2 (Nat.le_of_ble_eq_true rfl) (Nat.le_of_ble_eq_true rfl) rfl ew_241 ?_
    refine eg_ic_gt 140 dX11_seek_51 rfl (fun c3 => ?_) (fun c3 => ?_)
    · replace hF := eg_it c3 hF
      exact eg_sub [3] [(3, .int l3)] rfl (hk0 l3 h (Option.some.inj hF).symm)
    · replace hF := eg_if c3 hF
      refine eg_iload_n (i := 2) 2 dX11_seek_54 rfl rfl ?_
      refine eg_iload (i := 4) 4 dX11_seek_55 rfl ?_
      refine eg_ic_ge 140 dX11_seek_57 rfl (fun c4 => ?_) (fun c4 => ?_)
      · replace hF := eg_it c4 hF
        exact eg_sub [3] [(3, .int l3)] rfl (hk0 l3 h (Option.some.inj hF).symm)
      · replace hF := eg_if c4 hF
        refine eg_aload_n (i := 0) 0 dX11_seek_60 rfl rfl ?_
        refine eg_iload_n (i := 1) 1 dX11_seek_61 rfl rfl ?_
        refine eg_iload (i := 5) 5 dX11_seek_62 rfl ?_
        replace hF := eg_bind hF; obtain ⟨⟨v6, h5⟩, e7, hF⟩ := hF
        refine eg_callV (c := 11) (n := 2) [.int l1, .int l5] dX11_seek_64 (mX11_wholes e7) rfl (fX11_wholes_O e7) (Nat.le_of_ble_eq_true rfl) rfl ew_870 ew_816 ew_817 ew_106 ew_818 hy_X11_wholes rfl (Nat.le_of_ble_eq_true rfl) (Nat.le_of_ble_eq_true rfl) (Nat.le_of_ble_eq_true rfl) ?_
        refine eg_istore (i := 6) [(6, .int v6), (0, .ref l0), (1, .int l1), (2, .int l2), (3, .int l3), (4, .int l4), (5, .int l5)] dX11_seek_67 (Nat.le_of_ble_eq_true rfl) rfl ?_
        refine eg_iload (i := 6) 0 dX11_seek_69 rfl ?_
        replace hF := eg_bind hF; obtain ⟨⟨v9, h8⟩, e10, hF⟩ := hF
        refine eg_callS (n := 1) [.int v6] dX11_seek_71 (mJ6_bitCount_0f7a4 e10) rfl ew_824 ew_825 ew_124 ew_826 hy_J6_bitCount_0f7a4.2 rfl (Nat.le_of_ble_eq_true rfl) (Nat.le_of_ble_eq_true rfl) (Nat.le_of_ble_eq_true rfl) ?_
        refine eg_iload_n (i := 2) 3 dX11_seek_74 rfl rfl ?_
        refine eg_ic_gt 81 dX11_seek_75 rfl (fun c11 => ?_) (fun c11 => ?_)
        · replace hF := eg_it c11 hF
          refine eg_bipush (v := (-5 : Int32)) dX11_seek_81 (by decide) ?_
          refine eg_istore (i := 7) [(7, .int (-5 : Int32)), (6, .int v6), (0, .ref l0), (1, .int l1), (2, .int l2), (3, .int l3), (4, .int l4), (5, .int l5)] dX11_seek_83 (Nat.le_of_ble_eq_true rfl) rfl ?_
          replace hF := eg_bind hF; obtain ⟨x13, e12, hF⟩ := hF
          refine eg_sub [2, 3, 4, 5, 6, 7, 1, 0] [(0, .ref l0), (1, .int l1), (2, .int l2), (3, .int l3), (4, .int l4), (5, .int l5), (6, .int v6), (7, .int (-5 : Int32))] rfl (fX11_seek_L85_ok eg_F h8 l0 l1 l2 l3 l4 l5 v6 (-5 : Int32) x13 e12 ?_)
          · intro p14 v15 v16 v17 v18 v19 h20 e21
            subst e21
            refine eg_iinc (i := 5) (v := (v19 + (1 : Int32))) 5 [(5, .int (v19 + (1 : Int32))), (0, .ref p14), (1, .int v15), (2, .int v16), (3, .int v17), (4, .int v18)] dX11_seek_134 rfl rfl (Nat.le_of_ble_eq_true rfl) rfl ?_
            refine eg_goto 45 dX11_seek_137 rfl ?_
            exact eg_sub [1, 2, 3, 4, 5, 0] [(0, .ref p14), (1, .int v15), (2, .int v16), (3, .int v17), (4, .int v18), (5, .int (v19 + (1 : Int32)))] rfl (hrec h20 p14 v15 v16 v17 v18 (v19 + (1 : Int32)) hF)
        · replace hF := eg_if c11 hF
          refine eg_goto 134 dX11_seek_78 rfl ?_
          refine eg_iinc (i := 5) (v := (l5 + (1 : Int32))) 6 [(5, .int (l5 + (1 : Int32))), (6, .int v6), (0, .ref l0), (1, .int l1), (2, .int l2), (3, .int l3), (4, .int l4)] dX11_seek_134 rfl rfl (Nat.le_of_ble_eq_true rfl) rfl ?_
          refine eg_goto 45 dX11_seek_137 rfl ?_
          exact eg_sub [2, 3, 4, 5, 6, 0] [(0, .ref l0), (1, .int l1), (2, .int l2), (3, .int l3), (4, .int l4), (5, .int (l5 + (1 : Int32)))] rfl (hrec h8 l0 l1 l2 l3 l4 (l5 + (1 : Int32)) hF)
def fX11_seek_j40 (h : eg_H) (l0 : Nat) (l1 : Int32) (l2 : Int32) (l3 : Int32) (s0 : Int32) : Option (Int32 × eg_H) :=
  (fX11_seek_L45 eg_F h l0 l1 l2 l3 s0 (0 : Int32)).bind fun e =>
  match e with
  | (v3, h4) =>
    some (v3, h4)
set_option maxRecDepth 20000 in
theorem fX11_seek_j40_ok {h0 : eg_H} (h : eg_H) (l0 : Nat) (l1 : Int32) (l2 : Int32) (l3 : Int32) (s0 : Int32) {rE : Int32} {hE : eg_H} (hF : fX11_seek_j40 h l0 l1 l2 l3 s0 = some (rE, hE)) : eg_AW (RX11, cX11_seek, 9, 4, none, "seek", (some .int)) (eg_Zm (some (.int rE)) hE h0) (eg_nc hE) (eg_ns hE) h0 40 [(0, .ref l0), (1, .int l1), (2, .int l2), (3, .int l3)] [.int s0] h := by
  refine eg_istore (i := 4) [(4, .int s0), (0, .ref l0), (1, .int l1), (2, .int l2), (3, .int l3)] dX11_seek_40 (Nat.le_of_ble_eq_true rfl) rfl ?_
  refine eg_iconst (v := (0 : Int32)) dX11_seek_42 (by decide) ?_
  refine eg_istore (i := 5) [(5, .int (0 : Int32)), (4, .int s0), (0, .ref l0), (1, .int l1), (2, .int l2), (3, .int l3)] dX11_seek_43 (Nat.le_of_ble_eq_true rfl) rfl ?_
  replace hF := eg_bind hF; obtain ⟨x2, e1, hF⟩ := hF
  refine eg_sub [2, 3, 4, 5, 1, 0] [(0, .ref l0), (1, .int l1), (2, .int l2), (3, .int l3), (4, .int s0), (5, .int (0 : Int32))] rfl (fX11_seek_L45_ok eg_F h l0 l1 l2 l3 s0 (0 : Int32) x2 e1 ?_)
  · intro v3 h4 e5
    subst e5
    refine eg_iload_n (i := 3) 0 dX11_seek_140 rfl rfl ?_
    exact eg_iretE dX11_seek_141 hF
def fX11_seek (h : eg_H) (l0 : Nat) (l1 : Int32) : Option (Int32 × eg_H) :=
  if eg_isO h 11 l0 then (
    (fX11_packed h (0 : Int32) (-5 : Int32) (0 : Int32)).bind fun ⟨v2, h1⟩ =>
    (eg_gI h1 11 3 l0).bind fun v4 =>
    (eg_gI h1 11 6 l0).bind fun v6 =>
    if v6 ≤ v4 then
      ((eg_gI h1 11 6 l0).bind fun v9 =>
      fX11_seek_j40 h1 l0 l1 (0 : Int32) v2 (((2 : Int32) * v9) + (1 : Int32)))
    else
      (eg_gI h1 11 3 l0).bind fun v11 =>
      fX11_seek_j40 h1 l0 l1 (0 : Int32) v2 (((2 : Int32) * v11) + (1 : Int32))) else none
theorem fX11_seek_O {h : eg_H} {l0 : Nat} {l1 : Int32} {rE : Int32} {hE : eg_H} (hF : fX11_seek h l0 l1 = some (rE, hE)) : eg_isO h 11 l0 := (eg_ifn hF).1
set_option maxRecDepth 20000 in
theorem mX11_seek {h : eg_H} {l0 : Nat} {l1 : Int32} {rE : Int32} {hE : eg_H} (hF : fX11_seek h l0 l1 = some (rE, hE)) : eg_Met yX11_seek cX11_seek 9 (some .int) 4 [.ref l0, .int l1] h (some (.int rE)) hE := by
  refine eg_enter rfl (Nat.le_of_ble_eq_true rfl) ?_
  show eg_AW (RX11, cX11_seek, 9, 4, none, "seek", (some .int)) (eg_Zm (some (.int rE)) hE h) (eg_nc hE) (eg_ns hE) h 0 [(0, .ref l0), (1, .int l1)] [] h
  replace hF := (eg_ifn hF).2
  refine eg_iconst (v := (0 : Int32)) dX11_seek_0 (by decide) ?_
  refine eg_istore_n (i := 2) [(2, .int (0 : Int32)), (0, .ref l0), (1, .int l1)] dX11_seek_1 rfl (Nat.le_of_ble_eq_true rfl) rfl ?_
  refine eg_iconst (v := (0 : Int32)) dX11_seek_2 (by decide) ?_
  refine eg_bipush (v := (-5 : Int32)) dX11_seek_3 (by decide) ?_
  refine eg_iconst (v := (0 : Int32)) dX11_seek_5 (by decide) ?_
  replace hF := eg_bind hF; obtain ⟨⟨v2, h1⟩, e3, hF⟩ := hF
  refine eg_callS (n := 3) [.int (0 : Int32), .int (-5 : Int32), .int (0 : Int32)] dX11_seek_6 (mX11_packed e3) rfl ew_867 ew_868 ew_106 ew_869 hy_X11_packed.2 rfl (Nat.le_of_ble_eq_true rfl) (Nat.le_of_ble_eq_true rfl) (Nat.le_of_ble_eq_true rfl) ?_
  refine eg_istore_n (i := 3) [(3, .int v2), (2, .int (0 : Int32)), (0, .ref l0), (1, .int l1)] dX11_seek_9 rfl (Nat.le_of_ble_eq_true rfl) rfl ?_
  refine eg_aload_n (i := 0) 2 dX11_seek_10 rfl rfl ?_
  replace hF := eg_bind hF; obtain ⟨v4, e5, hF⟩ := hF
  refine eg_getI dX11_seek_11 e5 (Nat.le_of_ble_eq_true rfl) (Nat.le_of_ble_eq_true rfl) rfl ew_240 ?_
  refine eg_aload_n (i := 0) 2 dX11_seek_14 rfl rfl ?_
  replace hF := eg_bind hF; obtain ⟨v6, e7, hF⟩ := hF
  refine eg_getI dX11_seek_15 e7 (Nat.le_of_ble_eq_true rfl) (Nat.le_of_ble_eq_true rfl) rfl ew_243 ?_
  refine eg_ic_ge 32 dX11_seek_18 rfl (fun c8 => ?_) (fun c8 => ?_)
  · replace hF := eg_it c8 hF
    refine eg_iconst (v := (2 : Int32)) dX11_seek_32 (by decide) ?_
    refine eg_aload_n (i := 0) 2 dX11_seek_33 rfl rfl ?_
    replace hF := eg_bind hF; obtain ⟨v9, e10, hF⟩ := hF
    refine eg_getI dX11_seek_34 e10 (Nat.le_of_ble_eq_true rfl) (Nat.le_of_ble_eq_true rfl) rfl ew_243 ?_
    refine eg_imul dX11_seek_37 ?_
    refine eg_iconst (v := (1 : Int32)) dX11_seek_38 (by decide) ?_
    refine eg_iadd dX11_seek_39 ?_
    exact eg_sub [2, 3, 1, 0] [(0, .ref l0), (1, .int l1), (2, .int (0 : Int32)), (3, .int v2)] rfl (fX11_seek_j40_ok h1 l0 l1 (0 : Int32) v2 (((2 : Int32) * v9) + (1 : Int32)) hF)
  · replace hF := eg_if c8 hF
    refine eg_iconst (v := (2 : Int32)) dX11_seek_21 (by decide) ?_
    refine eg_aload_n (i := 0) 2 dX11_seek_22 rfl rfl ?_
    replace hF := eg_bind hF; obtain ⟨v11, e12, hF⟩ := hF
    refine eg_getI dX11_seek_23 e12 (Nat.le_of_ble_eq_true rfl) (Nat.le_of_ble_eq_true rfl) rfl ew_240 ?_
    refine eg_imul dX11_seek_26 ?_
    refine eg_iconst (v := (1 : Int32)) dX11_seek_27 (by decide) ?_
    refine eg_iadd dX11_seek_28 ?_
    refine eg_goto 40 dX11_seek_29 rfl ?_
    exact eg_sub [2, 3, 1, 0] [(0, .ref l0), (1, .int l1), (2, .int (0 : Int32)), (3, .int v2)] rfl (fX11_seek_j40_ok h1 l0 l1 (0 : Int32) v2 (((2 : Int32) * v11) + (1 : Int32)) hF)
theorem dX0_of_0 : decode cX0_of 0 = .ok (.iload 4, 2) := by decide +kernel
theorem dX0_of_2 : decode cX0_of 2 = .ok (.aload_n 0, 1) := by decide +kernel
theorem dX0_of_3 : decode cX0_of 3 = .ok (.getfield 21, 3) := by decide +kernel
theorem dX0_of_6 : decode cX0_of 6 = .ok (.iconst 0, 1) := by decide +kernel
theorem dX0_of_7 : decode cX0_of 7 = .ok (.invokevirtual 29, 3) := by decide +kernel
theorem dX0_of_10 : decode cX0_of 10 = .ok (.if_icmp .ne 12, 3) := by decide +kernel
theorem dX0_of_13 : decode cX0_of 13 = .ok (.aload_n 0, 1) := by decide +kernel
theorem dX0_of_14 : decode cX0_of 14 = .ok (.iload_n 1, 1) := by decide +kernel
theorem dX0_of_15 : decode cX0_of 15 = .ok (.iload_n 2, 1) := by decide +kernel
theorem dX0_of_16 : decode cX0_of 16 = .ok (.invokevirtual 35, 3) := by decide +kernel
theorem dX0_of_19 : decode cX0_of 19 = .ok (.goto 4, 3) := by decide +kernel
theorem dX0_of_22 : decode cX0_of 22 = .ok (.aconst_null, 1) := by decide +kernel
theorem dX0_of_23 : decode cX0_of 23 = .ok (.astore 5, 2) := by decide +kernel
theorem dX0_of_25 : decode cX0_of 25 = .ok (.aload 5, 2) := by decide +kernel
theorem dX0_of_27 : decode cX0_of 27 = .ok (.ifnull 14, 3) := by decide +kernel
theorem dX0_of_30 : decode cX0_of 30 = .ok (.iload_n 3, 1) := by decide +kernel
theorem dX0_of_31 : decode cX0_of 31 = .ok (.ifCond .lt 10, 3) := by decide +kernel
theorem dX0_of_34 : decode cX0_of 34 = .ok (.iload_n 3, 1) := by decide +kernel
theorem dX0_of_35 : decode cX0_of 35 = .ok (.aload 5, 2) := by decide +kernel
theorem dX0_of_37 : decode cX0_of 37 = .ok (.arraylength, 1) := by decide +kernel
theorem dX0_of_38 : decode cX0_of 38 = .ok (.if_icmp .lt 23, 3) := by decide +kernel
theorem dX0_of_41 : decode cX0_of 41 = .ok (.aload_n 0, 1) := by decide +kernel
theorem dX0_of_42 : decode cX0_of 42 = .ok (.getfield 25, 3) := by decide +kernel
theorem dX0_of_45 : decode cX0_of 45 = .ok (.iload_n 1, 1) := by decide +kernel
theorem dX0_of_46 : decode cX0_of 46 = .ok (.iload_n 2, 1) := by decide +kernel
theorem dX0_of_47 : decode cX0_of 47 = .ok (.iload 4, 2) := by decide +kernel
theorem dX0_of_49 : decode cX0_of 49 = .ok (.invokevirtual 39, 3) := by decide +kernel
theorem dX0_of_52 : decode cX0_of 52 = .ok (.aload_n 0, 1) := by decide +kernel
theorem dX0_of_53 : decode cX0_of 53 = .ok (.getfield 25, 3) := by decide +kernel
theorem dX0_of_56 : decode cX0_of 56 = .ok (.iload_n 3, 1) := by decide +kernel
theorem dX0_of_57 : decode cX0_of 57 = .ok (.invokevirtual 45, 3) := by decide +kernel
theorem dX0_of_60 : decode cX0_of 60 = .ok (.ireturn, 1) := by decide +kernel
theorem dX0_of_61 : decode cX0_of 61 = .ok (.aload 5, 2) := by decide +kernel
theorem dX0_of_63 : decode cX0_of 63 = .ok (.iload_n 3, 1) := by decide +kernel
theorem dX0_of_64 : decode cX0_of 64 = .ok (.iaload, 1) := by decide +kernel
theorem dX0_of_65 : decode cX0_of 65 = .ok (.ifCond .ne 26, 3) := by decide +kernel
theorem dX0_of_68 : decode cX0_of 68 = .ok (.aload_n 0, 1) := by decide +kernel
theorem dX0_of_69 : decode cX0_of 69 = .ok (.getfield 25, 3) := by decide +kernel
theorem dX0_of_72 : decode cX0_of 72 = .ok (.iload_n 1, 1) := by decide +kernel
theorem dX0_of_73 : decode cX0_of 73 = .ok (.iload_n 2, 1) := by decide +kernel
theorem dX0_of_74 : decode cX0_of 74 = .ok (.iload 4, 2) := by decide +kernel
theorem dX0_of_76 : decode cX0_of 76 = .ok (.invokevirtual 39, 3) := by decide +kernel
theorem dX0_of_79 : decode cX0_of 79 = .ok (.aload 5, 2) := by decide +kernel
theorem dX0_of_81 : decode cX0_of 81 = .ok (.iload_n 3, 1) := by decide +kernel
theorem dX0_of_82 : decode cX0_of 82 = .ok (.aload_n 0, 1) := by decide +kernel
theorem dX0_of_83 : decode cX0_of 83 = .ok (.getfield 25, 3) := by decide +kernel
theorem dX0_of_86 : decode cX0_of 86 = .ok (.iload_n 3, 1) := by decide +kernel
theorem dX0_of_87 : decode cX0_of 87 = .ok (.invokevirtual 45, 3) := by decide +kernel
theorem dX0_of_90 : decode cX0_of 90 = .ok (.iastore, 1) := by decide +kernel
theorem dX0_of_91 : decode cX0_of 91 = .ok (.aload 5, 2) := by decide +kernel
theorem dX0_of_93 : decode cX0_of 93 = .ok (.iload_n 3, 1) := by decide +kernel
theorem dX0_of_94 : decode cX0_of 94 = .ok (.iaload, 1) := by decide +kernel
theorem dX0_of_95 : decode cX0_of 95 = .ok (.ireturn, 1) := by decide +kernel
def fX0_of_j41 (h : eg_H) (l0 : Nat) (l1 : Int32) (l2 : Int32) (l3 : Int32) (l4 : Int32) : Option (Int32 × eg_H) :=
  (eg_gR h 0 1 l0).bind fun p1 =>
  (fX11_take h p1 l1 l2 l4).bind fun h3 =>
  (eg_gR h3 0 1 l0).bind fun p5 =>
  (fX11_seek h3 p5 l3).bind fun ⟨v8, h7⟩ =>
  some (v8, h7)
set_option maxRecDepth 20000 in
theorem fX0_of_j41_ok {h0 : eg_H} (h : eg_H) (l0 : Nat) (l1 : Int32) (l2 : Int32) (l3 : Int32) (l4 : Int32) {rE : Int32} {hE : eg_H} (hF : fX0_of_j41 h l0 l1 l2 l3 l4 = some (rE, hE)) : eg_AW (RX0, cX0_of, 6, 5, none, "of", (some .int)) (eg_Zm (some (.int rE)) hE h0) (eg_nc hE) (eg_ns hE) h0 41 [(0, .ref l0), (1, .int l1), (2, .int l2), (3, .int l3), (4, .int l4)] [] h := by
  refine eg_aload_n (i := 0) 0 dX0_of_41 rfl rfl ?_
  replace hF := eg_bind hF; obtain ⟨p1, e2, hF⟩ := hF
  refine eg_getR dX0_of_42 e2 (Nat.le_of_ble_eq_true rfl) (Nat.le_of_ble_eq_true rfl) rfl ew_277 ?_
  refine eg_iload_n (i := 1) 1 dX0_of_45 rfl rfl ?_
  refine eg_iload_n (i := 2) 2 dX0_of_46 rfl rfl ?_
  refine eg_iload (i := 4) 4 dX0_of_47 rfl ?_
  replace hF := eg_bind hF; obtain ⟨h3, e4, hF⟩ := hF
  refine eg_callV (c := 11) (n := 3) [.int l1, .int l2, .int l4] dX0_of_49 (mX11_take e4) rfl (fX11_take_O e4) (Nat.le_of_ble_eq_true rfl) rfl ew_862 ew_803 ew_804 ew_106 ew_805 hy_X11_take rfl (Nat.le_of_ble_eq_true rfl) (Nat.le_of_ble_eq_true rfl) (Nat.le_of_ble_eq_true rfl) ?_
  refine eg_aload_n (i := 0) 0 dX0_of_52 rfl rfl ?_
  replace hF := eg_bind hF; obtain ⟨p5, e6, hF⟩ := hF
  refine eg_getR dX0_of_53 e6 (Nat.le_of_ble_eq_true rfl) (Nat.le_of_ble_eq_true rfl) rfl ew_277 ?_
  refine eg_iload_n (i := 3) 3 dX0_of_56 rfl rfl ?_
  replace hF := eg_bind hF; obtain ⟨⟨v8, h7⟩, e9, hF⟩ := hF
  refine eg_callV (c := 11) (n := 1) [.int l3] dX0_of_57 (mX11_seek e9) rfl (fX11_seek_O e9) (Nat.le_of_ble_eq_true rfl) rfl ew_863 ew_864 ew_865 ew_106 ew_866 hy_X11_seek rfl (Nat.le_of_ble_eq_true rfl) (Nat.le_of_ble_eq_true rfl) (Nat.le_of_ble_eq_true rfl) ?_
  exact eg_iretE dX0_of_60 hF
def fX0_of_j23 (h : eg_H) (l0 : Nat) (l1 : Int32) (l2 : Int32) (l3 : Int32) (l4 : Int32) (s0 : Option Nat) : Option (Int32 × eg_H) :=
  if s0 = none then
    (fX0_of_j41 h l0 l1 l2 l3 l4)
  else
    if l3 < 0 then
      (fX0_of_j41 h l0 l1 l2 l3 l4)
    else
      s0.bind fun p3 =>
      (eg_al h p3).bind fun v5 =>
      if l3 < v5 then
        ((eg_aI h 100 p3 l3).bind fun v8 =>
        if v8 = 0 then
          ((eg_gR h 0 1 l0).bind fun p13 =>
          (fX11_take h p13 l1 l2 l4).bind fun h15 =>
          (eg_gR h15 0 1 l0).bind fun p17 =>
          (fX11_seek h15 p17 l3).bind fun ⟨v20, h19⟩ =>
          (eg_wI h19 100 p3 l3 v20).bind fun h22 =>
          (eg_aI h22 100 p3 l3).bind fun v26 =>
          some (v26, h22))
        else
          (eg_aI h 100 p3 l3).bind fun v30 =>
          some (v30, h))
      else
        fX0_of_j41 h l0 l1 l2 l3 l4
set_option maxRecDepth 20000 in
theorem fX0_of_j23_ok {h0 : eg_H} (h : eg_H) (l0 : Nat) (l1 : Int32) (l2 : Int32) (l3 : Int32) (l4 : Int32) (s0 : Option Nat) {rE : Int32} {hE : eg_H} (hF : fX0_of_j23 h l0 l1 l2 l3 l4 s0 = some (rE, hE)) : eg_AW (RX0, cX0_of, 6, 5, none, "of", (some .int)) (eg_Zm (some (.int rE)) hE h0) (eg_nc hE) (eg_ns hE) h0 23 [(0, .ref l0), (1, .int l1), (2, .int l2), (3, .int l3), (4, .int l4)] [va_rf s0] h := by
  refine eg_astoreq (i := 5) [(5, va_rf s0), (0, .ref l0), (1, .int l1), (2, .int l2), (3, .int l3), (4, .int l4)] dX0_of_23 (Nat.le_of_ble_eq_true rfl) rfl ?_
  refine eg_aloadq (i := 5) 0 dX0_of_25 rfl ?_
  refine eg_ifnull (r := s0) 41 dX0_of_27 rfl (fun c1 => ?_) (fun c1 => ?_)
  · replace hF := eg_it c1 hF
    exact eg_sub [1, 2, 3, 4, 5] [(0, .ref l0), (1, .int l1), (2, .int l2), (3, .int l3), (4, .int l4)] rfl (fX0_of_j41_ok h l0 l1 l2 l3 l4 hF)
  · replace hF := eg_if c1 hF
    refine eg_iload_n (i := 3) 4 dX0_of_30 rfl rfl ?_
    refine eg_if_lt 41 dX0_of_31 rfl (fun c2 => ?_) (fun c2 => ?_)
    · replace hF := eg_it c2 hF
      exact eg_sub [1, 2, 3, 4, 5] [(0, .ref l0), (1, .int l1), (2, .int l2), (3, .int l3), (4, .int l4)] rfl (fX0_of_j41_ok h l0 l1 l2 l3 l4 hF)
    · replace hF := eg_if c2 hF
      refine eg_iload_n (i := 3) 4 dX0_of_34 rfl rfl ?_
      refine eg_aloadq (i := 5) 0 dX0_of_35 rfl ?_
      replace hF := eg_bind hF; obtain ⟨p3, e4, hF⟩ := hF
      subst e4
      replace hF := eg_bind hF; obtain ⟨v5, e6, hF⟩ := hF
      refine eg_alen dX0_of_37 e6 ?_
      refine eg_ic_lt 61 dX0_of_38 rfl (fun c7 => ?_) (fun c7 => ?_)
      · replace hF := eg_it c7 hF
        refine eg_aloadq (i := 5) 0 dX0_of_61 rfl ?_
        refine eg_iload_n (i := 3) 4 dX0_of_63 rfl rfl ?_
        replace hF := eg_bind hF; obtain ⟨v8, e11, hF⟩ := hF
        refine eg_iald dX0_of_64 e11 ?_
        refine eg_if_ne 91 dX0_of_65 rfl (fun c12 => ?_) (fun c12 => ?_)
        · replace hF := eg_it c12 hF
          refine eg_aload_n (i := 0) 1 dX0_of_68 rfl rfl ?_
          replace hF := eg_bind hF; obtain ⟨p13, e14, hF⟩ := hF
          refine eg_getR dX0_of_69 e14 (Nat.le_of_ble_eq_true rfl) (Nat.le_of_ble_eq_true rfl) rfl ew_277 ?_
          refine eg_iload_n (i := 1) 2 dX0_of_72 rfl rfl ?_
          refine eg_iload_n (i := 2) 3 dX0_of_73 rfl rfl ?_
          refine eg_iload (i := 4) 5 dX0_of_74 rfl ?_
          replace hF := eg_bind hF; obtain ⟨h15, e16, hF⟩ := hF
          refine eg_callV (c := 11) (n := 3) [.int l1, .int l2, .int l4] dX0_of_76 (mX11_take e16) rfl (fX11_take_O e16) (Nat.le_of_ble_eq_true rfl) rfl ew_862 ew_803 ew_804 ew_106 ew_805 hy_X11_take rfl (Nat.le_of_ble_eq_true rfl) (Nat.le_of_ble_eq_true rfl) (Nat.le_of_ble_eq_true rfl) ?_
          refine eg_aloadq (i := 5) 0 dX0_of_79 rfl ?_
          refine eg_iload_n (i := 3) 4 dX0_of_81 rfl rfl ?_
          refine eg_aload_n (i := 0) 1 dX0_of_82 rfl rfl ?_
          replace hF := eg_bind hF; obtain ⟨p17, e18, hF⟩ := hF
          refine eg_getR dX0_of_83 e18 (Nat.le_of_ble_eq_true rfl) (Nat.le_of_ble_eq_true rfl) rfl ew_277 ?_
          refine eg_iload_n (i := 3) 4 dX0_of_86 rfl rfl ?_
          replace hF := eg_bind hF; obtain ⟨⟨v20, h19⟩, e21, hF⟩ := hF
          refine eg_callV (c := 11) (n := 1) [.int l3] dX0_of_87 (mX11_seek e21) rfl (fX11_seek_O e21) (Nat.le_of_ble_eq_true rfl) rfl ew_863 ew_864 ew_865 ew_106 ew_866 hy_X11_seek rfl (Nat.le_of_ble_eq_true rfl) (Nat.le_of_ble_eq_true rfl) (by simp only [List.map_cons, List.map_nil, eg_catq]; exact Nat.le_of_ble_eq_true rfl) ?_
          replace hF := eg_bind hF; obtain ⟨h22, e25, hF⟩ := hF
          refine eg_iast dX0_of_90 e25 ?_
          refine eg_aloadq (i := 5) 0 dX0_of_91 rfl ?_
          refine eg_iload_n (i := 3) 4 dX0_of_93 rfl rfl ?_
          replace hF := eg_bind hF; obtain ⟨v26, e29, hF⟩ := hF
          refine eg_iald dX0_of_94 e29 ?_
          exact eg_iretE dX0_of_95 hF
        · replace hF := eg_if c12 hF
          refine eg_aloadq (i := 5) 0 dX0_of_91 rfl ?_
          refine eg_iload_n (i := 3) 4 dX0_of_93 rfl rfl ?_
          replace hF := eg_bind hF; obtain ⟨v30, e33, hF⟩ := hF
          refine eg_iald dX0_of_94 e33 ?_
          exact eg_iretE dX0_of_95 hF
      · replace hF := eg_if c7 hF
        exact eg_sub [1, 2, 3, 4, 5] [(0, .ref l0), (1, .int l1), (2, .int l2), (3, .int l3), (4, .int l4)] rfl (fX0_of_j41_ok h l0 l1 l2 l3 l4 hF)
def fX0_of (h : eg_H) (l0 : Nat) (l1 : Int32) (l2 : Int32) (l3 : Int32) (l4 : Int32) : Option (Int32 × eg_H) :=
  if eg_isO h 0 l0 then (
    (eg_gR h 0 0 l0).bind fun p1 =>
    (fX7_told h p1 (0 : Int32)).bind fun ⟨v4, h3⟩ =>
    if l4 = v4 then
      ((fX0_rowOf h3 l0 l1 l2).bind fun ⟨q8, h7⟩ =>
      fX0_of_j23 h7 l0 l1 l2 l3 l4 q8)
    else
      fX0_of_j23 h3 l0 l1 l2 l3 l4 none) else none
theorem fX0_of_O {h : eg_H} {l0 : Nat} {l1 : Int32} {l2 : Int32} {l3 : Int32} {l4 : Int32} {rE : Int32} {hE : eg_H} (hF : fX0_of h l0 l1 l2 l3 l4 = some (rE, hE)) : eg_isO h 0 l0 := (eg_ifn hF).1
set_option maxRecDepth 20000 in
theorem mX0_of {h : eg_H} {l0 : Nat} {l1 : Int32} {l2 : Int32} {l3 : Int32} {l4 : Int32} {rE : Int32} {hE : eg_H} (hF : fX0_of h l0 l1 l2 l3 l4 = some (rE, hE)) : eg_Met yX0_of cX0_of 6 (some .int) 5 [.ref l0, .int l1, .int l2, .int l3, .int l4] h (some (.int rE)) hE := by
  refine eg_enter rfl (Nat.le_of_ble_eq_true rfl) ?_
  show eg_AW (RX0, cX0_of, 6, 5, none, "of", (some .int)) (eg_Zm (some (.int rE)) hE h) (eg_nc hE) (eg_ns hE) h 0 [(0, .ref l0), (1, .int l1), (2, .int l2), (3, .int l3), (4, .int l4)] [] h
  replace hF := (eg_ifn hF).2
  refine eg_iload (i := 4) 4 dX0_of_0 rfl ?_
  refine eg_aload_n (i := 0) 0 dX0_of_2 rfl rfl ?_
  replace hF := eg_bind hF; obtain ⟨p1, e2, hF⟩ := hF
  refine eg_getR dX0_of_3 e2 (Nat.le_of_ble_eq_true rfl) (Nat.le_of_ble_eq_true rfl) rfl ew_276 ?_
  refine eg_iconst (v := (0 : Int32)) dX0_of_6 (by decide) ?_
  replace hF := eg_bind hF; obtain ⟨⟨v4, h3⟩, e5, hF⟩ := hF
  refine eg_callV (c := 7) (n := 1) [.int (0 : Int32)] dX0_of_7 (mX7_told e5) rfl (fX7_told_O e5) (Nat.le_of_ble_eq_true rfl) rfl ew_838 ew_718 ew_719 ew_104 ew_720 hy_X7_told rfl (Nat.le_of_ble_eq_true rfl) (Nat.le_of_ble_eq_true rfl) (Nat.le_of_ble_eq_true rfl) ?_
  refine eg_ic_ne 22 dX0_of_10 rfl (fun c6 => ?_) (fun c6 => ?_)
  · replace hF := eg_it c6 hF
    refine eg_aload_n (i := 0) 0 dX0_of_13 rfl rfl ?_
    refine eg_iload_n (i := 1) 1 dX0_of_14 rfl rfl ?_
    refine eg_iload_n (i := 2) 2 dX0_of_15 rfl rfl ?_
    replace hF := eg_bind hF; obtain ⟨⟨q8, h7⟩, e9, hF⟩ := hF
    refine eg_callV (c := 0) (n := 2) [.int l1, .int l2] dX0_of_16 (mX0_rowOf e9) rfl (fX0_rowOf_O e9) (Nat.le_of_ble_eq_true rfl) rfl ew_839 ew_841 ew_27 ew_107 ew_842 hy_X0_rowOf rfl (Nat.le_of_ble_eq_true rfl) (Nat.le_of_ble_eq_true rfl) (Nat.le_of_ble_eq_true rfl) ?_
    refine eg_goto 23 dX0_of_19 rfl ?_
    exact (fX0_of_j23_ok h7 l0 l1 l2 l3 l4 q8 hF)
  · replace hF := eg_if c6 hF
    refine eg_null dX0_of_22 ?_
    exact (fX0_of_j23_ok h3 l0 l1 l2 l3 l4 none hF)
theorem dX1_init_0 : decode cX1_init 0 = .ok (.aload_n 0, 1) := by decide +kernel
theorem dX1_init_1 : decode cX1_init 1 = .ok (.invokespecial 3, 3) := by decide +kernel
theorem dX1_init_4 : decode cX1_init 4 = .ok (.aload_n 0, 1) := by decide +kernel
theorem dX1_init_5 : decode cX1_init 5 = .ok (.iconst 0, 1) := by decide +kernel
theorem dX1_init_6 : decode cX1_init 6 = .ok (.putfield 9, 3) := by decide +kernel
theorem dX1_init_9 : decode cX1_init 9 = .ok (.aload_n 0, 1) := by decide +kernel
theorem dX1_init_10 : decode cX1_init 10 = .ok (.iload_n 1, 1) := by decide +kernel
theorem dX1_init_11 : decode cX1_init 11 = .ok (.ifCond .ge 7, 3) := by decide +kernel
theorem dX1_init_14 : decode cX1_init 14 = .ok (.iconst 0, 1) := by decide +kernel
theorem dX1_init_15 : decode cX1_init 15 = .ok (.goto 4, 3) := by decide +kernel
theorem dX1_init_18 : decode cX1_init 18 = .ok (.iload_n 1, 1) := by decide +kernel
theorem dX1_init_19 : decode cX1_init 19 = .ok (.putfield 15, 3) := by decide +kernel
theorem dX1_init_22 : decode cX1_init 22 = .ok (.aload_n 0, 1) := by decide +kernel
theorem dX1_init_23 : decode cX1_init 23 = .ok (.iconst 4, 1) := by decide +kernel
theorem dX1_init_24 : decode cX1_init 24 = .ok (.aload_n 0, 1) := by decide +kernel
theorem dX1_init_25 : decode cX1_init 25 = .ok (.getfield 15, 3) := by decide +kernel
theorem dX1_init_28 : decode cX1_init 28 = .ok (.imul, 1) := by decide +kernel
theorem dX1_init_29 : decode cX1_init 29 = .ok (.newarray .int, 2) := by decide +kernel
theorem dX1_init_31 : decode cX1_init 31 = .ok (.putfield 18, 3) := by decide +kernel
theorem dX1_init_34 : decode cX1_init 34 = .ok (.return_, 1) := by decide +kernel
def fX1_init (h : eg_H) (l0 : Nat) (l1 : Int32) : Option (eg_H) :=
  (eg_pI h 1 2 l0 (0 : Int32)).bind fun h1 =>
  if 0 ≤ l1 then
    ((eg_pI h1 1 1 l0 l1).bind fun h4 =>
    (eg_gI h4 1 1 l0).bind fun v6 =>
    (eg_na h4 100 ((4 : Int32) * v6)).bind fun h9 =>
    (some (eg_nc h4)).bind fun p8 =>
    (eg_pP h9 1 0 l0 (some p8)).bind fun h12 =>
    some h12)
  else
    (eg_pI h1 1 1 l0 (0 : Int32)).bind fun h14 =>
    (eg_gI h14 1 1 l0).bind fun v16 =>
    (eg_na h14 100 ((4 : Int32) * v16)).bind fun h19 =>
    (some (eg_nc h14)).bind fun p18 =>
    (eg_pP h19 1 0 l0 (some p18)).bind fun h22 =>
    some h22
set_option maxRecDepth 20000 in
theorem mX1_init {h : eg_H} {l0 : Nat} {l1 : Int32} {hE : eg_H} (hF : fX1_init h l0 l1 = some hE) : eg_Met yX1_init cX1_init 2 none 1 [.ref l0, .int l1] h none hE := by
  refine eg_enter rfl (Nat.le_of_ble_eq_true rfl) ?_
  show eg_AW (RX1, cX1_init, 2, 1, none, "<init>", none) (eg_Zm none hE h) (eg_nc hE) (eg_ns hE) h 0 [(0, .ref l0), (1, .int l1)] [] h
  refine eg_aload_n (i := 0) 0 dX1_init_0 rfl rfl ?_
  refine eg_objInit dX1_init_1 ew_220 (Nat.le_of_ble_eq_true rfl) (Nat.le_of_ble_eq_true rfl) ?_
  refine eg_aload_n (i := 0) 0 dX1_init_4 rfl rfl ?_
  refine eg_iconst (v := (0 : Int32)) dX1_init_5 (by decide) ?_
  replace hF := eg_bind hF; obtain ⟨h1, e2, hF⟩ := hF
  refine eg_putI dX1_init_6 e2 (Nat.le_of_ble_eq_true rfl) (Nat.le_of_ble_eq_true rfl) rfl ew_223 (Or.inl rfl) ?_
  refine eg_aload_n (i := 0) 0 dX1_init_9 rfl rfl ?_
  refine eg_iload_n (i := 1) 1 dX1_init_10 rfl rfl ?_
  refine eg_if_ge 18 dX1_init_11 rfl (fun c3 => ?_) (fun c3 => ?_)
  · replace hF := eg_it c3 hF
    refine eg_iload_n (i := 1) 1 dX1_init_18 rfl rfl ?_
    replace hF := eg_bind hF; obtain ⟨h4, e5, hF⟩ := hF
    refine eg_putI dX1_init_19 e5 (Nat.le_of_ble_eq_true rfl) (Nat.le_of_ble_eq_true rfl) rfl ew_222 (Or.inr ⟨rfl, rfl, rfl⟩) ?_
    refine eg_aload_n (i := 0) 0 dX1_init_22 rfl rfl ?_
    refine eg_iconst (v := (4 : Int32)) dX1_init_23 (by decide) ?_
    refine eg_aload_n (i := 0) 0 dX1_init_24 rfl rfl ?_
    replace hF := eg_bind hF; obtain ⟨v6, e7, hF⟩ := hF
    refine eg_getI dX1_init_25 e7 (Nat.le_of_ble_eq_true rfl) (Nat.le_of_ble_eq_true rfl) rfl ew_222 ?_
    refine eg_imul dX1_init_28 ?_
    replace hF := eg_bind hF; obtain ⟨h9, e10, hF⟩ := hF
    replace hF := eg_bind hF; obtain ⟨p8, e11, hF⟩ := hF
    refine eg_newa .int dX1_init_29 e10 0 (Nat.le_of_ble_eq_true rfl) (Nat.le_of_ble_eq_true rfl) (Nat.le_of_ble_eq_true rfl) (fun _ => rfl) (by decide) rfl ew_156 ?_
    replace e11 := Option.some.inj e11
    rw [e11]
    replace hF := eg_bind hF; obtain ⟨h12, e13, hF⟩ := hF
    refine eg_putR dX1_init_31 e13 (Nat.le_of_ble_eq_true rfl) (Nat.le_of_ble_eq_true rfl) rfl ew_221 (Or.inr ⟨rfl, rfl, rfl⟩) ?_
    exact eg_vretE dX1_init_34 hF
  · replace hF := eg_if c3 hF
    refine eg_iconst (v := (0 : Int32)) dX1_init_14 (by decide) ?_
    refine eg_goto 19 dX1_init_15 rfl ?_
    replace hF := eg_bind hF; obtain ⟨h14, e15, hF⟩ := hF
    refine eg_putI dX1_init_19 e15 (Nat.le_of_ble_eq_true rfl) (Nat.le_of_ble_eq_true rfl) rfl ew_222 (Or.inr ⟨rfl, rfl, rfl⟩) ?_
    refine eg_aload_n (i := 0) 0 dX1_init_22 rfl rfl ?_
    refine eg_iconst (v := (4 : Int32)) dX1_init_23 (by decide) ?_
    refine eg_aload_n (i := 0) 0 dX1_init_24 rfl rfl ?_
    replace hF := eg_bind hF; obtain ⟨v16, e17, hF⟩ := hF
    refine eg_getI dX1_init_25 e17 (Nat.le_of_ble_eq_true rfl) (Nat.le_of_ble_eq_true rfl) rfl ew_222 ?_
    refine eg_imul dX1_init_28 ?_
    replace hF := eg_bind hF; obtain ⟨h19, e20, hF⟩ := hF
    replace hF := eg_bind hF; obtain ⟨p18, e21, hF⟩ := hF
    refine eg_newa .int dX1_init_29 e20 0 (Nat.le_of_ble_eq_true rfl) (Nat.le_of_ble_eq_true rfl) (Nat.le_of_ble_eq_true rfl) (fun _ => rfl) (by decide) rfl ew_156 ?_
    replace e21 := Option.some.inj e21
    rw [e21]
    replace hF := eg_bind hF; obtain ⟨h22, e23, hF⟩ := hF
    refine eg_putR dX1_init_31 e23 (Nat.le_of_ble_eq_true rfl) (Nat.le_of_ble_eq_true rfl) rfl ew_221 (Or.inr ⟨rfl, rfl, rfl⟩) ?_
    exact eg_vretE dX1_init_34 hF
theorem dX1_size_0 : decode cX1_size 0 = .ok (.aload_n 0, 1) := by decide +kernel
theorem dX1_size_1 : decode cX1_size 1 = .ok (.getfield 9, 3) := by decide +kernel
theorem dX1_size_4 : decode cX1_size 4 = .ok (.ireturn, 1) := by decide +kernel
def fX1_size (h : eg_H) (l0 : Nat) : Option (Int32 × eg_H) :=
  if eg_isO h 1 l0 then (
    (eg_gI h 1 2 l0).bind fun v1 =>
    some (v1, h)) else none
theorem fX1_size_O {h : eg_H} {l0 : Nat} {rE : Int32} {hE : eg_H} (hF : fX1_size h l0 = some (rE, hE)) : eg_isO h 1 l0 := (eg_ifn hF).1
set_option maxRecDepth 20000 in
theorem mX1_size {h : eg_H} {l0 : Nat} {rE : Int32} {hE : eg_H} (hF : fX1_size h l0 = some (rE, hE)) : eg_Met yX1_size cX1_size 1 (some .int) 1 [.ref l0] h (some (.int rE)) hE := by
  refine eg_enter rfl (Nat.le_of_ble_eq_true rfl) ?_
  show eg_AW (RX1, cX1_size, 1, 1, none, "size", (some .int)) (eg_Zm (some (.int rE)) hE h) (eg_nc hE) (eg_ns hE) h 0 [(0, .ref l0)] [] h
  replace hF := (eg_ifn hF).2
  refine eg_aload_n (i := 0) 0 dX1_size_0 rfl rfl ?_
  replace hF := eg_bind hF; obtain ⟨v1, e2, hF⟩ := hF
  refine eg_getI dX1_size_1 e2 (Nat.le_of_ble_eq_true rfl) (Nat.le_of_ble_eq_true rfl) rfl ew_223 ?_
  exact eg_iretE dX1_size_4 hF
theorem dX1_isFull_0 : decode cX1_isFull 0 = .ok (.aload_n 0, 1) := by decide +kernel
theorem dX1_isFull_1 : decode cX1_isFull 1 = .ok (.getfield 9, 3) := by decide +kernel
theorem dX1_isFull_4 : decode cX1_isFull 4 = .ok (.aload_n 0, 1) := by decide +kernel
theorem dX1_isFull_5 : decode cX1_isFull 5 = .ok (.getfield 15, 3) := by decide +kernel
theorem dX1_isFull_8 : decode cX1_isFull 8 = .ok (.if_icmp .lt 7, 3) := by decide +kernel
theorem dX1_isFull_11 : decode cX1_isFull 11 = .ok (.iconst 1, 1) := by decide +kernel
theorem dX1_isFull_12 : decode cX1_isFull 12 = .ok (.goto 4, 3) := by decide +kernel
theorem dX1_isFull_15 : decode cX1_isFull 15 = .ok (.iconst 0, 1) := by decide +kernel
theorem dX1_isFull_16 : decode cX1_isFull 16 = .ok (.ireturn, 1) := by decide +kernel
def fX1_isFull (h : eg_H) (l0 : Nat) : Option (Int32 × eg_H) :=
  if eg_isO h 1 l0 then (
    (eg_gI h 1 2 l0).bind fun v1 =>
    (eg_gI h 1 1 l0).bind fun v3 =>
    if v1 < v3 then
      (some ((0 : Int32), h))
    else
      some ((1 : Int32), h)) else none
theorem fX1_isFull_O {h : eg_H} {l0 : Nat} {rE : Int32} {hE : eg_H} (hF : fX1_isFull h l0 = some (rE, hE)) : eg_isO h 1 l0 := (eg_ifn hF).1
set_option maxRecDepth 20000 in
theorem mX1_isFull {h : eg_H} {l0 : Nat} {rE : Int32} {hE : eg_H} (hF : fX1_isFull h l0 = some (rE, hE)) : eg_Met yX1_isFull cX1_isFull 1 (some .boolean) 1 [.ref l0] h (some (.int rE)) hE := by
  refine eg_enter rfl (Nat.le_of_ble_eq_true rfl) ?_
  show eg_AW (RX1, cX1_isFull, 1, 1, none, "isFull", (some .boolean)) (eg_Zm (some (.int rE)) hE h) (eg_nc hE) (eg_ns hE) h 0 [(0, .ref l0)] [] h
  replace hF := (eg_ifn hF).2
  refine eg_aload_n (i := 0) 0 dX1_isFull_0 rfl rfl ?_
  replace hF := eg_bind hF; obtain ⟨v1, e2, hF⟩ := hF
  refine eg_getI dX1_isFull_1 e2 (Nat.le_of_ble_eq_true rfl) (Nat.le_of_ble_eq_true rfl) rfl ew_223 ?_
  refine eg_aload_n (i := 0) 0 dX1_isFull_4 rfl rfl ?_
  replace hF := eg_bind hF; obtain ⟨v3, e4, hF⟩ := hF
  refine eg_getI dX1_isFull_5 e4 (Nat.le_of_ble_eq_true rfl) (Nat.le_of_ble_eq_true rfl) rfl ew_222 ?_
  refine eg_ic_lt 15 dX1_isFull_8 rfl (fun c5 => ?_) (fun c5 => ?_)
  · replace hF := eg_it c5 hF
    refine eg_iconst (v := (0 : Int32)) dX1_isFull_15 (by decide) ?_
    exact eg_zretE dX1_isFull_16 (Or.inl rfl) hF
  · replace hF := eg_if c5 hF
    refine eg_iconst (v := (1 : Int32)) dX1_isFull_11 (by decide) ?_
    refine eg_goto 16 dX1_isFull_12 rfl ?_
    exact eg_zretE dX1_isFull_16 (Or.inr rfl) hF
theorem dX1_add_0 : decode cX1_add 0 = .ok (.aload_n 0, 1) := by decide +kernel
theorem dX1_add_1 : decode cX1_add 1 = .ok (.getfield 9, 3) := by decide +kernel
theorem dX1_add_4 : decode cX1_add 4 = .ok (.aload_n 0, 1) := by decide +kernel
theorem dX1_add_5 : decode cX1_add 5 = .ok (.getfield 15, 3) := by decide +kernel
theorem dX1_add_8 : decode cX1_add 8 = .ok (.if_icmp .ge 68, 3) := by decide +kernel
theorem dX1_add_11 : decode cX1_add 11 = .ok (.aload_n 0, 1) := by decide +kernel
theorem dX1_add_12 : decode cX1_add 12 = .ok (.getfield 18, 3) := by decide +kernel
theorem dX1_add_15 : decode cX1_add 15 = .ok (.iconst 4, 1) := by decide +kernel
theorem dX1_add_16 : decode cX1_add 16 = .ok (.aload_n 0, 1) := by decide +kernel
theorem dX1_add_17 : decode cX1_add 17 = .ok (.getfield 9, 3) := by decide +kernel
theorem dX1_add_20 : decode cX1_add 20 = .ok (.imul, 1) := by decide +kernel
theorem dX1_add_21 : decode cX1_add 21 = .ok (.iload_n 1, 1) := by decide +kernel
theorem dX1_add_22 : decode cX1_add 22 = .ok (.iastore, 1) := by decide +kernel
theorem dX1_add_23 : decode cX1_add 23 = .ok (.aload_n 0, 1) := by decide +kernel
theorem dX1_add_24 : decode cX1_add 24 = .ok (.getfield 18, 3) := by decide +kernel
theorem dX1_add_27 : decode cX1_add 27 = .ok (.iconst 4, 1) := by decide +kernel
theorem dX1_add_28 : decode cX1_add 28 = .ok (.aload_n 0, 1) := by decide +kernel
theorem dX1_add_29 : decode cX1_add 29 = .ok (.getfield 9, 3) := by decide +kernel
theorem dX1_add_32 : decode cX1_add 32 = .ok (.imul, 1) := by decide +kernel
theorem dX1_add_33 : decode cX1_add 33 = .ok (.iconst 1, 1) := by decide +kernel
theorem dX1_add_34 : decode cX1_add 34 = .ok (.iadd, 1) := by decide +kernel
theorem dX1_add_35 : decode cX1_add 35 = .ok (.iload_n 2, 1) := by decide +kernel
theorem dX1_add_36 : decode cX1_add 36 = .ok (.iastore, 1) := by decide +kernel
theorem dX1_add_37 : decode cX1_add 37 = .ok (.aload_n 0, 1) := by decide +kernel
theorem dX1_add_38 : decode cX1_add 38 = .ok (.getfield 18, 3) := by decide +kernel
theorem dX1_add_41 : decode cX1_add 41 = .ok (.iconst 4, 1) := by decide +kernel
theorem dX1_add_42 : decode cX1_add 42 = .ok (.aload_n 0, 1) := by decide +kernel
theorem dX1_add_43 : decode cX1_add 43 = .ok (.getfield 9, 3) := by decide +kernel
theorem dX1_add_46 : decode cX1_add 46 = .ok (.imul, 1) := by decide +kernel
theorem dX1_add_47 : decode cX1_add 47 = .ok (.iconst 2, 1) := by decide +kernel
theorem dX1_add_48 : decode cX1_add 48 = .ok (.iadd, 1) := by decide +kernel
theorem dX1_add_49 : decode cX1_add 49 = .ok (.iload_n 3, 1) := by decide +kernel
theorem dX1_add_50 : decode cX1_add 50 = .ok (.iastore, 1) := by decide +kernel
theorem dX1_add_51 : decode cX1_add 51 = .ok (.aload_n 0, 1) := by decide +kernel
theorem dX1_add_52 : decode cX1_add 52 = .ok (.getfield 18, 3) := by decide +kernel
theorem dX1_add_55 : decode cX1_add 55 = .ok (.iconst 4, 1) := by decide +kernel
theorem dX1_add_56 : decode cX1_add 56 = .ok (.aload_n 0, 1) := by decide +kernel
theorem dX1_add_57 : decode cX1_add 57 = .ok (.getfield 9, 3) := by decide +kernel
theorem dX1_add_60 : decode cX1_add 60 = .ok (.imul, 1) := by decide +kernel
theorem dX1_add_61 : decode cX1_add 61 = .ok (.iconst 3, 1) := by decide +kernel
theorem dX1_add_62 : decode cX1_add 62 = .ok (.iadd, 1) := by decide +kernel
theorem dX1_add_63 : decode cX1_add 63 = .ok (.iload 4, 2) := by decide +kernel
theorem dX1_add_65 : decode cX1_add 65 = .ok (.iastore, 1) := by decide +kernel
theorem dX1_add_66 : decode cX1_add 66 = .ok (.aload_n 0, 1) := by decide +kernel
theorem dX1_add_67 : decode cX1_add 67 = .ok (.dup, 1) := by decide +kernel
theorem dX1_add_68 : decode cX1_add 68 = .ok (.getfield 9, 3) := by decide +kernel
theorem dX1_add_71 : decode cX1_add 71 = .ok (.iconst 1, 1) := by decide +kernel
theorem dX1_add_72 : decode cX1_add 72 = .ok (.iadd, 1) := by decide +kernel
theorem dX1_add_73 : decode cX1_add 73 = .ok (.putfield 9, 3) := by decide +kernel
theorem dX1_add_76 : decode cX1_add 76 = .ok (.return_, 1) := by decide +kernel
def fX1_add (h : eg_H) (l0 : Nat) (l1 : Int32) (l2 : Int32) (l3 : Int32) (l4 : Int32) : Option (eg_H) :=
  if eg_isO h 1 l0 then (
    (eg_gI h 1 2 l0).bind fun v1 =>
    (eg_gI h 1 1 l0).bind fun v3 =>
    if v3 ≤ v1 then
      (some h)
    else
      (eg_gR h 1 0 l0).bind fun p6 =>
      (eg_gI h 1 2 l0).bind fun v8 =>
      (eg_wI h 100 p6 ((4 : Int32) * v8) l1).bind fun h10 =>
      (eg_gR h10 1 0 l0).bind fun p12 =>
      (eg_gI h10 1 2 l0).bind fun v14 =>
      (eg_wI h10 100 p12 (((4 : Int32) * v14) + (1 : Int32)) l2).bind fun h16 =>
      (eg_gR h16 1 0 l0).bind fun p18 =>
      (eg_gI h16 1 2 l0).bind fun v20 =>
      (eg_wI h16 100 p18 (((4 : Int32) * v20) + (2 : Int32)) l3).bind fun h22 =>
      (eg_gR h22 1 0 l0).bind fun p24 =>
      (eg_gI h22 1 2 l0).bind fun v26 =>
      (eg_wI h22 100 p24 (((4 : Int32) * v26) + (3 : Int32)) l4).bind fun h28 =>
      (eg_gI h28 1 2 l0).bind fun v30 =>
      (eg_pI h28 1 2 l0 (v30 + (1 : Int32))).bind fun h32 =>
      some h32) else none
theorem fX1_add_O {h : eg_H} {l0 : Nat} {l1 : Int32} {l2 : Int32} {l3 : Int32} {l4 : Int32} {hE : eg_H} (hF : fX1_add h l0 l1 l2 l3 l4 = some hE) : eg_isO h 1 l0 := (eg_ifn hF).1
set_option maxRecDepth 20000 in
theorem mX1_add {h : eg_H} {l0 : Nat} {l1 : Int32} {l2 : Int32} {l3 : Int32} {l4 : Int32} {hE : eg_H} (hF : fX1_add h l0 l1 l2 l3 l4 = some hE) : eg_Met yX1_add cX1_add 5 none 1 [.ref l0, .int l1, .int l2, .int l3, .int l4] h none hE := by
  refine eg_enter rfl (Nat.le_of_ble_eq_true rfl) ?_
  show eg_AW (RX1, cX1_add, 5, 1, none, "add", none) (eg_Zm none hE h) (eg_nc hE) (eg_ns hE) h 0 [(0, .ref l0), (1, .int l1), (2, .int l2), (3, .int l3), (4, .int l4)] [] h
  replace hF := (eg_ifn hF).2
  refine eg_aload_n (i := 0) 0 dX1_add_0 rfl rfl ?_
  replace hF := eg_bind hF; obtain ⟨v1, e2, hF⟩ := hF
  refine eg_getI dX1_add_1 e2 (Nat.le_of_ble_eq_true rfl) (Nat.le_of_ble_eq_true rfl) rfl ew_223 ?_
  refine eg_aload_n (i := 0) 0 dX1_add_4 rfl rfl ?_
  replace hF := eg_bind hF; obtain ⟨v3, e4, hF⟩ := hF
  refine eg_getI dX1_add_5 e4 (Nat.le_of_ble_eq_true rfl) (Nat.le_of_ble_eq_true rfl) rfl ew_222 ?_
  refine eg_ic_ge 76 dX1_add_8 rfl (fun c5 => ?_) (fun c5 => ?_)
  · replace hF := eg_it c5 hF
    exact eg_vretE dX1_add_76 hF
  · replace hF := eg_if c5 hF
    refine eg_aload_n (i := 0) 0 dX1_add_11 rfl rfl ?_
    replace hF := eg_bind hF; obtain ⟨p6, e7, hF⟩ := hF
    refine eg_getR dX1_add_12 e7 (Nat.le_of_ble_eq_true rfl) (Nat.le_of_ble_eq_true rfl) rfl ew_221 ?_
    refine eg_iconst (v := (4 : Int32)) dX1_add_15 (by decide) ?_
    refine eg_aload_n (i := 0) 0 dX1_add_16 rfl rfl ?_
    replace hF := eg_bind hF; obtain ⟨v8, e9, hF⟩ := hF
    refine eg_getI dX1_add_17 e9 (Nat.le_of_ble_eq_true rfl) (Nat.le_of_ble_eq_true rfl) rfl ew_223 ?_
    refine eg_imul dX1_add_20 ?_
    refine eg_iload_n (i := 1) 1 dX1_add_21 rfl rfl ?_
    replace hF := eg_bind hF; obtain ⟨h10, e11, hF⟩ := hF
    refine eg_iast dX1_add_22 e11 ?_
    refine eg_aload_n (i := 0) 0 dX1_add_23 rfl rfl ?_
    replace hF := eg_bind hF; obtain ⟨p12, e13, hF⟩ := hF
    refine eg_getR dX1_add_24 e13 (Nat.le_of_ble_eq_true rfl) (Nat.le_of_ble_eq_true rfl) rfl ew_221 ?_
    refine eg_iconst (v := (4 : Int32)) dX1_add_27 (by decide) ?_
    refine eg_aload_n (i := 0) 0 dX1_add_28 rfl rfl ?_
    replace hF := eg_bind hF; obtain ⟨v14, e15, hF⟩ := hF
    refine eg_getI dX1_add_29 e15 (Nat.le_of_ble_eq_true rfl) (Nat.le_of_ble_eq_true rfl) rfl ew_223 ?_
    refine eg_imul dX1_add_32 ?_
    refine eg_iconst (v := (1 : Int32)) dX1_add_33 (by decide) ?_
    refine eg_iadd dX1_add_34 ?_
    refine eg_iload_n (i := 2) 2 dX1_add_35 rfl rfl ?_
    replace hF := eg_bind hF; obtain ⟨h16, e17, hF⟩ := hF
    refine eg_iast dX1_add_36 e17 ?_
    refine eg_aload_n (i := 0) 0 dX1_add_37 rfl rfl ?_
    replace hF := eg_bind hF; obtain ⟨p18, e19, hF⟩ := hF
    refine eg_getR dX1_add_38 e19 (Nat.le_of_ble_eq_true rfl) (Nat.le_of_ble_eq_true rfl) rfl ew_221 ?_
    refine eg_iconst (v := (4 : Int32)) dX1_add_41 (by decide) ?_
    refine eg_aload_n (i := 0) 0 dX1_add_42 rfl rfl ?_
    replace hF := eg_bind hF; obtain ⟨v20, e21, hF⟩ := hF
    refine eg_getI dX1_add_43 e21 (Nat.le_of_ble_eq_true rfl) (Nat.le_of_ble_eq_true rfl) rfl ew_223 ?_
    refine eg_imul dX1_add_46 ?_
    refine eg_iconst (v := (2 : Int32)) dX1_add_47 (by decide) ?_
    refine eg_iadd dX1_add_48 ?_
    refine eg_iload_n (i := 3) 3 dX1_add_49 rfl rfl ?_
    replace hF := eg_bind hF; obtain ⟨h22, e23, hF⟩ := hF
    refine eg_iast dX1_add_50 e23 ?_
    refine eg_aload_n (i := 0) 0 dX1_add_51 rfl rfl ?_
    replace hF := eg_bind hF; obtain ⟨p24, e25, hF⟩ := hF
    refine eg_getR dX1_add_52 e25 (Nat.le_of_ble_eq_true rfl) (Nat.le_of_ble_eq_true rfl) rfl ew_221 ?_
    refine eg_iconst (v := (4 : Int32)) dX1_add_55 (by decide) ?_
    refine eg_aload_n (i := 0) 0 dX1_add_56 rfl rfl ?_
    replace hF := eg_bind hF; obtain ⟨v26, e27, hF⟩ := hF
    refine eg_getI dX1_add_57 e27 (Nat.le_of_ble_eq_true rfl) (Nat.le_of_ble_eq_true rfl) rfl ew_223 ?_
    refine eg_imul dX1_add_60 ?_
    refine eg_iconst (v := (3 : Int32)) dX1_add_61 (by decide) ?_
    refine eg_iadd dX1_add_62 ?_
    refine eg_iload (i := 4) 4 dX1_add_63 rfl ?_
    replace hF := eg_bind hF; obtain ⟨h28, e29, hF⟩ := hF
    refine eg_iast dX1_add_65 e29 ?_
    refine eg_aload_n (i := 0) 0 dX1_add_66 rfl rfl ?_
    refine eg_dup dX1_add_67 rfl ?_
    replace hF := eg_bind hF; obtain ⟨v30, e31, hF⟩ := hF
    refine eg_getI dX1_add_68 e31 (Nat.le_of_ble_eq_true rfl) (Nat.le_of_ble_eq_true rfl) rfl ew_223 ?_
    refine eg_iconst (v := (1 : Int32)) dX1_add_71 (by decide) ?_
    refine eg_iadd dX1_add_72 ?_
    replace hF := eg_bind hF; obtain ⟨h32, e33, hF⟩ := hF
    refine eg_putI dX1_add_73 e33 (Nat.le_of_ble_eq_true rfl) (Nat.le_of_ble_eq_true rfl) rfl ew_223 (Or.inl rfl) ?_
    exact eg_vretE dX1_add_76 hF
theorem dX1_cell_0 : decode cX1_cell 0 = .ok (.iload_n 1, 1) := by decide +kernel
theorem dX1_cell_1 : decode cX1_cell 1 = .ok (.ifCond .lt 20, 3) := by decide +kernel
theorem dX1_cell_4 : decode cX1_cell 4 = .ok (.iload_n 1, 1) := by decide +kernel
theorem dX1_cell_5 : decode cX1_cell 5 = .ok (.aload_n 0, 1) := by decide +kernel
theorem dX1_cell_6 : decode cX1_cell 6 = .ok (.getfield 9, 3) := by decide +kernel
theorem dX1_cell_9 : decode cX1_cell 9 = .ok (.if_icmp .ge 12, 3) := by decide +kernel
theorem dX1_cell_12 : decode cX1_cell 12 = .ok (.iload_n 2, 1) := by decide +kernel
theorem dX1_cell_13 : decode cX1_cell 13 = .ok (.ifCond .lt 8, 3) := by decide +kernel
theorem dX1_cell_16 : decode cX1_cell 16 = .ok (.iload_n 2, 1) := by decide +kernel
theorem dX1_cell_17 : decode cX1_cell 17 = .ok (.iconst 3, 1) := by decide +kernel
theorem dX1_cell_18 : decode cX1_cell 18 = .ok (.if_icmp .le 7, 3) := by decide +kernel
theorem dX1_cell_21 : decode cX1_cell 21 = .ok (.iconst (-1), 1) := by decide +kernel
theorem dX1_cell_22 : decode cX1_cell 22 = .ok (.goto 13, 3) := by decide +kernel
theorem dX1_cell_25 : decode cX1_cell 25 = .ok (.aload_n 0, 1) := by decide +kernel
theorem dX1_cell_26 : decode cX1_cell 26 = .ok (.getfield 18, 3) := by decide +kernel
theorem dX1_cell_29 : decode cX1_cell 29 = .ok (.iconst 4, 1) := by decide +kernel
theorem dX1_cell_30 : decode cX1_cell 30 = .ok (.iload_n 1, 1) := by decide +kernel
theorem dX1_cell_31 : decode cX1_cell 31 = .ok (.imul, 1) := by decide +kernel
theorem dX1_cell_32 : decode cX1_cell 32 = .ok (.iload_n 2, 1) := by decide +kernel
theorem dX1_cell_33 : decode cX1_cell 33 = .ok (.iadd, 1) := by decide +kernel
theorem dX1_cell_34 : decode cX1_cell 34 = .ok (.iaload, 1) := by decide +kernel
theorem dX1_cell_35 : decode cX1_cell 35 = .ok (.ireturn, 1) := by decide +kernel
def fX1_cell (h : eg_H) (l0 : Nat) (l1 : Int32) (l2 : Int32) : Option (Int32 × eg_H) :=
  if eg_isO h 1 l0 then (
    if l1 < 0 then
      (some ((-1 : Int32), h))
    else
      (eg_gI h 1 2 l0).bind fun v2 =>
      if v2 ≤ l1 then
        (some ((-1 : Int32), h))
      else
        if l2 < 0 then
          (some ((-1 : Int32), h))
        else
          if l2 ≤ (3 : Int32) then
            ((eg_gR h 1 0 l0).bind fun p7 =>
            (eg_aI h 100 p7 (((4 : Int32) * l1) + l2)).bind fun v9 =>
            some (v9, h))
          else
            some ((-1 : Int32), h)) else none
theorem fX1_cell_O {h : eg_H} {l0 : Nat} {l1 : Int32} {l2 : Int32} {rE : Int32} {hE : eg_H} (hF : fX1_cell h l0 l1 l2 = some (rE, hE)) : eg_isO h 1 l0 := (eg_ifn hF).1
set_option maxRecDepth 20000 in
theorem mX1_cell {h : eg_H} {l0 : Nat} {l1 : Int32} {l2 : Int32} {rE : Int32} {hE : eg_H} (hF : fX1_cell h l0 l1 l2 = some (rE, hE)) : eg_Met yX1_cell cX1_cell 3 (some .int) 1 [.ref l0, .int l1, .int l2] h (some (.int rE)) hE := by
  refine eg_enter rfl (Nat.le_of_ble_eq_true rfl) ?_
  show eg_AW (RX1, cX1_cell, 3, 1, none, "cell", (some .int)) (eg_Zm (some (.int rE)) hE h) (eg_nc hE) (eg_ns hE) h 0 [(0, .ref l0), (1, .int l1), (2, .int l2)] [] h
  replace hF := (eg_ifn hF).2
  refine eg_iload_n (i := 1) 1 dX1_cell_0 rfl rfl ?_
  refine eg_if_lt 21 dX1_cell_1 rfl (fun c1 => ?_) (fun c1 => ?_)
  · replace hF := eg_it c1 hF
    refine eg_iconst (v := (-1 : Int32)) dX1_cell_21 (by decide) ?_
    refine eg_goto 35 dX1_cell_22 rfl ?_
    exact eg_iretE dX1_cell_35 hF
  · replace hF := eg_if c1 hF
    refine eg_iload_n (i := 1) 1 dX1_cell_4 rfl rfl ?_
    refine eg_aload_n (i := 0) 0 dX1_cell_5 rfl rfl ?_
    replace hF := eg_bind hF; obtain ⟨v2, e3, hF⟩ := hF
    refine eg_getI dX1_cell_6 e3 (Nat.le_of_ble_eq_true rfl) (Nat.le_of_ble_eq_true rfl) rfl ew_223 ?_
    refine eg_ic_ge 21 dX1_cell_9 rfl (fun c4 => ?_) (fun c4 => ?_)
    · replace hF := eg_it c4 hF
      refine eg_iconst (v := (-1 : Int32)) dX1_cell_21 (by decide) ?_
      refine eg_goto 35 dX1_cell_22 rfl ?_
      exact eg_iretE dX1_cell_35 hF
    · replace hF := eg_if c4 hF
      refine eg_iload_n (i := 2) 2 dX1_cell_12 rfl rfl ?_
      refine eg_if_lt 21 dX1_cell_13 rfl (fun c5 => ?_) (fun c5 => ?_)
      · replace hF := eg_it c5 hF
        refine eg_iconst (v := (-1 : Int32)) dX1_cell_21 (by decide) ?_
        refine eg_goto 35 dX1_cell_22 rfl ?_
        exact eg_iretE dX1_cell_35 hF
      · replace hF := eg_if c5 hF
        refine eg_iload_n (i := 2) 2 dX1_cell_16 rfl rfl ?_
        refine eg_iconst (v := (3 : Int32)) dX1_cell_17 (by decide) ?_
        refine eg_ic_le 25 dX1_cell_18 rfl (fun c6 => ?_) (fun c6 => ?_)
        · replace hF := eg_it c6 hF
          refine eg_aload_n (i := 0) 0 dX1_cell_25 rfl rfl ?_
          replace hF := eg_bind hF; obtain ⟨p7, e8, hF⟩ := hF
          refine eg_getR dX1_cell_26 e8 (Nat.le_of_ble_eq_true rfl) (Nat.le_of_ble_eq_true rfl) rfl ew_221 ?_
          refine eg_iconst (v := (4 : Int32)) dX1_cell_29 (by decide) ?_
          refine eg_iload_n (i := 1) 1 dX1_cell_30 rfl rfl ?_
          refine eg_imul dX1_cell_31 ?_
          refine eg_iload_n (i := 2) 2 dX1_cell_32 rfl rfl ?_
          refine eg_iadd dX1_cell_33 ?_
          replace hF := eg_bind hF; obtain ⟨v9, e10, hF⟩ := hF
          refine eg_iald dX1_cell_34 e10 ?_
          exact eg_iretE dX1_cell_35 hF
        · replace hF := eg_if c6 hF
          refine eg_iconst (v := (-1 : Int32)) dX1_cell_21 (by decide) ?_
          refine eg_goto 35 dX1_cell_22 rfl ?_
          exact eg_iretE dX1_cell_35 hF
theorem dX1_dropLatest_0 : decode cX1_dropLatest 0 = .ok (.aload_n 0, 1) := by decide +kernel
theorem dX1_dropLatest_1 : decode cX1_dropLatest 1 = .ok (.getfield 9, 3) := by decide +kernel
theorem dX1_dropLatest_4 : decode cX1_dropLatest 4 = .ok (.ifCond .le 13, 3) := by decide +kernel
theorem dX1_dropLatest_7 : decode cX1_dropLatest 7 = .ok (.aload_n 0, 1) := by decide +kernel
theorem dX1_dropLatest_8 : decode cX1_dropLatest 8 = .ok (.dup, 1) := by decide +kernel
theorem dX1_dropLatest_9 : decode cX1_dropLatest 9 = .ok (.getfield 9, 3) := by decide +kernel
theorem dX1_dropLatest_12 : decode cX1_dropLatest 12 = .ok (.iconst 1, 1) := by decide +kernel
theorem dX1_dropLatest_13 : decode cX1_dropLatest 13 = .ok (.isub, 1) := by decide +kernel
theorem dX1_dropLatest_14 : decode cX1_dropLatest 14 = .ok (.putfield 9, 3) := by decide +kernel
theorem dX1_dropLatest_17 : decode cX1_dropLatest 17 = .ok (.return_, 1) := by decide +kernel
def fX1_dropLatest (h : eg_H) (l0 : Nat) : Option (eg_H) :=
  if eg_isO h 1 l0 then (
    (eg_gI h 1 2 l0).bind fun v1 =>
    if v1 ≤ 0 then
      (some h)
    else
      (eg_gI h 1 2 l0).bind fun v4 =>
      (eg_pI h 1 2 l0 (v4 - (1 : Int32))).bind fun h6 =>
      some h6) else none
theorem fX1_dropLatest_O {h : eg_H} {l0 : Nat} {hE : eg_H} (hF : fX1_dropLatest h l0 = some hE) : eg_isO h 1 l0 := (eg_ifn hF).1
set_option maxRecDepth 20000 in
theorem mX1_dropLatest {h : eg_H} {l0 : Nat} {hE : eg_H} (hF : fX1_dropLatest h l0 = some hE) : eg_Met yX1_dropLatest cX1_dropLatest 1 none 1 [.ref l0] h none hE := by
  refine eg_enter rfl (Nat.le_of_ble_eq_true rfl) ?_
  show eg_AW (RX1, cX1_dropLatest, 1, 1, none, "dropLatest", none) (eg_Zm none hE h) (eg_nc hE) (eg_ns hE) h 0 [(0, .ref l0)] [] h
  replace hF := (eg_ifn hF).2
  refine eg_aload_n (i := 0) 0 dX1_dropLatest_0 rfl rfl ?_
  replace hF := eg_bind hF; obtain ⟨v1, e2, hF⟩ := hF
  refine eg_getI dX1_dropLatest_1 e2 (Nat.le_of_ble_eq_true rfl) (Nat.le_of_ble_eq_true rfl) rfl ew_223 ?_
  refine eg_if_le 17 dX1_dropLatest_4 rfl (fun c3 => ?_) (fun c3 => ?_)
  · replace hF := eg_it c3 hF
    exact eg_vretE dX1_dropLatest_17 hF
  · replace hF := eg_if c3 hF
    refine eg_aload_n (i := 0) 0 dX1_dropLatest_7 rfl rfl ?_
    refine eg_dup dX1_dropLatest_8 rfl ?_
    replace hF := eg_bind hF; obtain ⟨v4, e5, hF⟩ := hF
    refine eg_getI dX1_dropLatest_9 e5 (Nat.le_of_ble_eq_true rfl) (Nat.le_of_ble_eq_true rfl) rfl ew_223 ?_
    refine eg_iconst (v := (1 : Int32)) dX1_dropLatest_12 (by decide) ?_
    refine eg_isub dX1_dropLatest_13 ?_
    replace hF := eg_bind hF; obtain ⟨h6, e7, hF⟩ := hF
    refine eg_putI dX1_dropLatest_14 e7 (Nat.le_of_ble_eq_true rfl) (Nat.le_of_ble_eq_true rfl) rfl ew_223 (Or.inl rfl) ?_
    exact eg_vretE dX1_dropLatest_17 hF
theorem dX1_clear_0 : decode cX1_clear 0 = .ok (.aload_n 0, 1) := by decide +kernel
theorem dX1_clear_1 : decode cX1_clear 1 = .ok (.iconst 0, 1) := by decide +kernel
theorem dX1_clear_2 : decode cX1_clear 2 = .ok (.putfield 9, 3) := by decide +kernel
theorem dX1_clear_5 : decode cX1_clear 5 = .ok (.return_, 1) := by decide +kernel
def fX1_clear (h : eg_H) (l0 : Nat) : Option (eg_H) :=
  if eg_isO h 1 l0 then (
    (eg_pI h 1 2 l0 (0 : Int32)).bind fun h1 =>
    some h1) else none
theorem fX1_clear_O {h : eg_H} {l0 : Nat} {hE : eg_H} (hF : fX1_clear h l0 = some hE) : eg_isO h 1 l0 := (eg_ifn hF).1
set_option maxRecDepth 20000 in
theorem mX1_clear {h : eg_H} {l0 : Nat} {hE : eg_H} (hF : fX1_clear h l0 = some hE) : eg_Met yX1_clear cX1_clear 1 none 1 [.ref l0] h none hE := by
  refine eg_enter rfl (Nat.le_of_ble_eq_true rfl) ?_
  show eg_AW (RX1, cX1_clear, 1, 1, none, "clear", none) (eg_Zm none hE h) (eg_nc hE) (eg_ns hE) h 0 [(0, .ref l0)] [] h
  replace hF := (eg_ifn hF).2
  refine eg_aload_n (i := 0) 0 dX1_clear_0 rfl rfl ?_
  refine eg_iconst (v := (0 : Int32)) dX1_clear_1 (by decide) ?_
  replace hF := eg_bind hF; obtain ⟨h1, e2, hF⟩ := hF
  refine eg_putI dX1_clear_2 e2 (Nat.le_of_ble_eq_true rfl) (Nat.le_of_ble_eq_true rfl) rfl ew_223 (Or.inl rfl) ?_
  exact eg_vretE dX1_clear_5 hF
theorem dX1_copyFrom_0 : decode cX1_copyFrom 0 = .ok (.aload_n 0, 1) := by decide +kernel
theorem dX1_copyFrom_1 : decode cX1_copyFrom 1 = .ok (.iconst 0, 1) := by decide +kernel
theorem dX1_copyFrom_2 : decode cX1_copyFrom 2 = .ok (.putfield 9, 3) := by decide +kernel
theorem dX1_copyFrom_5 : decode cX1_copyFrom 5 = .ok (.iconst 0, 1) := by decide +kernel
theorem dX1_copyFrom_6 : decode cX1_copyFrom 6 = .ok (.istore_n 2, 1) := by decide +kernel
theorem dX1_copyFrom_7 : decode cX1_copyFrom 7 = .ok (.iload_n 2, 1) := by decide +kernel
theorem dX1_copyFrom_8 : decode cX1_copyFrom 8 = .ok (.aload_n 1, 1) := by decide +kernel
theorem dX1_copyFrom_9 : decode cX1_copyFrom 9 = .ok (.invokevirtual 22, 3) := by decide +kernel
theorem dX1_copyFrom_12 : decode cX1_copyFrom 12 = .ok (.if_icmp .ge 37, 3) := by decide +kernel
theorem dX1_copyFrom_15 : decode cX1_copyFrom 15 = .ok (.aload_n 0, 1) := by decide +kernel
theorem dX1_copyFrom_16 : decode cX1_copyFrom 16 = .ok (.aload_n 1, 1) := by decide +kernel
theorem dX1_copyFrom_17 : decode cX1_copyFrom 17 = .ok (.iload_n 2, 1) := by decide +kernel
theorem dX1_copyFrom_18 : decode cX1_copyFrom 18 = .ok (.iconst 0, 1) := by decide +kernel
theorem dX1_copyFrom_19 : decode cX1_copyFrom 19 = .ok (.invokevirtual 25, 3) := by decide +kernel
theorem dX1_copyFrom_22 : decode cX1_copyFrom 22 = .ok (.aload_n 1, 1) := by decide +kernel
theorem dX1_copyFrom_23 : decode cX1_copyFrom 23 = .ok (.iload_n 2, 1) := by decide +kernel
theorem dX1_copyFrom_24 : decode cX1_copyFrom 24 = .ok (.iconst 1, 1) := by decide +kernel
theorem dX1_copyFrom_25 : decode cX1_copyFrom 25 = .ok (.invokevirtual 25, 3) := by decide +kernel
theorem dX1_copyFrom_28 : decode cX1_copyFrom 28 = .ok (.aload_n 1, 1) := by decide +kernel
theorem dX1_copyFrom_29 : decode cX1_copyFrom 29 = .ok (.iload_n 2, 1) := by decide +kernel
theorem dX1_copyFrom_30 : decode cX1_copyFrom 30 = .ok (.iconst 2, 1) := by decide +kernel
theorem dX1_copyFrom_31 : decode cX1_copyFrom 31 = .ok (.invokevirtual 25, 3) := by decide +kernel
theorem dX1_copyFrom_34 : decode cX1_copyFrom 34 = .ok (.aload_n 1, 1) := by decide +kernel
theorem dX1_copyFrom_35 : decode cX1_copyFrom 35 = .ok (.iload_n 2, 1) := by decide +kernel
theorem dX1_copyFrom_36 : decode cX1_copyFrom 36 = .ok (.iconst 3, 1) := by decide +kernel
theorem dX1_copyFrom_37 : decode cX1_copyFrom 37 = .ok (.invokevirtual 25, 3) := by decide +kernel
theorem dX1_copyFrom_40 : decode cX1_copyFrom 40 = .ok (.invokevirtual 29, 3) := by decide +kernel
theorem dX1_copyFrom_43 : decode cX1_copyFrom 43 = .ok (.iinc 2 1, 3) := by decide +kernel
theorem dX1_copyFrom_46 : decode cX1_copyFrom 46 = .ok (.goto (-39), 3) := by decide +kernel
theorem dX1_copyFrom_49 : decode cX1_copyFrom 49 = .ok (.return_, 1) := by decide +kernel
def fX1_copyFrom_L7 : Nat → eg_H → Nat → Nat → Int32 → Option (eg_H)
  | 0, _, _, _, _ => none
  | n + 1, h, l0, l1, l2 =>
    (fX1_size h l1).bind fun ⟨v2, h1⟩ =>
    if v2 ≤ l2 then
      (some h1)
    else
      (fX1_cell h1 l1 l2 (0 : Int32)).bind fun ⟨v6, h5⟩ =>
      (fX1_cell h5 l1 l2 (1 : Int32)).bind fun ⟨v9, h8⟩ =>
      (fX1_cell h8 l1 l2 (2 : Int32)).bind fun ⟨v12, h11⟩ =>
      (fX1_cell h11 l1 l2 (3 : Int32)).bind fun ⟨v15, h14⟩ =>
      (fX1_add h14 l0 v6 v9 v12 v15).bind fun h17 =>
      fX1_copyFrom_L7 n h17 l0 l1 (l2 + (1 : Int32))
set_option maxRecDepth 20000 in
theorem fX1_copyFrom_L7_ok {h0 : eg_H} {Z : eg_C → State → Prop} {N S : Nat} : ∀ (n : Nat) (h : eg_H) (l0 : Nat) (l1 : Nat) (l2 : Int32) (eE : eg_H), fX1_copyFrom_L7 n h l0 l1 l2 = some eE → (hk0 : ∀  (h : eg_H), eE = h → eg_AW (RX1, cX1_copyFrom, 3, 2, none, "copyFrom", none) Z N S h0 49 [] [] h) → eg_AW (RX1, cX1_copyFrom, 3, 2, none, "copyFrom", none) Z N S h0 7 [(0, .ref l0), (1, .ref l1), (2, .int l2)] [] h := by
  intro n
  induction n with
  | zero => intro h l0 l1 l2 eE hF; exact absurd hF (by intro q; cases q)
  | succ n ih =>
    intro h l0 l1 l2 eE hF hk0
    have hrec := fun (h' : eg_H) (l0 : Nat) (l1 : Nat) (l2 : Int32) hq => ih h' l0 l1 l2 eE hq hk0
    refine eg_iload_n (i := 2) 2 dX1_copyFrom_7 rfl rfl ?_
    refine eg_aload_n (i := 1) 1 dX1_copyFrom_8 rfl rfl ?_
    replace hF := eg_bind hF; obtain ⟨⟨v2, h1⟩, e3, hF⟩ := hF
    refine eg_callV (c := 1) (n := 0) [] dX1_copyFrom_9 (mX1_size e3) rfl (fX1_size_O e3) (Nat.le_of_ble_eq_true rfl) rfl ew_1341 ew_1247 ew_1248 ew_105 ew_1249 hy_X1_size rfl (Nat.le_of_ble_eq_true rfl) (Nat.le_of_ble_eq_true rfl) (Nat.le_of_ble_eq_true rfl) ?_
    refine eg_ic_ge 49 dX1_copyFrom_12 rfl (fun c4 => ?_) (fun c4 => ?_)
    · replace hF := eg_it c4 hF
      exact eg_sub [] [] rfl (hk0 h1 (Option.some.inj hF).symm)
    · replace hF := eg_if c4 hF
      refine eg_aload_n (i := 0) 0 dX1_copyFrom_15 rfl rfl ?_
      refine eg_aload_n (i := 1) 1 dX1_copyFrom_16 rfl rfl ?_
      refine eg_iload_n (i := 2) 2 dX1_copyFrom_17 rfl rfl ?_
      refine eg_iconst (v := (0 : Int32)) dX1_copyFrom_18 (by decide) ?_
      replace hF := eg_bind hF; obtain ⟨⟨v6, h5⟩, e7, hF⟩ := hF
      refine eg_callV (c := 1) (n := 2) [.int l2, .int (0 : Int32)] dX1_copyFrom_19 (mX1_cell e7) rfl (fX1_cell_O e7) (Nat.le_of_ble_eq_true rfl) rfl ew_1342 ew_1259 ew_1260 ew_105 ew_1261 hy_X1_cell rfl (Nat.le_of_ble_eq_true rfl) (Nat.le_of_ble_eq_true rfl) (Nat.le_of_ble_eq_true rfl) ?_
      refine eg_aload_n (i := 1) 1 dX1_copyFrom_22 rfl rfl ?_
      refine eg_iload_n (i := 2) 2 dX1_copyFrom_23 rfl rfl ?_
      refine eg_iconst (v := (1 : Int32)) dX1_copyFrom_24 (by decide) ?_
      replace hF := eg_bind hF; obtain ⟨⟨v9, h8⟩, e10, hF⟩ := hF
      refine eg_callV (c := 1) (n := 2) [.int l2, .int (1 : Int32)] dX1_copyFrom_25 (mX1_cell e10) rfl (fX1_cell_O e10) (Nat.le_of_ble_eq_true rfl) rfl ew_1342 ew_1259 ew_1260 ew_105 ew_1261 hy_X1_cell rfl (Nat.le_of_ble_eq_true rfl) (Nat.le_of_ble_eq_true rfl) (Nat.le_of_ble_eq_true rfl) ?_
      refine eg_aload_n (i := 1) 1 dX1_copyFrom_28 rfl rfl ?_
      refine eg_iload_n (i := 2) 2 dX1_copyFrom_29 rfl rfl ?_
      refine eg_iconst (v := (2 : Int32)) dX1_copyFrom_30 (by decide) ?_
      replace hF := eg_bind hF; obtain ⟨⟨v12, h11⟩, e13, hF⟩ := hF
      refine eg_callV (c := 1) (n := 2) [.int l2, .int (2 : Int32)] dX1_copyFrom_31 (mX1_cell e13) rfl (fX1_cell_O e13) (Nat.le_of_ble_eq_true rfl) rfl ew_1342 ew_1259 ew_1260 ew_105 ew_1261 hy_X1_cell rfl (Nat.le_of_ble_eq_true rfl) (Nat.le_of_ble_eq_true rfl) (Nat.le_of_ble_eq_true rfl) ?_
      refine eg_aload_n (i := 1) 1 dX1_copyFrom_34 rfl rfl ?_
      refine eg_iload_n (i := 2) 2 dX1_copyFrom_35 rfl rfl ?_
      refine eg_iconst (v := (3 : Int32)) dX1_copyFrom_36 (by decide) ?_
      replace hF := eg_bind hF; obtain ⟨⟨v15, h14⟩, e16, hF⟩ := hF
      refine eg_callV (c := 1) (n := 2) [.int l2, .int (3 : Int32)] dX1_copyFrom_37 (mX1_cell e16) rfl (fX1_cell_O e16) (Nat.le_of_ble_eq_true rfl) rfl ew_1342 ew_1259 ew_1260 ew_105 ew_1261 hy_X1_cell rfl (Nat.le_of_ble_eq_true rfl) (Nat.le_of_ble_eq_true rfl) (Nat.le_of_ble_eq_true rfl) ?_
      replace hF := eg_bind hF; obtain ⟨h17, e18, hF⟩ := hF
      refine eg_callV (c := 1) (n := 4) [.int v6, .int v9, .int v12, .int v15] dX1_copyFrom_40 (mX1_add e18) rfl (fX1_add_O e18) (Nat.le_of_ble_eq_true rfl) rfl ew_1343 ew_1243 ew_1244 ew_105 ew_1245 hy_X1_add rfl (Nat.le_of_ble_eq_true rfl) (Nat.le_of_ble_eq_true rfl) (Nat.le_of_ble_eq_true rfl) ?_
      refine eg_iinc (i := 2) (v := (l2 + (1 : Int32))) 2 [(2, .int (l2 + (1 : Int32))), (0, .ref l0), (1, .ref l1)] dX1_copyFrom_43 rfl rfl (Nat.le_of_ble_eq_true rfl) rfl ?_
      refine eg_goto 7 dX1_copyFrom_46 rfl ?_
      exact eg_sub [1, 2, 0] [(0, .ref l0), (1, .ref l1), (2, .int (l2 + (1 : Int32)))] rfl (hrec h17 l0 l1 (l2 + (1 : Int32)) hF)
def fX1_copyFrom (h : eg_H) (l0 : Nat) (l1 : Nat) : Option (eg_H) :=
  if eg_isO h 1 l0 then (
    (eg_pI h 1 2 l0 (0 : Int32)).bind fun h1 =>
    (fX1_copyFrom_L7 eg_F h1 l0 l1 (0 : Int32)).bind fun e =>
    match e with
    | h5 =>
      some h5) else none
theorem fX1_copyFrom_O {h : eg_H} {l0 : Nat} {l1 : Nat} {hE : eg_H} (hF : fX1_copyFrom h l0 l1 = some hE) : eg_isO h 1 l0 := (eg_ifn hF).1
set_option maxRecDepth 20000 in
theorem mX1_copyFrom {h : eg_H} {l0 : Nat} {l1 : Nat} {hE : eg_H} (hF : fX1_copyFrom h l0 l1 = some hE) : eg_Met yX1_copyFrom cX1_copyFrom 3 none 2 [.ref l0, .ref l1] h none hE := by
  refine eg_enter rfl (Nat.le_of_ble_eq_true rfl) ?_
  show eg_AW (RX1, cX1_copyFrom, 3, 2, none, "copyFrom", none) (eg_Zm none hE h) (eg_nc hE) (eg_ns hE) h 0 [(0, .ref l0), (1, .ref l1)] [] h
  replace hF := (eg_ifn hF).2
  refine eg_aload_n (i := 0) 0 dX1_copyFrom_0 rfl rfl ?_
  refine eg_iconst (v := (0 : Int32)) dX1_copyFrom_1 (by decide) ?_
  replace hF := eg_bind hF; obtain ⟨h1, e2, hF⟩ := hF
  refine eg_putI dX1_copyFrom_2 e2 (Nat.le_of_ble_eq_true rfl) (Nat.le_of_ble_eq_true rfl) rfl ew_223 (Or.inl rfl) ?_
  refine eg_iconst (v := (0 : Int32)) dX1_copyFrom_5 (by decide) ?_
  refine eg_istore_n (i := 2) [(2, .int (0 : Int32)), (0, .ref l0), (1, .ref l1)] dX1_copyFrom_6 rfl (Nat.le_of_ble_eq_true rfl) rfl ?_
  replace hF := eg_bind hF; obtain ⟨x4, e3, hF⟩ := hF
  refine eg_sub [1, 2, 0] [(0, .ref l0), (1, .ref l1), (2, .int (0 : Int32))] rfl (fX1_copyFrom_L7_ok eg_F h1 l0 l1 (0 : Int32) x4 e3 ?_)
  · intro h5 e6
    subst e6
    exact eg_vretE dX1_copyFrom_49 hF
