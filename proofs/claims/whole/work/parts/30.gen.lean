theorem dX12_isEither_0 : decode cX12_isEither 0 = .ok (.iload_n 0, 1) := by decide +kernel
theorem dX12_isEither_1 : decode cX12_isEither 1 = .ok (.ifCond .eq 8, 3) := by decide +kernel
theorem dX12_isEither_4 : decode cX12_isEither 4 = .ok (.iload_n 0, 1) := by decide +kernel
theorem dX12_isEither_5 : decode cX12_isEither 5 = .ok (.iconst 1, 1) := by decide +kernel
theorem dX12_isEither_6 : decode cX12_isEither 6 = .ok (.if_icmp .ne 7, 3) := by decide +kernel
theorem dX12_isEither_9 : decode cX12_isEither 9 = .ok (.iconst 1, 1) := by decide +kernel
theorem dX12_isEither_10 : decode cX12_isEither 10 = .ok (.goto 4, 3) := by decide +kernel
theorem dX12_isEither_13 : decode cX12_isEither 13 = .ok (.iconst 0, 1) := by decide +kernel
theorem dX12_isEither_14 : decode cX12_isEither 14 = .ok (.ireturn, 1) := by decide +kernel
def fX12_isEither (h : eg_H) (l0 : Int32) : Option (Int32 × eg_H) :=
  if l0 = 0 then
    (some ((1 : Int32), h))
  else
    if l0 = (1 : Int32) then
      (some ((1 : Int32), h))
    else
      some ((0 : Int32), h)
set_option maxRecDepth 20000 in
theorem mX12_isEither {h : eg_H} {l0 : Int32} {rE : Int32} {hE : eg_H} (hF : fX12_isEither h l0 = some (rE, hE)) : eg_Met yX12_isEither cX12_isEither 1 (some .boolean) 1 [.int l0] h (some (.int rE)) hE := by
  refine eg_enter rfl (Nat.le_of_ble_eq_true rfl) ?_
  show eg_AW (RX12, cX12_isEither, 1, 1, none, "isEither", (some .boolean)) (eg_Zm (some (.int rE)) hE h) (eg_nc hE) (eg_ns hE) h 0 [(0, .int l0)] [] h
  refine eg_iload_n (i := 0) 0 dX12_isEither_0 rfl rfl ?_
  refine eg_if_eq 9 dX12_isEither_1 rfl (fun c1 => ?_) (fun c1 => ?_)
  · replace hF := eg_it c1 hF
    refine eg_iconst (v := (1 : Int32)) dX12_isEither_9 (by decide) ?_
    refine eg_goto 14 dX12_isEither_10 rfl ?_
    exact eg_zretE dX12_isEither_14 (Or.inr rfl) hF
  · replace hF := eg_if c1 hF
    refine eg_iload_n (i := 0) 0 dX12_isEither_4 rfl rfl ?_
    refine eg_iconst (v := (1 : Int32)) dX12_isEither_5 (by decide) ?_
    refine eg_ic_ne 13 dX12_isEither_6 rfl (fun c2 => ?_) (fun c2 => ?_)
    · replace hF := eg_it c2 hF
      refine eg_iconst (v := (1 : Int32)) dX12_isEither_9 (by decide) ?_
      refine eg_goto 14 dX12_isEither_10 rfl ?_
      exact eg_zretE dX12_isEither_14 (Or.inr rfl) hF
    · replace hF := eg_if c2 hF
      refine eg_iconst (v := (0 : Int32)) dX12_isEither_13 (by decide) ?_
      exact eg_zretE dX12_isEither_14 (Or.inl rfl) hF
theorem dX12_goAlong_0 : decode cX12_goAlong 0 = .ok (.aload_n 0, 1) := by decide +kernel
theorem dX12_goAlong_1 : decode cX12_goAlong 1 = .ok (.getfield 107, 3) := by decide +kernel
theorem dX12_goAlong_4 : decode cX12_goAlong 4 = .ok (.iload_n 1, 1) := by decide +kernel
theorem dX12_goAlong_5 : decode cX12_goAlong 5 = .ok (.ifCond .lt 16, 3) := by decide +kernel
theorem dX12_goAlong_8 : decode cX12_goAlong 8 = .ok (.iload_n 1, 1) := by decide +kernel
theorem dX12_goAlong_9 : decode cX12_goAlong 9 = .ok (.aload_n 0, 1) := by decide +kernel
theorem dX12_goAlong_10 : decode cX12_goAlong 10 = .ok (.getfield 107, 3) := by decide +kernel
theorem dX12_goAlong_13 : decode cX12_goAlong 13 = .ok (.arraylength, 1) := by decide +kernel
theorem dX12_goAlong_14 : decode cX12_goAlong 14 = .ok (.if_icmp .ge 7, 3) := by decide +kernel
theorem dX12_goAlong_17 : decode cX12_goAlong 17 = .ok (.iload_n 1, 1) := by decide +kernel
theorem dX12_goAlong_18 : decode cX12_goAlong 18 = .ok (.goto 4, 3) := by decide +kernel
theorem dX12_goAlong_21 : decode cX12_goAlong 21 = .ok (.iconst 0, 1) := by decide +kernel
theorem dX12_goAlong_22 : decode cX12_goAlong 22 = .ok (.aaload, 1) := by decide +kernel
theorem dX12_goAlong_23 : decode cX12_goAlong 23 = .ok (.astore 4, 2) := by decide +kernel
theorem dX12_goAlong_25 : decode cX12_goAlong 25 = .ok (.aload 4, 2) := by decide +kernel
theorem dX12_goAlong_27 : decode cX12_goAlong 27 = .ok (.aload_n 0, 1) := by decide +kernel
theorem dX12_goAlong_28 : decode cX12_goAlong 28 = .ok (.getfield 101, 3) := by decide +kernel
theorem dX12_goAlong_31 : decode cX12_goAlong 31 = .ok (.iload_n 2, 1) := by decide +kernel
theorem dX12_goAlong_32 : decode cX12_goAlong 32 = .ok (.iload_n 3, 1) := by decide +kernel
theorem dX12_goAlong_33 : decode cX12_goAlong 33 = .ok (.aload_n 0, 1) := by decide +kernel
theorem dX12_goAlong_34 : decode cX12_goAlong 34 = .ok (.getfield 35, 3) := by decide +kernel
theorem dX12_goAlong_37 : decode cX12_goAlong 37 = .ok (.iconst 2, 1) := by decide +kernel
theorem dX12_goAlong_38 : decode cX12_goAlong 38 = .ok (.invokevirtual 209, 3) := by decide +kernel
theorem dX12_goAlong_41 : decode cX12_goAlong 41 = .ok (.aload_n 0, 1) := by decide +kernel
theorem dX12_goAlong_42 : decode cX12_goAlong 42 = .ok (.getfield 35, 3) := by decide +kernel
theorem dX12_goAlong_45 : decode cX12_goAlong 45 = .ok (.iconst 0, 1) := by decide +kernel
theorem dX12_goAlong_46 : decode cX12_goAlong 46 = .ok (.invokevirtual 209, 3) := by decide +kernel
theorem dX12_goAlong_49 : decode cX12_goAlong 49 = .ok (.invokevirtual 331, 3) := by decide +kernel
theorem dX12_goAlong_52 : decode cX12_goAlong 52 = .ok (.aload 4, 2) := by decide +kernel
theorem dX12_goAlong_54 : decode cX12_goAlong 54 = .ok (.areturn, 1) := by decide +kernel
def fX12_goAlong_j22 (h : eg_H) (l0 : Nat) (l2 : Int32) (l3 : Int32) (s0 : Nat) (s1 : Int32) : Option (Nat × eg_H) :=
  (eg_aR h 112 s0 s1).bind fun p1 =>
  (eg_gR h 12 16 l0).bind fun p3 =>
  (eg_gR h 12 3 l0).bind fun p5 =>
  (fX7_told h p5 (2 : Int32)).bind fun ⟨v8, h7⟩ =>
  (eg_gR h7 12 3 l0).bind fun p10 =>
  (fX7_told h7 p10 (0 : Int32)).bind fun ⟨v13, h12⟩ =>
  (fX2_fill h12 p1 p3 l2 l3 v8 v13).bind fun h15 =>
  some (p1, h15)
set_option maxRecDepth 20000 in
theorem fX12_goAlong_j22_ok {h0 : eg_H} (h : eg_H) (l0 : Nat) (l2 : Int32) (l3 : Int32) (s0 : Nat) (s1 : Int32) {rE : Nat} {hE : eg_H} (hF : fX12_goAlong_j22 h l0 l2 l3 s0 s1 = some (rE, hE)) : eg_AW (RX12, cX12_goAlong, 5, 7, none, "goAlong", (some (.object "EggThrow$Course"))) (eg_Zm (some (.ref rE)) hE h0) (eg_nc hE) (eg_ns hE) h0 22 [(0, .ref l0), (2, .int l2), (3, .int l3)] [.int s1, .ref s0] h := by
  replace hF := eg_bind hF; obtain ⟨p1, e2, hF⟩ := hF
  refine eg_aaldr (c := 2) dX12_goAlong_22 e2 (Nat.le_of_ble_eq_true rfl) (Nat.le_of_ble_eq_true rfl) ?_
  refine eg_astore (i := 4) [(4, .ref p1), (0, .ref l0), (2, .int l2), (3, .int l3)] dX12_goAlong_23 (Nat.le_of_ble_eq_true rfl) rfl ?_
  refine eg_aload (i := 4) 0 dX12_goAlong_25 rfl ?_
  refine eg_aload_n (i := 0) 1 dX12_goAlong_27 rfl rfl ?_
  replace hF := eg_bind hF; obtain ⟨p3, e4, hF⟩ := hF
  refine eg_getR dX12_goAlong_28 e4 (Nat.le_of_ble_eq_true rfl) (Nat.le_of_ble_eq_true rfl) rfl ew_372 ?_
  refine eg_iload_n (i := 2) 2 dX12_goAlong_31 rfl rfl ?_
  refine eg_iload_n (i := 3) 3 dX12_goAlong_32 rfl rfl ?_
  refine eg_aload_n (i := 0) 1 dX12_goAlong_33 rfl rfl ?_
  replace hF := eg_bind hF; obtain ⟨p5, e6, hF⟩ := hF
  refine eg_getR dX12_goAlong_34 e6 (Nat.le_of_ble_eq_true rfl) (Nat.le_of_ble_eq_true rfl) rfl ew_359 ?_
  refine eg_iconst (v := (2 : Int32)) dX12_goAlong_37 (by decide) ?_
  replace hF := eg_bind hF; obtain ⟨⟨v8, h7⟩, e9, hF⟩ := hF
  refine eg_callV (c := 7) (n := 1) [.int (2 : Int32)] dX12_goAlong_38 (mX7_told e9) rfl (fX7_told_O e9) (Nat.le_of_ble_eq_true rfl) rfl ew_717 ew_718 ew_719 ew_104 ew_720 hy_X7_told rfl (Nat.le_of_ble_eq_true rfl) (Nat.le_of_ble_eq_true rfl) (Nat.le_of_ble_eq_true rfl) ?_
  refine eg_aload_n (i := 0) 1 dX12_goAlong_41 rfl rfl ?_
  replace hF := eg_bind hF; obtain ⟨p10, e11, hF⟩ := hF
  refine eg_getR dX12_goAlong_42 e11 (Nat.le_of_ble_eq_true rfl) (Nat.le_of_ble_eq_true rfl) rfl ew_359 ?_
  refine eg_iconst (v := (0 : Int32)) dX12_goAlong_45 (by decide) ?_
  replace hF := eg_bind hF; obtain ⟨⟨v13, h12⟩, e14, hF⟩ := hF
  refine eg_callV (c := 7) (n := 1) [.int (0 : Int32)] dX12_goAlong_46 (mX7_told e14) rfl (fX7_told_O e14) (Nat.le_of_ble_eq_true rfl) rfl ew_717 ew_718 ew_719 ew_104 ew_720 hy_X7_told rfl (Nat.le_of_ble_eq_true rfl) (Nat.le_of_ble_eq_true rfl) (Nat.le_of_ble_eq_true rfl) ?_
  replace hF := eg_bind hF; obtain ⟨h15, e16, hF⟩ := hF
  refine eg_callV (c := 2) (n := 5) [.ref p3, .int l2, .int l3, .int v8, .int v13] dX12_goAlong_49 (mX2_fill e16) rfl (fX2_fill_O e16) (Nat.le_of_ble_eq_true rfl) rfl ew_948 ew_949 ew_950 ew_108 ew_951 hy_X2_fill rfl (Nat.le_of_ble_eq_true rfl) (Nat.le_of_ble_eq_true rfl) (Nat.le_of_ble_eq_true rfl) ?_
  refine eg_aload (i := 4) 0 dX12_goAlong_52 rfl ?_
  exact eg_aretR dX12_goAlong_54 (Or.inl ⟨_, rfl⟩) hF
def fX12_goAlong_j21 (h : eg_H) (l0 : Nat) (l2 : Int32) (l3 : Int32) (s0 : Nat) : Option (Nat × eg_H) :=
  fX12_goAlong_j22 h l0 l2 l3 s0 (0 : Int32)
set_option maxRecDepth 20000 in
theorem fX12_goAlong_j21_ok {h0 : eg_H} (h : eg_H) (l0 : Nat) (l2 : Int32) (l3 : Int32) (s0 : Nat) {rE : Nat} {hE : eg_H} (hF : fX12_goAlong_j21 h l0 l2 l3 s0 = some (rE, hE)) : eg_AW (RX12, cX12_goAlong, 5, 7, none, "goAlong", (some (.object "EggThrow$Course"))) (eg_Zm (some (.ref rE)) hE h0) (eg_nc hE) (eg_ns hE) h0 21 [(0, .ref l0), (2, .int l2), (3, .int l3)] [.ref s0] h := by
  refine eg_iconst (v := (0 : Int32)) dX12_goAlong_21 (by decide) ?_
  exact (fX12_goAlong_j22_ok h l0 l2 l3 s0 (0 : Int32) hF)
def fX12_goAlong (h : eg_H) (l0 : Nat) (l1 : Int32) (l2 : Int32) (l3 : Int32) : Option (Nat × eg_H) :=
  if eg_isO h 12 l0 then (
    (eg_gR h 12 17 l0).bind fun p1 =>
    if l1 < 0 then
      (fX12_goAlong_j21 h l0 l2 l3 p1)
    else
      (eg_gR h 12 17 l0).bind fun p4 =>
      (eg_al h p4).bind fun v6 =>
      if v6 ≤ l1 then
        (fX12_goAlong_j21 h l0 l2 l3 p1)
      else
        fX12_goAlong_j22 h l0 l2 l3 p1 l1) else none
theorem fX12_goAlong_O {h : eg_H} {l0 : Nat} {l1 : Int32} {l2 : Int32} {l3 : Int32} {rE : Nat} {hE : eg_H} (hF : fX12_goAlong h l0 l1 l2 l3 = some (rE, hE)) : eg_isO h 12 l0 := (eg_ifn hF).1
set_option maxRecDepth 20000 in
theorem mX12_goAlong {h : eg_H} {l0 : Nat} {l1 : Int32} {l2 : Int32} {l3 : Int32} {rE : Nat} {hE : eg_H} (hF : fX12_goAlong h l0 l1 l2 l3 = some (rE, hE)) : eg_Met yX12_goAlong cX12_goAlong 5 (some (.object "EggThrow$Course")) 7 [.ref l0, .int l1, .int l2, .int l3] h (some (.ref rE)) hE := by
  refine eg_enter rfl (Nat.le_of_ble_eq_true rfl) ?_
  show eg_AW (RX12, cX12_goAlong, 5, 7, none, "goAlong", (some (.object "EggThrow$Course"))) (eg_Zm (some (.ref rE)) hE h) (eg_nc hE) (eg_ns hE) h 0 [(0, .ref l0), (1, .int l1), (2, .int l2), (3, .int l3)] [] h
  replace hF := (eg_ifn hF).2
  refine eg_aload_n (i := 0) 0 dX12_goAlong_0 rfl rfl ?_
  replace hF := eg_bind hF; obtain ⟨p1, e2, hF⟩ := hF
  refine eg_getR dX12_goAlong_1 e2 (Nat.le_of_ble_eq_true rfl) (Nat.le_of_ble_eq_true rfl) rfl ew_373 ?_
  refine eg_iload_n (i := 1) 1 dX12_goAlong_4 rfl rfl ?_
  refine eg_if_lt 21 dX12_goAlong_5 rfl (fun c3 => ?_) (fun c3 => ?_)
  · replace hF := eg_it c3 hF
    exact eg_sub [0, 2, 3] [(0, .ref l0), (2, .int l2), (3, .int l3)] rfl (fX12_goAlong_j21_ok h l0 l2 l3 p1 hF)
  · replace hF := eg_if c3 hF
    refine eg_iload_n (i := 1) 1 dX12_goAlong_8 rfl rfl ?_
    refine eg_aload_n (i := 0) 0 dX12_goAlong_9 rfl rfl ?_
    replace hF := eg_bind hF; obtain ⟨p4, e5, hF⟩ := hF
    refine eg_getR dX12_goAlong_10 e5 (Nat.le_of_ble_eq_true rfl) (Nat.le_of_ble_eq_true rfl) rfl ew_373 ?_
    replace hF := eg_bind hF; obtain ⟨v6, e7, hF⟩ := hF
    refine eg_alen dX12_goAlong_13 e7 ?_
    refine eg_ic_ge 21 dX12_goAlong_14 rfl (fun c8 => ?_) (fun c8 => ?_)
    · replace hF := eg_it c8 hF
      exact eg_sub [0, 2, 3] [(0, .ref l0), (2, .int l2), (3, .int l3)] rfl (fX12_goAlong_j21_ok h l0 l2 l3 p1 hF)
    · replace hF := eg_if c8 hF
      refine eg_iload_n (i := 1) 1 dX12_goAlong_17 rfl rfl ?_
      refine eg_goto 22 dX12_goAlong_18 rfl ?_
      exact eg_sub [0, 2, 3] [(0, .ref l0), (2, .int l2), (3, .int l3)] rfl (fX12_goAlong_j22_ok h l0 l2 l3 p1 l1 hF)
theorem dX12_comes_0 : decode cX12_comes 0 = .ok (.aload_n 0, 1) := by decide +kernel
theorem dX12_comes_1 : decode cX12_comes 1 = .ok (.iload_n 1, 1) := by decide +kernel
theorem dX12_comes_2 : decode cX12_comes 2 = .ok (.iload_n 2, 1) := by decide +kernel
theorem dX12_comes_3 : decode cX12_comes 3 = .ok (.invokevirtual 269, 3) := by decide +kernel
theorem dX12_comes_6 : decode cX12_comes 6 = .ok (.ifCond .eq 7, 3) := by decide +kernel
theorem dX12_comes_9 : decode cX12_comes 9 = .ok (.iload_n 3, 1) := by decide +kernel
theorem dX12_comes_10 : decode cX12_comes 10 = .ok (.ifCond .ge 5, 3) := by decide +kernel
theorem dX12_comes_13 : decode cX12_comes 13 = .ok (.iconst (-1), 1) := by decide +kernel
theorem dX12_comes_14 : decode cX12_comes 14 = .ok (.ireturn, 1) := by decide +kernel
theorem dX12_comes_15 : decode cX12_comes 15 = .ok (.aload_n 0, 1) := by decide +kernel
theorem dX12_comes_16 : decode cX12_comes 16 = .ok (.iconst 0, 1) := by decide +kernel
theorem dX12_comes_17 : decode cX12_comes 17 = .ok (.iload_n 1, 1) := by decide +kernel
theorem dX12_comes_18 : decode cX12_comes 18 = .ok (.iload_n 2, 1) := by decide +kernel
theorem dX12_comes_19 : decode cX12_comes 19 = .ok (.invokevirtual 304, 3) := by decide +kernel
theorem dX12_comes_22 : decode cX12_comes 22 = .ok (.iload_n 3, 1) := by decide +kernel
theorem dX12_comes_23 : decode cX12_comes 23 = .ok (.invokevirtual 308, 3) := by decide +kernel
theorem dX12_comes_26 : decode cX12_comes 26 = .ok (.ireturn, 1) := by decide +kernel
def fX12_comes (h : eg_H) (l0 : Nat) (l1 : Int32) (l2 : Int32) (l3 : Int32) : Option (Int32 × eg_H) :=
  if eg_isO h 12 l0 then (
    (fX12_isCourse h l0 l1 l2).bind fun ⟨v2, h1⟩ =>
    if v2 = 0 then
      (some ((-1 : Int32), h1))
    else
      if 0 ≤ l3 then
        ((fX12_goAlong h1 l0 (0 : Int32) l1 l2).bind fun ⟨p7, h6⟩ =>
        (fX2_comesTo h6 p7 l3).bind fun ⟨v10, h9⟩ =>
        some (v10, h9))
      else
        some ((-1 : Int32), h1)) else none
theorem fX12_comes_O {h : eg_H} {l0 : Nat} {l1 : Int32} {l2 : Int32} {l3 : Int32} {rE : Int32} {hE : eg_H} (hF : fX12_comes h l0 l1 l2 l3 = some (rE, hE)) : eg_isO h 12 l0 := (eg_ifn hF).1
set_option maxRecDepth 20000 in
theorem mX12_comes {h : eg_H} {l0 : Nat} {l1 : Int32} {l2 : Int32} {l3 : Int32} {rE : Int32} {hE : eg_H} (hF : fX12_comes h l0 l1 l2 l3 = some (rE, hE)) : eg_Met yX12_comes cX12_comes 4 (some .int) 8 [.ref l0, .int l1, .int l2, .int l3] h (some (.int rE)) hE := by
  refine eg_enter rfl (Nat.le_of_ble_eq_true rfl) ?_
  show eg_AW (RX12, cX12_comes, 4, 8, none, "comes", (some .int)) (eg_Zm (some (.int rE)) hE h) (eg_nc hE) (eg_ns hE) h 0 [(0, .ref l0), (1, .int l1), (2, .int l2), (3, .int l3)] [] h
  replace hF := (eg_ifn hF).2
  refine eg_aload_n (i := 0) 0 dX12_comes_0 rfl rfl ?_
  refine eg_iload_n (i := 1) 1 dX12_comes_1 rfl rfl ?_
  refine eg_iload_n (i := 2) 2 dX12_comes_2 rfl rfl ?_
  replace hF := eg_bind hF; obtain ⟨⟨v2, h1⟩, e3, hF⟩ := hF
  refine eg_callV (c := 12) (n := 2) [.int l1, .int l2] dX12_comes_3 (mX12_isCourse e3) rfl (fX12_isCourse_O e3) (Nat.le_of_ble_eq_true rfl) rfl ew_786 ew_788 ew_24 ew_100 ew_789 hy_X12_isCourse rfl (Nat.le_of_ble_eq_true rfl) (Nat.le_of_ble_eq_true rfl) (Nat.le_of_ble_eq_true rfl) ?_
  refine eg_if_eq 13 dX12_comes_6 rfl (fun c4 => ?_) (fun c4 => ?_)
  · replace hF := eg_it c4 hF
    refine eg_iconst (v := (-1 : Int32)) dX12_comes_13 (by decide) ?_
    exact eg_iretE dX12_comes_14 hF
  · replace hF := eg_if c4 hF
    refine eg_iload_n (i := 3) 3 dX12_comes_9 rfl rfl ?_
    refine eg_if_ge 15 dX12_comes_10 rfl (fun c5 => ?_) (fun c5 => ?_)
    · replace hF := eg_it c5 hF
      refine eg_aload_n (i := 0) 0 dX12_comes_15 rfl rfl ?_
      refine eg_iconst (v := (0 : Int32)) dX12_comes_16 (by decide) ?_
      refine eg_iload_n (i := 1) 1 dX12_comes_17 rfl rfl ?_
      refine eg_iload_n (i := 2) 2 dX12_comes_18 rfl rfl ?_
      replace hF := eg_bind hF; obtain ⟨⟨p7, h6⟩, e8, hF⟩ := hF
      refine eg_callV (c := 12) (n := 3) [.int (0 : Int32), .int l1, .int l2] dX12_comes_19 (mX12_goAlong e8) rfl (fX12_goAlong_O e8) (Nat.le_of_ble_eq_true rfl) rfl ew_944 ew_946 ew_29 ew_100 ew_947 hy_X12_goAlong rfl (Nat.le_of_ble_eq_true rfl) (Nat.le_of_ble_eq_true rfl) (Nat.le_of_ble_eq_true rfl) ?_
      refine eg_iload_n (i := 3) 3 dX12_comes_22 rfl rfl ?_
      replace hF := eg_bind hF; obtain ⟨⟨v10, h9⟩, e11, hF⟩ := hF
      refine eg_callV (c := 2) (n := 1) [.int l3] dX12_comes_23 (mX2_comesTo e11) rfl (fX2_comesTo_O e11) (Nat.le_of_ble_eq_true rfl) rfl ew_968 ew_969 ew_970 ew_108 ew_971 hy_X2_comesTo rfl (Nat.le_of_ble_eq_true rfl) (Nat.le_of_ble_eq_true rfl) (Nat.le_of_ble_eq_true rfl) ?_
      exact eg_iretE dX12_comes_26 hF
    · replace hF := eg_if c5 hF
      refine eg_iconst (v := (-1 : Int32)) dX12_comes_13 (by decide) ?_
      exact eg_iretE dX12_comes_14 hF
theorem dX12_far_0 : decode cX12_far 0 = .ok (.aload_n 0, 1) := by decide +kernel
theorem dX12_far_1 : decode cX12_far 1 = .ok (.iload_n 1, 1) := by decide +kernel
theorem dX12_far_2 : decode cX12_far 2 = .ok (.iload_n 2, 1) := by decide +kernel
theorem dX12_far_3 : decode cX12_far 3 = .ok (.invokevirtual 269, 3) := by decide +kernel
theorem dX12_far_6 : decode cX12_far 6 = .ok (.ifCond .ne 5, 3) := by decide +kernel
theorem dX12_far_9 : decode cX12_far 9 = .ok (.iconst (-1), 1) := by decide +kernel
theorem dX12_far_10 : decode cX12_far 10 = .ok (.ireturn, 1) := by decide +kernel
theorem dX12_far_11 : decode cX12_far 11 = .ok (.aload_n 0, 1) := by decide +kernel
theorem dX12_far_12 : decode cX12_far 12 = .ok (.iconst 0, 1) := by decide +kernel
theorem dX12_far_13 : decode cX12_far 13 = .ok (.iload_n 1, 1) := by decide +kernel
theorem dX12_far_14 : decode cX12_far 14 = .ok (.iload_n 2, 1) := by decide +kernel
theorem dX12_far_15 : decode cX12_far 15 = .ok (.invokevirtual 304, 3) := by decide +kernel
theorem dX12_far_18 : decode cX12_far 18 = .ok (.invokevirtual 311, 3) := by decide +kernel
theorem dX12_far_21 : decode cX12_far 21 = .ok (.ireturn, 1) := by decide +kernel
def fX12_far (h : eg_H) (l0 : Nat) (l1 : Int32) (l2 : Int32) : Option (Int32 × eg_H) :=
  if eg_isO h 12 l0 then (
    (fX12_isCourse h l0 l1 l2).bind fun ⟨v2, h1⟩ =>
    if v2 = 0 then
      (some ((-1 : Int32), h1))
    else
      (fX12_goAlong h1 l0 (0 : Int32) l1 l2).bind fun ⟨p6, h5⟩ =>
      (fX2_reach h5 p6).bind fun ⟨v9, h8⟩ =>
      some (v9, h8)) else none
theorem fX12_far_O {h : eg_H} {l0 : Nat} {l1 : Int32} {l2 : Int32} {rE : Int32} {hE : eg_H} (hF : fX12_far h l0 l1 l2 = some (rE, hE)) : eg_isO h 12 l0 := (eg_ifn hF).1
set_option maxRecDepth 20000 in
theorem mX12_far {h : eg_H} {l0 : Nat} {l1 : Int32} {l2 : Int32} {rE : Int32} {hE : eg_H} (hF : fX12_far h l0 l1 l2 = some (rE, hE)) : eg_Met yX12_far cX12_far 3 (some .int) 8 [.ref l0, .int l1, .int l2] h (some (.int rE)) hE := by
  refine eg_enter rfl (Nat.le_of_ble_eq_true rfl) ?_
  show eg_AW (RX12, cX12_far, 3, 8, none, "far", (some .int)) (eg_Zm (some (.int rE)) hE h) (eg_nc hE) (eg_ns hE) h 0 [(0, .ref l0), (1, .int l1), (2, .int l2)] [] h
  replace hF := (eg_ifn hF).2
  refine eg_aload_n (i := 0) 0 dX12_far_0 rfl rfl ?_
  refine eg_iload_n (i := 1) 1 dX12_far_1 rfl rfl ?_
  refine eg_iload_n (i := 2) 2 dX12_far_2 rfl rfl ?_
  replace hF := eg_bind hF; obtain ⟨⟨v2, h1⟩, e3, hF⟩ := hF
  refine eg_callV (c := 12) (n := 2) [.int l1, .int l2] dX12_far_3 (mX12_isCourse e3) rfl (fX12_isCourse_O e3) (Nat.le_of_ble_eq_true rfl) rfl ew_786 ew_788 ew_24 ew_100 ew_789 hy_X12_isCourse rfl (Nat.le_of_ble_eq_true rfl) (Nat.le_of_ble_eq_true rfl) (Nat.le_of_ble_eq_true rfl) ?_
  refine eg_if_ne 11 dX12_far_6 rfl (fun c4 => ?_) (fun c4 => ?_)
  · replace hF := eg_it c4 hF
    refine eg_iconst (v := (-1 : Int32)) dX12_far_9 (by decide) ?_
    exact eg_iretE dX12_far_10 hF
  · replace hF := eg_if c4 hF
    refine eg_aload_n (i := 0) 0 dX12_far_11 rfl rfl ?_
    refine eg_iconst (v := (0 : Int32)) dX12_far_12 (by decide) ?_
    refine eg_iload_n (i := 1) 1 dX12_far_13 rfl rfl ?_
    refine eg_iload_n (i := 2) 2 dX12_far_14 rfl rfl ?_
    replace hF := eg_bind hF; obtain ⟨⟨p6, h5⟩, e7, hF⟩ := hF
    refine eg_callV (c := 12) (n := 3) [.int (0 : Int32), .int l1, .int l2] dX12_far_15 (mX12_goAlong e7) rfl (fX12_goAlong_O e7) (Nat.le_of_ble_eq_true rfl) rfl ew_944 ew_946 ew_29 ew_100 ew_947 hy_X12_goAlong rfl (Nat.le_of_ble_eq_true rfl) (Nat.le_of_ble_eq_true rfl) (Nat.le_of_ble_eq_true rfl) ?_
    replace hF := eg_bind hF; obtain ⟨⟨v9, h8⟩, e10, hF⟩ := hF
    refine eg_callV (c := 2) (n := 0) [] dX12_far_18 (mX2_reach e10) rfl (fX2_reach_O e10) (Nat.le_of_ble_eq_true rfl) rfl ew_976 ew_977 ew_978 ew_108 ew_979 hy_X2_reach rfl (Nat.le_of_ble_eq_true rfl) (Nat.le_of_ble_eq_true rfl) (Nat.le_of_ble_eq_true rfl) ?_
    exact eg_iretE dX12_far_21 hF
theorem dX12_hope_0 : decode cX12_hope 0 = .ok (.aload_n 0, 1) := by decide +kernel
theorem dX12_hope_1 : decode cX12_hope 1 = .ok (.iload_n 1, 1) := by decide +kernel
theorem dX12_hope_2 : decode cX12_hope 2 = .ok (.iload_n 2, 1) := by decide +kernel
theorem dX12_hope_3 : decode cX12_hope 3 = .ok (.invokevirtual 269, 3) := by decide +kernel
theorem dX12_hope_6 : decode cX12_hope 6 = .ok (.ifCond .ne 7, 3) := by decide +kernel
theorem dX12_hope_9 : decode cX12_hope 9 = .ok (.ldc2_w 314, 3) := by decide +kernel
theorem dX12_hope_12 : decode cX12_hope 12 = .ok (.lreturn, 1) := by decide +kernel
theorem dX12_hope_13 : decode cX12_hope 13 = .ok (.aload_n 0, 1) := by decide +kernel
theorem dX12_hope_14 : decode cX12_hope 14 = .ok (.iconst 0, 1) := by decide +kernel
theorem dX12_hope_15 : decode cX12_hope 15 = .ok (.iload_n 1, 1) := by decide +kernel
theorem dX12_hope_16 : decode cX12_hope 16 = .ok (.iload_n 2, 1) := by decide +kernel
theorem dX12_hope_17 : decode cX12_hope 17 = .ok (.invokevirtual 304, 3) := by decide +kernel
theorem dX12_hope_20 : decode cX12_hope 20 = .ok (.invokevirtual 316, 3) := by decide +kernel
theorem dX12_hope_23 : decode cX12_hope 23 = .ok (.lreturn, 1) := by decide +kernel
def fX12_hope (h : eg_H) (l0 : Nat) (l1 : Int32) (l2 : Int32) : Option (Int64 × eg_H) :=
  if eg_isO h 12 l0 then (
    (fX12_isCourse h l0 l1 l2).bind fun ⟨v2, h1⟩ =>
    if v2 = 0 then
      (some ((-1 : Int64), h1))
    else
      (fX12_goAlong h1 l0 (0 : Int32) l1 l2).bind fun ⟨p6, h5⟩ =>
      (fX2_hopes h5 p6).bind fun ⟨v9, h8⟩ =>
      some (v9, h8)) else none
theorem fX12_hope_O {h : eg_H} {l0 : Nat} {l1 : Int32} {l2 : Int32} {rE : Int64} {hE : eg_H} (hF : fX12_hope h l0 l1 l2 = some (rE, hE)) : eg_isO h 12 l0 := (eg_ifn hF).1
set_option maxRecDepth 20000 in
theorem mX12_hope {h : eg_H} {l0 : Nat} {l1 : Int32} {l2 : Int32} {rE : Int64} {hE : eg_H} (hF : fX12_hope h l0 l1 l2 = some (rE, hE)) : eg_Met yX12_hope cX12_hope 3 (some .long) 8 [.ref l0, .int l1, .int l2] h (some (.long rE)) hE := by
  refine eg_enter rfl (Nat.le_of_ble_eq_true rfl) ?_
  show eg_AW (RX12, cX12_hope, 3, 8, none, "hope", (some .long)) (eg_Zm (some (.long rE)) hE h) (eg_nc hE) (eg_ns hE) h 0 [(0, .ref l0), (1, .int l1), (2, .int l2)] [] h
  replace hF := (eg_ifn hF).2
  refine eg_aload_n (i := 0) 0 dX12_hope_0 rfl rfl ?_
  refine eg_iload_n (i := 1) 1 dX12_hope_1 rfl rfl ?_
  refine eg_iload_n (i := 2) 2 dX12_hope_2 rfl rfl ?_
  replace hF := eg_bind hF; obtain ⟨⟨v2, h1⟩, e3, hF⟩ := hF
  refine eg_callV (c := 12) (n := 2) [.int l1, .int l2] dX12_hope_3 (mX12_isCourse e3) rfl (fX12_isCourse_O e3) (Nat.le_of_ble_eq_true rfl) rfl ew_786 ew_788 ew_24 ew_100 ew_789 hy_X12_isCourse rfl (Nat.le_of_ble_eq_true rfl) (Nat.le_of_ble_eq_true rfl) (Nat.le_of_ble_eq_true rfl) ?_
  refine eg_if_ne 13 dX12_hope_6 rfl (fun c4 => ?_) (fun c4 => ?_)
  · replace hF := eg_it c4 hF
    refine eg_ldc2 (v := (-1 : Int64)) dX12_hope_9 ew_984 ?_
    exact eg_lretE dX12_hope_12 hF
  · replace hF := eg_if c4 hF
    refine eg_aload_n (i := 0) 0 dX12_hope_13 rfl rfl ?_
    refine eg_iconst (v := (0 : Int32)) dX12_hope_14 (by decide) ?_
    refine eg_iload_n (i := 1) 1 dX12_hope_15 rfl rfl ?_
    refine eg_iload_n (i := 2) 2 dX12_hope_16 rfl rfl ?_
    replace hF := eg_bind hF; obtain ⟨⟨p6, h5⟩, e7, hF⟩ := hF
    refine eg_callV (c := 12) (n := 3) [.int (0 : Int32), .int l1, .int l2] dX12_hope_17 (mX12_goAlong e7) rfl (fX12_goAlong_O e7) (Nat.le_of_ble_eq_true rfl) rfl ew_944 ew_946 ew_29 ew_100 ew_947 hy_X12_goAlong rfl (Nat.le_of_ble_eq_true rfl) (Nat.le_of_ble_eq_true rfl) (Nat.le_of_ble_eq_true rfl) ?_
    replace hF := eg_bind hF; obtain ⟨⟨v9, h8⟩, e10, hF⟩ := hF
    refine eg_callV (c := 2) (n := 0) [] dX12_hope_20 (mX2_hopes e10) rfl (fX2_hopes_O e10) (Nat.le_of_ble_eq_true rfl) rfl ew_985 ew_986 ew_987 ew_108 ew_988 hy_X2_hopes rfl (Nat.le_of_ble_eq_true rfl) (Nat.le_of_ble_eq_true rfl) (Nat.le_of_ble_eq_true rfl) ?_
    exact eg_lretE dX12_hope_23 hF
theorem dX12_first_0 : decode cX12_first 0 = .ok (.aload_n 0, 1) := by decide +kernel
theorem dX12_first_1 : decode cX12_first 1 = .ok (.getfield 35, 3) := by decide +kernel
theorem dX12_first_4 : decode cX12_first 4 = .ok (.iload_n 1, 1) := by decide +kernel
theorem dX12_first_5 : decode cX12_first 5 = .ok (.invokevirtual 284, 3) := by decide +kernel
theorem dX12_first_8 : decode cX12_first 8 = .ok (.ifCond .eq 21, 3) := by decide +kernel
theorem dX12_first_11 : decode cX12_first 11 = .ok (.aload_n 0, 1) := by decide +kernel
theorem dX12_first_12 : decode cX12_first 12 = .ok (.getfield 35, 3) := by decide +kernel
theorem dX12_first_15 : decode cX12_first 15 = .ok (.iload_n 2, 1) := by decide +kernel
theorem dX12_first_16 : decode cX12_first 16 = .ok (.invokevirtual 182, 3) := by decide +kernel
theorem dX12_first_19 : decode cX12_first 19 = .ok (.ifCond .eq 10, 3) := by decide +kernel
theorem dX12_first_22 : decode cX12_first 22 = .ok (.iload_n 3, 1) := by decide +kernel
theorem dX12_first_23 : decode cX12_first 23 = .ok (.invokestatic 320, 3) := by decide +kernel
theorem dX12_first_26 : decode cX12_first 26 = .ok (.ifCond .ne 7, 3) := by decide +kernel
theorem dX12_first_29 : decode cX12_first 29 = .ok (.ldc2_w 314, 3) := by decide +kernel
theorem dX12_first_32 : decode cX12_first 32 = .ok (.lreturn, 1) := by decide +kernel
theorem dX12_first_33 : decode cX12_first 33 = .ok (.iload_n 1, 1) := by decide +kernel
theorem dX12_first_34 : decode cX12_first 34 = .ok (.bipush 10, 2) := by decide +kernel
theorem dX12_first_36 : decode cX12_first 36 = .ok (.idiv, 1) := by decide +kernel
theorem dX12_first_37 : decode cX12_first 37 = .ok (.iload_n 1, 1) := by decide +kernel
theorem dX12_first_38 : decode cX12_first 38 = .ok (.bipush 10, 2) := by decide +kernel
theorem dX12_first_40 : decode cX12_first 40 = .ok (.irem, 1) := by decide +kernel
theorem dX12_first_41 : decode cX12_first 41 = .ok (.invokestatic 323, 3) := by decide +kernel
theorem dX12_first_44 : decode cX12_first 44 = .ok (.istore 4, 2) := by decide +kernel
theorem dX12_first_46 : decode cX12_first 46 = .ok (.iload_n 1, 1) := by decide +kernel
theorem dX12_first_47 : decode cX12_first 47 = .ok (.bipush 10, 2) := by decide +kernel
theorem dX12_first_49 : decode cX12_first 49 = .ok (.idiv, 1) := by decide +kernel
theorem dX12_first_50 : decode cX12_first 50 = .ok (.iload_n 1, 1) := by decide +kernel
theorem dX12_first_51 : decode cX12_first 51 = .ok (.bipush 10, 2) := by decide +kernel
theorem dX12_first_53 : decode cX12_first 53 = .ok (.irem, 1) := by decide +kernel
theorem dX12_first_54 : decode cX12_first 54 = .ok (.invokestatic 328, 3) := by decide +kernel
theorem dX12_first_57 : decode cX12_first 57 = .ok (.istore 5, 2) := by decide +kernel
theorem dX12_first_59 : decode cX12_first 59 = .ok (.ldc2_w 314, 3) := by decide +kernel
theorem dX12_first_62 : decode cX12_first 62 = .ok (.lstore 6, 2) := by decide +kernel
theorem dX12_first_64 : decode cX12_first 64 = .ok (.iconst 0, 1) := by decide +kernel
theorem dX12_first_65 : decode cX12_first 65 = .ok (.istore 8, 2) := by decide +kernel
theorem dX12_first_67 : decode cX12_first 67 = .ok (.iconst 0, 1) := by decide +kernel
theorem dX12_first_68 : decode cX12_first 68 = .ok (.istore 9, 2) := by decide +kernel
theorem dX12_first_70 : decode cX12_first 70 = .ok (.iload 9, 2) := by decide +kernel
theorem dX12_first_72 : decode cX12_first 72 = .ok (.iconst 4, 1) := by decide +kernel
theorem dX12_first_73 : decode cX12_first 73 = .ok (.if_icmp .ge 96, 3) := by decide +kernel
theorem dX12_first_76 : decode cX12_first 76 = .ok (.iload 9, 2) := by decide +kernel
theorem dX12_first_78 : decode cX12_first 78 = .ok (.iconst 2, 1) := by decide +kernel
theorem dX12_first_79 : decode cX12_first 79 = .ok (.if_icmp .ge 8, 3) := by decide +kernel
theorem dX12_first_82 : decode cX12_first 82 = .ok (.iload 4, 2) := by decide +kernel
theorem dX12_first_84 : decode cX12_first 84 = .ok (.goto 5, 3) := by decide +kernel
theorem dX12_first_87 : decode cX12_first 87 = .ok (.iload 5, 2) := by decide +kernel
theorem dX12_first_89 : decode cX12_first 89 = .ok (.istore 10, 2) := by decide +kernel
theorem dX12_first_91 : decode cX12_first 91 = .ok (.iload 9, 2) := by decide +kernel
theorem dX12_first_93 : decode cX12_first 93 = .ok (.iconst 2, 1) := by decide +kernel
theorem dX12_first_94 : decode cX12_first 94 = .ok (.if_icmp .ge 14, 3) := by decide +kernel
theorem dX12_first_97 : decode cX12_first 97 = .ok (.bipush 10, 2) := by decide +kernel
theorem dX12_first_99 : decode cX12_first 99 = .ok (.iload 4, 2) := by decide +kernel
theorem dX12_first_101 : decode cX12_first 101 = .ok (.imul, 1) := by decide +kernel
theorem dX12_first_102 : decode cX12_first 102 = .ok (.iload 5, 2) := by decide +kernel
theorem dX12_first_104 : decode cX12_first 104 = .ok (.iadd, 1) := by decide +kernel
theorem dX12_first_105 : decode cX12_first 105 = .ok (.goto 11, 3) := by decide +kernel
theorem dX12_first_108 : decode cX12_first 108 = .ok (.bipush 10, 2) := by decide +kernel
theorem dX12_first_110 : decode cX12_first 110 = .ok (.iload 5, 2) := by decide +kernel
theorem dX12_first_112 : decode cX12_first 112 = .ok (.imul, 1) := by decide +kernel
theorem dX12_first_113 : decode cX12_first 113 = .ok (.iload 4, 2) := by decide +kernel
theorem dX12_first_115 : decode cX12_first 115 = .ok (.iadd, 1) := by decide +kernel
theorem dX12_first_116 : decode cX12_first 116 = .ok (.istore 11, 2) := by decide +kernel
theorem dX12_first_118 : decode cX12_first 118 = .ok (.aload_n 0, 1) := by decide +kernel
theorem dX12_first_119 : decode cX12_first 119 = .ok (.iconst 0, 1) := by decide +kernel
theorem dX12_first_120 : decode cX12_first 120 = .ok (.iload 11, 2) := by decide +kernel
theorem dX12_first_122 : decode cX12_first 122 = .ok (.bipush 10, 2) := by decide +kernel
theorem dX12_first_124 : decode cX12_first 124 = .ok (.iload_n 2, 1) := by decide +kernel
theorem dX12_first_125 : decode cX12_first 125 = .ok (.imul, 1) := by decide +kernel
theorem dX12_first_126 : decode cX12_first 126 = .ok (.iload 9, 2) := by decide +kernel
theorem dX12_first_128 : decode cX12_first 128 = .ok (.iconst 2, 1) := by decide +kernel
theorem dX12_first_129 : decode cX12_first 129 = .ok (.irem, 1) := by decide +kernel
theorem dX12_first_130 : decode cX12_first 130 = .ok (.iadd, 1) := by decide +kernel
theorem dX12_first_131 : decode cX12_first 131 = .ok (.invokevirtual 304, 3) := by decide +kernel
theorem dX12_first_134 : decode cX12_first 134 = .ok (.invokevirtual 316, 3) := by decide +kernel
theorem dX12_first_137 : decode cX12_first 137 = .ok (.lstore 12, 2) := by decide +kernel
theorem dX12_first_139 : decode cX12_first 139 = .ok (.lload 12, 2) := by decide +kernel
theorem dX12_first_141 : decode cX12_first 141 = .ok (.lload 6, 2) := by decide +kernel
theorem dX12_first_143 : decode cX12_first 143 = .ok (.lcmp, 1) := by decide +kernel
theorem dX12_first_144 : decode cX12_first 144 = .ok (.ifCond .le 19, 3) := by decide +kernel
theorem dX12_first_147 : decode cX12_first 147 = .ok (.lload 12, 2) := by decide +kernel
theorem dX12_first_149 : decode cX12_first 149 = .ok (.lstore 6, 2) := by decide +kernel
theorem dX12_first_151 : decode cX12_first 151 = .ok (.bipush 10, 2) := by decide +kernel
theorem dX12_first_153 : decode cX12_first 153 = .ok (.iload 10, 2) := by decide +kernel
theorem dX12_first_155 : decode cX12_first 155 = .ok (.imul, 1) := by decide +kernel
theorem dX12_first_156 : decode cX12_first 156 = .ok (.iload 9, 2) := by decide +kernel
theorem dX12_first_158 : decode cX12_first 158 = .ok (.iconst 2, 1) := by decide +kernel
theorem dX12_first_159 : decode cX12_first 159 = .ok (.irem, 1) := by decide +kernel
theorem dX12_first_160 : decode cX12_first 160 = .ok (.iadd, 1) := by decide +kernel
theorem dX12_first_161 : decode cX12_first 161 = .ok (.istore 8, 2) := by decide +kernel
theorem dX12_first_163 : decode cX12_first 163 = .ok (.iinc 9 1, 3) := by decide +kernel
theorem dX12_first_166 : decode cX12_first 166 = .ok (.goto (-96), 3) := by decide +kernel
theorem dX12_first_169 : decode cX12_first 169 = .ok (.iload_n 3, 1) := by decide +kernel
theorem dX12_first_170 : decode cX12_first 170 = .ok (.ifCond .ne 9, 3) := by decide +kernel
theorem dX12_first_173 : decode cX12_first 173 = .ok (.iload 8, 2) := by decide +kernel
theorem dX12_first_175 : decode cX12_first 175 = .ok (.i2l, 1) := by decide +kernel
theorem dX12_first_176 : decode cX12_first 176 = .ok (.goto 5, 3) := by decide +kernel
theorem dX12_first_179 : decode cX12_first 179 = .ok (.lload 6, 2) := by decide +kernel
theorem dX12_first_181 : decode cX12_first 181 = .ok (.lreturn, 1) := by decide +kernel
def fX12_first_j116 (rec : eg_H → Nat → Int32 → Int32 → Int32 → Int32 → Int64 → Int32 → Int32 → Option (Int32 × Int64 × Int32 × eg_H)) (h : eg_H) (l0 : Nat) (l2 : Int32) (l3 : Int32) (l4 : Int32) (l5 : Int32) (l6 : Int64) (l8 : Int32) (l9 : Int32) (l10 : Int32) (s0 : Int32) : Option (Int32 × Int64 × Int32 × eg_H) :=
  (fX12_goAlong h l0 (0 : Int32) s0 (((10 : Int32) * l2) + (l9 % (2 : Int32)))).bind fun ⟨p2, h1⟩ =>
  (fX2_hopes h1 p2).bind fun ⟨v5, h4⟩ =>
  if v5 ≤ l6 then
    (rec h4 l0 l2 l3 l4 l5 l6 l8 (l9 + (1 : Int32)))
  else
    (some ((((10 : Int32) * l10) + (l9 % (2 : Int32))))).bind fun v8 =>
    rec h4 l0 l2 l3 l4 l5 v5 v8 (l9 + (1 : Int32))
set_option maxRecDepth 20000 in
theorem fX12_first_j116_ok {rec : eg_H → Nat → Int32 → Int32 → Int32 → Int32 → Int64 → Int32 → Int32 → Option (Int32 × Int64 × Int32 × eg_H)} {h0 : eg_H} {Z : eg_C → State → Prop} {N S : Nat} (h : eg_H) (l0 : Nat) (l2 : Int32) (l3 : Int32) (l4 : Int32) (l5 : Int32) (l6 : Int64) (l8 : Int32) (l9 : Int32) (l10 : Int32) (s0 : Int32) (eE : Int32 × Int64 × Int32 × eg_H) (hF : fX12_first_j116 rec h l0 l2 l3 l4 l5 l6 l8 l9 l10 s0 = some eE) (hrec : ∀ (h : eg_H) (l0 : Nat) (l2 : Int32) (l3 : Int32) (l4 : Int32) (l5 : Int32) (l6 : Int64) (l8 : Int32) (l9 : Int32), rec h l0 l2 l3 l4 l5 l6 l8 l9 = some eE → eg_AW (RX12, cX12_first, 14, 8, none, "first", (some .long)) Z N S h0 70 [(0, .ref l0), (2, .int l2), (3, .int l3), (4, .int l4), (5, .int l5), (6, .long l6), (8, .int l8), (9, .int l9)] [] h) (hk0 : ∀ (l3 : Int32) (l6 : Int64) (l8 : Int32) (h : eg_H), eE = (l3, l6, l8, h) → eg_AW (RX12, cX12_first, 14, 8, none, "first", (some .long)) Z N S h0 169 [(3, .int l3), (6, .long l6), (8, .int l8)] [] h) : eg_AW (RX12, cX12_first, 14, 8, none, "first", (some .long)) Z N S h0 116 [(0, .ref l0), (2, .int l2), (3, .int l3), (4, .int l4), (5, .int l5), (6, .long l6), (8, .int l8), (9, .int l9), (10, .int l10)] [.int s0] h := by
  refine eg_istore (i := 11) [(11, .int s0), (0, .ref l0), (2, .int l2), (3, .int l3), (4, .int l4), (5, .int l5), (6, .long l6), (8, .int l8), (9, .int l9), (10, .int l10)] dX12_first_116 (Nat.le_of_ble_eq_true rfl) rfl ?_
  refine eg_aload_n (i := 0) 1 dX12_first_118 rfl rfl ?_
  refine eg_iconst (v := (0 : Int32)) dX12_first_119 (by decide) ?_
  refine eg_iload (i := 11) 0 dX12_first_120 rfl ?_
  refine eg_bipush (v := (10 : Int32)) dX12_first_122 (by decide) ?_
  refine eg_iload_n (i := 2) 2 dX12_first_124 rfl rfl ?_
  refine eg_imul dX12_first_125 ?_
  refine eg_iload (i := 9) 8 dX12_first_126 rfl ?_
  refine eg_iconst (v := (2 : Int32)) dX12_first_128 (by decide) ?_
  refine eg_irem dX12_first_129 (by decide) ?_
  refine eg_iadd dX12_first_130 ?_
  replace hF := eg_bind hF; obtain ⟨⟨p2, h1⟩, e3, hF⟩ := hF
  refine eg_callV (c := 12) (n := 3) [.int (0 : Int32), .int s0, .int (((10 : Int32) * l2) + (l9 % (2 : Int32)))] dX12_first_131 (mX12_goAlong e3) rfl (fX12_goAlong_O e3) (Nat.le_of_ble_eq_true rfl) rfl ew_944 ew_946 ew_29 ew_100 ew_947 hy_X12_goAlong rfl (Nat.le_of_ble_eq_true rfl) (Nat.le_of_ble_eq_true rfl) (Nat.le_of_ble_eq_true rfl) ?_
  replace hF := eg_bind hF; obtain ⟨⟨v5, h4⟩, e6, hF⟩ := hF
  refine eg_callV (c := 2) (n := 0) [] dX12_first_134 (mX2_hopes e6) rfl (fX2_hopes_O e6) (Nat.le_of_ble_eq_true rfl) rfl ew_985 ew_986 ew_987 ew_108 ew_988 hy_X2_hopes rfl (Nat.le_of_ble_eq_true rfl) (Nat.le_of_ble_eq_true rfl) (Nat.le_of_ble_eq_true rfl) ?_
  refine eg_lstore (i := 12) [(12, .long v5), (11, .int s0), (0, .ref l0), (2, .int l2), (3, .int l3), (4, .int l4), (5, .int l5), (6, .long l6), (8, .int l8), (9, .int l9), (10, .int l10)] dX12_first_137 (Nat.le_of_ble_eq_true rfl) rfl ?_
  refine eg_lload (i := 12) 0 dX12_first_139 rfl ?_
  refine eg_lload (i := 6) 7 dX12_first_141 rfl ?_
  refine eg_lc_le 163 dX12_first_143 dX12_first_144 rfl (fun c7 => ?_) (fun c7 => ?_)
  · replace hF := eg_it c7 hF
    refine eg_iinc (i := 9) (v := (l9 + (1 : Int32))) 9 [(9, .int (l9 + (1 : Int32))), (12, .long v5), (11, .int s0), (0, .ref l0), (2, .int l2), (3, .int l3), (4, .int l4), (5, .int l5), (6, .long l6), (8, .int l8), (10, .int l10)] dX12_first_163 rfl rfl (Nat.le_of_ble_eq_true rfl) rfl ?_
    refine eg_goto 70 dX12_first_166 rfl ?_
    exact eg_sub [3, 4, 5, 6, 7, 8, 9, 0] [(0, .ref l0), (2, .int l2), (3, .int l3), (4, .int l4), (5, .int l5), (6, .long l6), (8, .int l8), (9, .int (l9 + (1 : Int32)))] rfl (hrec h4 l0 l2 l3 l4 l5 l6 l8 (l9 + (1 : Int32)) hF)
  · replace hF := eg_if c7 hF
    refine eg_lload (i := 12) 0 dX12_first_147 rfl ?_
    refine eg_lstore (i := 6) [(6, .long v5), (12, .long v5), (11, .int s0), (0, .ref l0), (2, .int l2), (3, .int l3), (4, .int l4), (5, .int l5), (8, .int l8), (9, .int l9), (10, .int l10)] dX12_first_149 (Nat.le_of_ble_eq_true rfl) rfl ?_
    refine eg_bipush (v := (10 : Int32)) dX12_first_151 (by decide) ?_
    refine eg_iload (i := 10) 10 dX12_first_153 rfl ?_
    refine eg_imul dX12_first_155 ?_
    refine eg_iload (i := 9) 9 dX12_first_156 rfl ?_
    refine eg_iconst (v := (2 : Int32)) dX12_first_158 (by decide) ?_
    refine eg_irem dX12_first_159 (by decide) ?_
    refine eg_iadd dX12_first_160 ?_
    replace hF := eg_bind hF; obtain ⟨v8, e9, hF⟩ := hF
    replace e9 := Option.some.inj e9
    rw [e9]
    refine eg_istore (i := 8) [(8, .int v8), (6, .long v5), (12, .long v5), (11, .int s0), (0, .ref l0), (2, .int l2), (3, .int l3), (4, .int l4), (5, .int l5), (9, .int l9), (10, .int l10)] dX12_first_161 (Nat.le_of_ble_eq_true rfl) rfl ?_
    refine eg_iinc (i := 9) (v := (l9 + (1 : Int32))) 9 [(9, .int (l9 + (1 : Int32))), (8, .int v8), (6, .long v5), (12, .long v5), (11, .int s0), (0, .ref l0), (2, .int l2), (3, .int l3), (4, .int l4), (5, .int l5), (10, .int l10)] dX12_first_163 rfl rfl (Nat.le_of_ble_eq_true rfl) rfl ?_
    refine eg_goto 70 dX12_first_166 rfl ?_
    exact eg_sub [5, 6, 7, 8, 9, 2, 1, 0] [(0, .ref l0), (2, .int l2), (3, .int l3), (4, .int l4), (5, .int l5), (6, .long v5), (8, .int v8), (9, .int (l9 + (1 : Int32)))] rfl (hrec h4 l0 l2 l3 l4 l5 v5 v8 (l9 + (1 : Int32)) hF)
def fX12_first_j89 (rec : eg_H → Nat → Int32 → Int32 → Int32 → Int32 → Int64 → Int32 → Int32 → Option (Int32 × Int64 × Int32 × eg_H)) (h : eg_H) (l0 : Nat) (l2 : Int32) (l3 : Int32) (l4 : Int32) (l5 : Int32) (l6 : Int64) (l8 : Int32) (l9 : Int32) (s0 : Int32) : Option (Int32 × Int64 × Int32 × eg_H) :=
  if (2 : Int32) ≤ l9 then
    (fX12_first_j116 rec h l0 l2 l3 l4 l5 l6 l8 l9 s0 (((10 : Int32) * l5) + l4))
  else
    fX12_first_j116 rec h l0 l2 l3 l4 l5 l6 l8 l9 s0 (((10 : Int32) * l4) + l5)
set_option maxRecDepth 20000 in
theorem fX12_first_j89_ok {rec : eg_H → Nat → Int32 → Int32 → Int32 → Int32 → Int64 → Int32 → Int32 → Option (Int32 × Int64 × Int32 × eg_H)} {h0 : eg_H} {Z : eg_C → State → Prop} {N S : Nat} (h : eg_H) (l0 : Nat) (l2 : Int32) (l3 : Int32) (l4 : Int32) (l5 : Int32) (l6 : Int64) (l8 : Int32) (l9 : Int32) (s0 : Int32) (eE : Int32 × Int64 × Int32 × eg_H) (hF : fX12_first_j89 rec h l0 l2 l3 l4 l5 l6 l8 l9 s0 = some eE) (hrec : ∀ (h : eg_H) (l0 : Nat) (l2 : Int32) (l3 : Int32) (l4 : Int32) (l5 : Int32) (l6 : Int64) (l8 : Int32) (l9 : Int32), rec h l0 l2 l3 l4 l5 l6 l8 l9 = some eE → eg_AW (RX12, cX12_first, 14, 8, none, "first", (some .long)) Z N S h0 70 [(0, .ref l0), (2, .int l2), (3, .int l3), (4, .int l4), (5, .int l5), (6, .long l6), (8, .int l8), (9, .int l9)] [] h) (hk0 : ∀ (l3 : Int32) (l6 : Int64) (l8 : Int32) (h : eg_H), eE = (l3, l6, l8, h) → eg_AW (RX12, cX12_first, 14, 8, none, "first", (some .long)) Z N S h0 169 [(3, .int l3), (6, .long l6), (8, .int l8)] [] h) : eg_AW (RX12, cX12_first, 14, 8, none, "first", (some .long)) Z N S h0 89 [(0, .ref l0), (2, .int l2), (3, .int l3), (4, .int l4), (5, .int l5), (6, .long l6), (8, .int l8), (9, .int l9)] [.int s0] h := by
  refine eg_istore (i := 10) [(10, .int s0), (0, .ref l0), (2, .int l2), (3, .int l3), (4, .int l4), (5, .int l5), (6, .long l6), (8, .int l8), (9, .int l9)] dX12_first_89 (Nat.le_of_ble_eq_true rfl) rfl ?_
  refine eg_iload (i := 9) 8 dX12_first_91 rfl ?_
  refine eg_iconst (v := (2 : Int32)) dX12_first_93 (by decide) ?_
  refine eg_ic_ge 108 dX12_first_94 rfl (fun c1 => ?_) (fun c1 => ?_)
  · replace hF := eg_it c1 hF
    refine eg_bipush (v := (10 : Int32)) dX12_first_108 (by decide) ?_
    refine eg_iload (i := 5) 5 dX12_first_110 rfl ?_
    refine eg_imul dX12_first_112 ?_
    refine eg_iload (i := 4) 4 dX12_first_113 rfl ?_
    refine eg_iadd dX12_first_115 ?_
    exact eg_sub [1, 2, 3, 4, 5, 6, 7, 8, 0] [(0, .ref l0), (2, .int l2), (3, .int l3), (4, .int l4), (5, .int l5), (6, .long l6), (8, .int l8), (9, .int l9), (10, .int s0)] rfl (fX12_first_j116_ok h l0 l2 l3 l4 l5 l6 l8 l9 s0 (((10 : Int32) * l5) + l4) eE hF hrec hk0)
  · replace hF := eg_if c1 hF
    refine eg_bipush (v := (10 : Int32)) dX12_first_97 (by decide) ?_
    refine eg_iload (i := 4) 4 dX12_first_99 rfl ?_
    refine eg_imul dX12_first_101 ?_
    refine eg_iload (i := 5) 5 dX12_first_102 rfl ?_
    refine eg_iadd dX12_first_104 ?_
    refine eg_goto 116 dX12_first_105 rfl ?_
    exact eg_sub [1, 2, 3, 4, 5, 6, 7, 8, 0] [(0, .ref l0), (2, .int l2), (3, .int l3), (4, .int l4), (5, .int l5), (6, .long l6), (8, .int l8), (9, .int l9), (10, .int s0)] rfl (fX12_first_j116_ok h l0 l2 l3 l4 l5 l6 l8 l9 s0 (((10 : Int32) * l4) + l5) eE hF hrec hk0)
def fX12_first_L70 : Nat → eg_H → Nat → Int32 → Int32 → Int32 → Int32 → Int64 → Int32 → Int32 → Option (Int32 × Int64 × Int32 × eg_H)
  | 0, _, _, _, _, _, _, _, _, _ => none
  | n + 1, h, l0, l2, l3, l4, l5, l6, l8, l9 =>
    if (4 : Int32) ≤ l9 then
      (some (l3, l6, l8, h))
    else
      if (2 : Int32) ≤ l9 then
        (fX12_first_j89 (fX12_first_L70 n) h l0 l2 l3 l4 l5 l6 l8 l9 l5)
      else
        fX12_first_j89 (fX12_first_L70 n) h l0 l2 l3 l4 l5 l6 l8 l9 l4
set_option maxRecDepth 20000 in
theorem fX12_first_L70_ok {h0 : eg_H} {Z : eg_C → State → Prop} {N S : Nat} : ∀ (n : Nat) (h : eg_H) (l0 : Nat) (l2 : Int32) (l3 : Int32) (l4 : Int32) (l5 : Int32) (l6 : Int64) (l8 : Int32) (l9 : Int32) (eE : Int32 × Int64 × Int32 × eg_H), fX12_first_L70 n h l0 l2 l3 l4 l5 l6 l8 l9 = some eE → (hk0 : ∀ (l3 : Int32) (l6 : Int64) (l8 : Int32) (h : eg_H), eE = (l3, l6, l8, h) → eg_AW (RX12, cX12_first, 14, 8, none, "first", (some .long)) Z N S h0 169 [(3, .int l3), (6, .long l6), (8, .int l8)] [] h) → eg_AW (RX12, cX12_first, 14, 8, none, "first", (some .long)) Z N S h0 70 [(0, .ref l0), (2, .int l2), (3, .int l3), (4, .int l4), (5, .int l5), (6, .long l6), (8, .int l8), (9, .int l9)] [] h := by
  intro n
  induction n with
  | zero => intro h l0 l2 l3 l4 l5 l6 l8 l9 eE hF; exact absurd hF (by intro q; cases q)
  | succ n ih =>
    intro h l0 l2 l3 l4 l5 l6 l8 l9 eE hF hk0
    have hrec := fun (h' : eg_H) (l0 : Nat) (l2 : Int32) (l3 : Int32) (l4 : Int32) (l5 : Int32) (l6 : Int64) (l8 : Int32) (l9 : Int32) hq => ih h' l0 l2 l3 l4 l5 l6 l8 l9 eE hq hk0
    refine eg_iload (i := 9) 7 dX12_first_70 rfl ?_
    refine eg_iconst (v := (4 : Int32)) dX12_first_72 (by decide) ?_
    refine eg_ic_ge 169 dX12_first_73 rfl (fun c1 => ?_) (fun c1 => ?_)
    · replace hF := eg_it c1 hF
      exact eg_sub [2, 5, 6] [(3, .int l3), (6, .long l6), (8, .int l8)] rfl (hk0 l3 l6 l8 h (Option.some.inj hF).symm)
    · replace hF := eg_if c1 hF
      refine eg_iload (i := 9) 7 dX12_first_76 rfl ?_
      refine eg_iconst (v := (2 : Int32)) dX12_first_78 (by decide) ?_
      refine eg_ic_ge 87 dX12_first_79 rfl (fun c2 => ?_) (fun c2 => ?_)
      · replace hF := eg_it c2 hF
        refine eg_iload (i := 5) 4 dX12_first_87 rfl ?_
        exact (fX12_first_j89_ok h l0 l2 l3 l4 l5 l6 l8 l9 l5 eE hF hrec hk0)
      · replace hF := eg_if c2 hF
        refine eg_iload (i := 4) 3 dX12_first_82 rfl ?_
        refine eg_goto 89 dX12_first_84 rfl ?_
        exact (fX12_first_j89_ok h l0 l2 l3 l4 l5 l6 l8 l9 l4 eE hF hrec hk0)
def fX12_first (h : eg_H) (l0 : Nat) (l1 : Int32) (l2 : Int32) (l3 : Int32) : Option (Int64 × eg_H) :=
  if eg_isO h 12 l0 then (
    (eg_gR h 12 3 l0).bind fun p1 =>
    (fX7_isPair h p1 l1).bind fun ⟨v4, h3⟩ =>
    if v4 = 0 then
      (some ((-1 : Int64), h3))
    else
      (eg_gR h3 12 3 l0).bind fun p7 =>
      (fX7_isEgg h3 p7 l2).bind fun ⟨v10, h9⟩ =>
      if v10 = 0 then
        (some ((-1 : Int64), h9))
      else
        (fX12_isEither h9 l3).bind fun ⟨v14, h13⟩ =>
        if v14 = 0 then
          (some ((-1 : Int64), h13))
        else
          (some ((eg_minI (l1 / (10 : Int32)) (l1 % (10 : Int32))))).bind fun v17 =>
          (some ((eg_maxI (l1 / (10 : Int32)) (l1 % (10 : Int32))))).bind fun v19 =>
          (fX12_first_L70 eg_F h13 l0 l2 l3 v17 v19 (-1 : Int64) (0 : Int32) (0 : Int32)).bind fun e =>
          match e with
          | (v23, v24, v25, h26) =>
            if v23 = 0 then
              (some (v25.toInt64, h26))
            else
              some (v24, h26)) else none
theorem fX12_first_O {h : eg_H} {l0 : Nat} {l1 : Int32} {l2 : Int32} {l3 : Int32} {rE : Int64} {hE : eg_H} (hF : fX12_first h l0 l1 l2 l3 = some (rE, hE)) : eg_isO h 12 l0 := (eg_ifn hF).1
set_option maxRecDepth 20000 in
theorem mX12_first {h : eg_H} {l0 : Nat} {l1 : Int32} {l2 : Int32} {l3 : Int32} {rE : Int64} {hE : eg_H} (hF : fX12_first h l0 l1 l2 l3 = some (rE, hE)) : eg_Met yX12_first cX12_first 14 (some .long) 8 [.ref l0, .int l1, .int l2, .int l3] h (some (.long rE)) hE := by
  refine eg_enter rfl (Nat.le_of_ble_eq_true rfl) ?_
  show eg_AW (RX12, cX12_first, 14, 8, none, "first", (some .long)) (eg_Zm (some (.long rE)) hE h) (eg_nc hE) (eg_ns hE) h 0 [(0, .ref l0), (1, .int l1), (2, .int l2), (3, .int l3)] [] h
  replace hF := (eg_ifn hF).2
  refine eg_aload_n (i := 0) 0 dX12_first_0 rfl rfl ?_
  replace hF := eg_bind hF; obtain ⟨p1, e2, hF⟩ := hF
  refine eg_getR dX12_first_1 e2 (Nat.le_of_ble_eq_true rfl) (Nat.le_of_ble_eq_true rfl) rfl ew_359 ?_
  refine eg_iload_n (i := 1) 1 dX12_first_4 rfl rfl ?_
  replace hF := eg_bind hF; obtain ⟨⟨v4, h3⟩, e5, hF⟩ := hF
  refine eg_callV (c := 7) (n := 1) [.int l1] dX12_first_5 (mX7_isPair e5) rfl (fX7_isPair_O e5) (Nat.le_of_ble_eq_true rfl) rfl ew_790 ew_791 ew_792 ew_104 ew_793 hy_X7_isPair rfl (Nat.le_of_ble_eq_true rfl) (Nat.le_of_ble_eq_true rfl) (Nat.le_of_ble_eq_true rfl) ?_
  refine eg_if_eq 29 dX12_first_8 rfl (fun c6 => ?_) (fun c6 => ?_)
  · replace hF := eg_it c6 hF
    refine eg_ldc2 (v := (-1 : Int64)) dX12_first_29 ew_984 ?_
    exact eg_lretE dX12_first_32 hF
  · replace hF := eg_if c6 hF
    refine eg_aload_n (i := 0) 0 dX12_first_11 rfl rfl ?_
    replace hF := eg_bind hF; obtain ⟨p7, e8, hF⟩ := hF
    refine eg_getR dX12_first_12 e8 (Nat.le_of_ble_eq_true rfl) (Nat.le_of_ble_eq_true rfl) rfl ew_359 ?_
    refine eg_iload_n (i := 2) 2 dX12_first_15 rfl rfl ?_
    replace hF := eg_bind hF; obtain ⟨⟨v10, h9⟩, e11, hF⟩ := hF
    refine eg_callV (c := 7) (n := 1) [.int l2] dX12_first_16 (mX7_isEgg e11) rfl (fX7_isEgg_O e11) (Nat.le_of_ble_eq_true rfl) rfl ew_695 ew_696 ew_697 ew_104 ew_698 hy_X7_isEgg rfl (Nat.le_of_ble_eq_true rfl) (Nat.le_of_ble_eq_true rfl) (Nat.le_of_ble_eq_true rfl) ?_
    refine eg_if_eq 29 dX12_first_19 rfl (fun c12 => ?_) (fun c12 => ?_)
    · replace hF := eg_it c12 hF
      refine eg_ldc2 (v := (-1 : Int64)) dX12_first_29 ew_984 ?_
      exact eg_lretE dX12_first_32 hF
    · replace hF := eg_if c12 hF
      refine eg_iload_n (i := 3) 3 dX12_first_22 rfl rfl ?_
      replace hF := eg_bind hF; obtain ⟨⟨v14, h13⟩, e15, hF⟩ := hF
      refine eg_callS (n := 1) [.int l3] dX12_first_23 (mX12_isEither e15) rfl ew_993 ew_994 ew_100 ew_995 hy_X12_isEither.2 rfl (Nat.le_of_ble_eq_true rfl) (Nat.le_of_ble_eq_true rfl) (Nat.le_of_ble_eq_true rfl) ?_
      refine eg_if_ne 33 dX12_first_26 rfl (fun c16 => ?_) (fun c16 => ?_)
      · replace hF := eg_it c16 hF
        refine eg_ldc2 (v := (-1 : Int64)) dX12_first_29 ew_984 ?_
        exact eg_lretE dX12_first_32 hF
      · replace hF := eg_if c16 hF
        refine eg_iload_n (i := 1) 1 dX12_first_33 rfl rfl ?_
        refine eg_bipush (v := (10 : Int32)) dX12_first_34 (by decide) ?_
        refine eg_idiv dX12_first_36 (by decide) ?_
        refine eg_iload_n (i := 1) 1 dX12_first_37 rfl rfl ?_
        refine eg_bipush (v := (10 : Int32)) dX12_first_38 (by decide) ?_
        refine eg_irem dX12_first_40 (by decide) ?_
        refine eg_mmin dX12_first_41 ew_996 (Nat.le_of_ble_eq_true rfl) (Nat.le_of_ble_eq_true rfl) ?_
        replace hF := eg_bind hF; obtain ⟨v17, e18, hF⟩ := hF
        replace e18 := Option.some.inj e18
        rw [e18]
        refine eg_istore (i := 4) [(4, .int v17), (0, .ref l0), (1, .int l1), (2, .int l2), (3, .int l3)] dX12_first_44 (Nat.le_of_ble_eq_true rfl) rfl ?_
        refine eg_iload_n (i := 1) 2 dX12_first_46 rfl rfl ?_
        refine eg_bipush (v := (10 : Int32)) dX12_first_47 (by decide) ?_
        refine eg_idiv dX12_first_49 (by decide) ?_
        refine eg_iload_n (i := 1) 2 dX12_first_50 rfl rfl ?_
        refine eg_bipush (v := (10 : Int32)) dX12_first_51 (by decide) ?_
        refine eg_irem dX12_first_53 (by decide) ?_
        refine eg_mmax dX12_first_54 ew_997 (Nat.le_of_ble_eq_true rfl) (Nat.le_of_ble_eq_true rfl) ?_
        replace hF := eg_bind hF; obtain ⟨v19, e20, hF⟩ := hF
        replace e20 := Option.some.inj e20
        rw [e20]
        refine eg_istore (i := 5) [(5, .int v19), (4, .int v17), (0, .ref l0), (1, .int l1), (2, .int l2), (3, .int l3)] dX12_first_57 (Nat.le_of_ble_eq_true rfl) rfl ?_
        refine eg_ldc2 (v := (-1 : Int64)) dX12_first_59 ew_984 ?_
        refine eg_lstore (i := 6) [(6, .long (-1 : Int64)), (5, .int v19), (4, .int v17), (0, .ref l0), (1, .int l1), (2, .int l2), (3, .int l3)] dX12_first_62 (Nat.le_of_ble_eq_true rfl) rfl ?_
        refine eg_iconst (v := (0 : Int32)) dX12_first_64 (by decide) ?_
        refine eg_istore (i := 8) [(8, .int (0 : Int32)), (6, .long (-1 : Int64)), (5, .int v19), (4, .int v17), (0, .ref l0), (1, .int l1), (2, .int l2), (3, .int l3)] dX12_first_65 (Nat.le_of_ble_eq_true rfl) rfl ?_
        refine eg_iconst (v := (0 : Int32)) dX12_first_67 (by decide) ?_
        refine eg_istore (i := 9) [(9, .int (0 : Int32)), (8, .int (0 : Int32)), (6, .long (-1 : Int64)), (5, .int v19), (4, .int v17), (0, .ref l0), (1, .int l1), (2, .int l2), (3, .int l3)] dX12_first_68 (Nat.le_of_ble_eq_true rfl) rfl ?_
        replace hF := eg_bind hF; obtain ⟨x22, e21, hF⟩ := hF
        refine eg_sub [5, 7, 8, 4, 3, 2, 1, 0] [(0, .ref l0), (2, .int l2), (3, .int l3), (4, .int v17), (5, .int v19), (6, .long (-1 : Int64)), (8, .int (0 : Int32)), (9, .int (0 : Int32))] rfl (fX12_first_L70_ok eg_F h13 l0 l2 l3 v17 v19 (-1 : Int64) (0 : Int32) (0 : Int32) x22 e21 ?_)
        · intro v23 v24 v25 h26 e28
          subst e28
          refine eg_iload_n (i := 3) 0 dX12_first_169 rfl rfl ?_
          refine eg_if_ne 179 dX12_first_170 rfl (fun c27 => ?_) (fun c27 => ?_)
          · replace hF := eg_it c27 hF
            refine eg_iload (i := 8) 2 dX12_first_173 rfl ?_
            refine eg_i2l dX12_first_175 ?_
            refine eg_goto 181 dX12_first_176 rfl ?_
            exact eg_lretE dX12_first_181 hF
          · replace hF := eg_if c27 hF
            refine eg_lload (i := 6) 1 dX12_first_179 rfl ?_
            exact eg_lretE dX12_first_181 hF
theorem dX12_which_0 : decode cX12_which 0 = .ok (.aload_n 0, 1) := by decide +kernel
theorem dX12_which_1 : decode cX12_which 1 = .ok (.getfield 35, 3) := by decide +kernel
theorem dX12_which_4 : decode cX12_which 4 = .ok (.iload_n 1, 1) := by decide +kernel
theorem dX12_which_5 : decode cX12_which 5 = .ok (.invokevirtual 284, 3) := by decide +kernel
theorem dX12_which_8 : decode cX12_which 8 = .ok (.ifCond .eq 17, 3) := by decide +kernel
theorem dX12_which_11 : decode cX12_which 11 = .ok (.iload_n 2, 1) := by decide +kernel
theorem dX12_which_12 : decode cX12_which 12 = .ok (.invokestatic 216, 3) := by decide +kernel
theorem dX12_which_15 : decode cX12_which 15 = .ok (.ifCond .eq 10, 3) := by decide +kernel
theorem dX12_which_18 : decode cX12_which 18 = .ok (.iload_n 3, 1) := by decide +kernel
theorem dX12_which_19 : decode cX12_which 19 = .ok (.invokestatic 320, 3) := by decide +kernel
theorem dX12_which_22 : decode cX12_which 22 = .ok (.ifCond .ne 7, 3) := by decide +kernel
theorem dX12_which_25 : decode cX12_which 25 = .ok (.ldc2_w 314, 3) := by decide +kernel
theorem dX12_which_28 : decode cX12_which 28 = .ok (.lreturn, 1) := by decide +kernel
theorem dX12_which_29 : decode cX12_which 29 = .ok (.ldc2_w 314, 3) := by decide +kernel
theorem dX12_which_32 : decode cX12_which 32 = .ok (.lstore 4, 2) := by decide +kernel
theorem dX12_which_34 : decode cX12_which 34 = .ok (.iconst 0, 1) := by decide +kernel
theorem dX12_which_35 : decode cX12_which 35 = .ok (.istore 6, 2) := by decide +kernel
theorem dX12_which_37 : decode cX12_which 37 = .ok (.iconst 0, 1) := by decide +kernel
theorem dX12_which_38 : decode cX12_which 38 = .ok (.istore 7, 2) := by decide +kernel
theorem dX12_which_40 : decode cX12_which 40 = .ok (.iload 7, 2) := by decide +kernel
theorem dX12_which_42 : decode cX12_which 42 = .ok (.aload_n 0, 1) := by decide +kernel
theorem dX12_which_43 : decode cX12_which 43 = .ok (.getfield 35, 3) := by decide +kernel
theorem dX12_which_46 : decode cX12_which 46 = .ok (.invokevirtual 287, 3) := by decide +kernel
theorem dX12_which_49 : decode cX12_which 49 = .ok (.if_icmp .ge 43, 3) := by decide +kernel
theorem dX12_which_52 : decode cX12_which 52 = .ok (.aload_n 0, 1) := by decide +kernel
theorem dX12_which_53 : decode cX12_which 53 = .ok (.iconst 0, 1) := by decide +kernel
theorem dX12_which_54 : decode cX12_which 54 = .ok (.iload_n 1, 1) := by decide +kernel
theorem dX12_which_55 : decode cX12_which 55 = .ok (.bipush 10, 2) := by decide +kernel
theorem dX12_which_57 : decode cX12_which 57 = .ok (.iload 7, 2) := by decide +kernel
theorem dX12_which_59 : decode cX12_which 59 = .ok (.imul, 1) := by decide +kernel
theorem dX12_which_60 : decode cX12_which 60 = .ok (.iload_n 2, 1) := by decide +kernel
theorem dX12_which_61 : decode cX12_which 61 = .ok (.iadd, 1) := by decide +kernel
theorem dX12_which_62 : decode cX12_which 62 = .ok (.invokevirtual 304, 3) := by decide +kernel
theorem dX12_which_65 : decode cX12_which 65 = .ok (.invokevirtual 316, 3) := by decide +kernel
theorem dX12_which_68 : decode cX12_which 68 = .ok (.lstore 8, 2) := by decide +kernel
theorem dX12_which_70 : decode cX12_which 70 = .ok (.lload 8, 2) := by decide +kernel
theorem dX12_which_72 : decode cX12_which 72 = .ok (.lload 4, 2) := by decide +kernel
theorem dX12_which_74 : decode cX12_which 74 = .ok (.lcmp, 1) := by decide +kernel
theorem dX12_which_75 : decode cX12_which 75 = .ok (.ifCond .le 11, 3) := by decide +kernel
theorem dX12_which_78 : decode cX12_which 78 = .ok (.lload 8, 2) := by decide +kernel
theorem dX12_which_80 : decode cX12_which 80 = .ok (.lstore 4, 2) := by decide +kernel
theorem dX12_which_82 : decode cX12_which 82 = .ok (.iload 7, 2) := by decide +kernel
theorem dX12_which_84 : decode cX12_which 84 = .ok (.istore 6, 2) := by decide +kernel
theorem dX12_which_86 : decode cX12_which 86 = .ok (.iinc 7 1, 3) := by decide +kernel
theorem dX12_which_89 : decode cX12_which 89 = .ok (.goto (-49), 3) := by decide +kernel
theorem dX12_which_92 : decode cX12_which 92 = .ok (.iload_n 3, 1) := by decide +kernel
theorem dX12_which_93 : decode cX12_which 93 = .ok (.ifCond .ne 9, 3) := by decide +kernel
theorem dX12_which_96 : decode cX12_which 96 = .ok (.iload 6, 2) := by decide +kernel
theorem dX12_which_98 : decode cX12_which 98 = .ok (.i2l, 1) := by decide +kernel
theorem dX12_which_99 : decode cX12_which 99 = .ok (.goto 5, 3) := by decide +kernel
theorem dX12_which_102 : decode cX12_which 102 = .ok (.lload 4, 2) := by decide +kernel
theorem dX12_which_104 : decode cX12_which 104 = .ok (.lreturn, 1) := by decide +kernel
def fX12_which_L40 : Nat → eg_H → Nat → Int32 → Int32 → Int32 → Int64 → Int32 → Int32 → Option (Int32 × Int64 × Int32 × eg_H)
  | 0, _, _, _, _, _, _, _, _ => none
  | n + 1, h, l0, l1, l2, l3, l4, l6, l7 =>
    (eg_gR h 12 3 l0).bind fun p1 =>
    (fX7_eggs h p1).bind fun ⟨v4, h3⟩ =>
    if v4 ≤ l7 then
      (some (l3, l4, l6, h3))
    else
      (fX12_goAlong h3 l0 (0 : Int32) l1 (((10 : Int32) * l7) + l2)).bind fun ⟨p8, h7⟩ =>
      (fX2_hopes h7 p8).bind fun ⟨v11, h10⟩ =>
      if v11 ≤ l4 then
        (fX12_which_L40 n h10 l0 l1 l2 l3 l4 l6 (l7 + (1 : Int32)))
      else
        fX12_which_L40 n h10 l0 l1 l2 l3 v11 l7 (l7 + (1 : Int32))
set_option maxRecDepth 20000 in
theorem fX12_which_L40_ok {h0 : eg_H} {Z : eg_C → State → Prop} {N S : Nat} : ∀ (n : Nat) (h : eg_H) (l0 : Nat) (l1 : Int32) (l2 : Int32) (l3 : Int32) (l4 : Int64) (l6 : Int32) (l7 : Int32) (eE : Int32 × Int64 × Int32 × eg_H), fX12_which_L40 n h l0 l1 l2 l3 l4 l6 l7 = some eE → (hk0 : ∀ (l3 : Int32) (l4 : Int64) (l6 : Int32) (h : eg_H), eE = (l3, l4, l6, h) → eg_AW (RX12, cX12_which, 10, 8, none, "which", (some .long)) Z N S h0 92 [(3, .int l3), (4, .long l4), (6, .int l6)] [] h) → eg_AW (RX12, cX12_which, 10, 8, none, "which", (some .long)) Z N S h0 40 [(0, .ref l0), (1, .int l1), (2, .int l2), (3, .int l3), (4, .long l4), (6, .int l6), (7, .int l7)] [] h := by
  intro n
  induction n with
  | zero => intro h l0 l1 l2 l3 l4 l6 l7 eE hF; exact absurd hF (by intro q; cases q)
  | succ n ih =>
    intro h l0 l1 l2 l3 l4 l6 l7 eE hF hk0
    have hrec := fun (h' : eg_H) (l0 : Nat) (l1 : Int32) (l2 : Int32) (l3 : Int32) (l4 : Int64) (l6 : Int32) (l7 : Int32) hq => ih h' l0 l1 l2 l3 l4 l6 l7 eE hq hk0
    refine eg_iload (i := 7) 6 dX12_which_40 rfl ?_
    refine eg_aload_n (i := 0) 0 dX12_which_42 rfl rfl ?_
    replace hF := eg_bind hF; obtain ⟨p1, e2, hF⟩ := hF
    refine eg_getR dX12_which_43 e2 (Nat.le_of_ble_eq_true rfl) (Nat.le_of_ble_eq_true rfl) rfl ew_359 ?_
    replace hF := eg_bind hF; obtain ⟨⟨v4, h3⟩, e5, hF⟩ := hF
    refine eg_callV (c := 7) (n := 0) [] dX12_which_46 (mX7_eggs e5) rfl (fX7_eggs_O e5) (Nat.le_of_ble_eq_true rfl) rfl ew_922 ew_923 ew_924 ew_104 ew_925 hy_X7_eggs rfl (Nat.le_of_ble_eq_true rfl) (Nat.le_of_ble_eq_true rfl) (Nat.le_of_ble_eq_true rfl) ?_
    refine eg_ic_ge 92 dX12_which_49 rfl (fun c6 => ?_) (fun c6 => ?_)
    · replace hF := eg_it c6 hF
      exact eg_sub [3, 4, 5] [(3, .int l3), (4, .long l4), (6, .int l6)] rfl (hk0 l3 l4 l6 h3 (Option.some.inj hF).symm)
    · replace hF := eg_if c6 hF
      refine eg_aload_n (i := 0) 0 dX12_which_52 rfl rfl ?_
      refine eg_iconst (v := (0 : Int32)) dX12_which_53 (by decide) ?_
      refine eg_iload_n (i := 1) 1 dX12_which_54 rfl rfl ?_
      refine eg_bipush (v := (10 : Int32)) dX12_which_55 (by decide) ?_
      refine eg_iload (i := 7) 6 dX12_which_57 rfl ?_
      refine eg_imul dX12_which_59 ?_
      refine eg_iload_n (i := 2) 2 dX12_which_60 rfl rfl ?_
      refine eg_iadd dX12_which_61 ?_
      replace hF := eg_bind hF; obtain ⟨⟨p8, h7⟩, e9, hF⟩ := hF
      refine eg_callV (c := 12) (n := 3) [.int (0 : Int32), .int l1, .int (((10 : Int32) * l7) + l2)] dX12_which_62 (mX12_goAlong e9) rfl (fX12_goAlong_O e9) (Nat.le_of_ble_eq_true rfl) rfl ew_944 ew_946 ew_29 ew_100 ew_947 hy_X12_goAlong rfl (Nat.le_of_ble_eq_true rfl) (Nat.le_of_ble_eq_true rfl) (Nat.le_of_ble_eq_true rfl) ?_
      replace hF := eg_bind hF; obtain ⟨⟨v11, h10⟩, e12, hF⟩ := hF
      refine eg_callV (c := 2) (n := 0) [] dX12_which_65 (mX2_hopes e12) rfl (fX2_hopes_O e12) (Nat.le_of_ble_eq_true rfl) rfl ew_985 ew_986 ew_987 ew_108 ew_988 hy_X2_hopes rfl (Nat.le_of_ble_eq_true rfl) (Nat.le_of_ble_eq_true rfl) (Nat.le_of_ble_eq_true rfl) ?_
      refine eg_lstore (i := 8) [(8, .long v11), (0, .ref l0), (1, .int l1), (2, .int l2), (3, .int l3), (4, .long l4), (6, .int l6), (7, .int l7)] dX12_which_68 (Nat.le_of_ble_eq_true rfl) rfl ?_
      refine eg_lload (i := 8) 0 dX12_which_70 rfl ?_
      refine eg_lload (i := 4) 5 dX12_which_72 rfl ?_
      refine eg_lc_le 86 dX12_which_74 dX12_which_75 rfl (fun c13 => ?_) (fun c13 => ?_)
      · replace hF := eg_it c13 hF
        refine eg_iinc (i := 7) (v := (l7 + (1 : Int32))) 7 [(7, .int (l7 + (1 : Int32))), (8, .long v11), (0, .ref l0), (1, .int l1), (2, .int l2), (3, .int l3), (4, .long l4), (6, .int l6)] dX12_which_86 rfl rfl (Nat.le_of_ble_eq_true rfl) rfl ?_
        refine eg_goto 40 dX12_which_89 rfl ?_
        exact eg_sub [2, 3, 4, 5, 6, 7, 0] [(0, .ref l0), (1, .int l1), (2, .int l2), (3, .int l3), (4, .long l4), (6, .int l6), (7, .int (l7 + (1 : Int32)))] rfl (hrec h10 l0 l1 l2 l3 l4 l6 (l7 + (1 : Int32)) hF)
      · replace hF := eg_if c13 hF
        refine eg_lload (i := 8) 0 dX12_which_78 rfl ?_
        refine eg_lstore (i := 4) [(4, .long v11), (8, .long v11), (0, .ref l0), (1, .int l1), (2, .int l2), (3, .int l3), (6, .int l6), (7, .int l7)] dX12_which_80 (Nat.le_of_ble_eq_true rfl) rfl ?_
        refine eg_iload (i := 7) 7 dX12_which_82 rfl ?_
        refine eg_istore (i := 6) [(6, .int l7), (4, .long v11), (8, .long v11), (0, .ref l0), (1, .int l1), (2, .int l2), (3, .int l3), (7, .int l7)] dX12_which_84 (Nat.le_of_ble_eq_true rfl) rfl ?_
        refine eg_iinc (i := 7) (v := (l7 + (1 : Int32))) 7 [(7, .int (l7 + (1 : Int32))), (6, .int l7), (4, .long v11), (8, .long v11), (0, .ref l0), (1, .int l1), (2, .int l2), (3, .int l3)] dX12_which_86 rfl rfl (Nat.le_of_ble_eq_true rfl) rfl ?_
        refine eg_goto 40 dX12_which_89 rfl ?_
        exact eg_sub [4, 5, 6, 7, 2, 1, 0] [(0, .ref l0), (1, .int l1), (2, .int l2), (3, .int l3), (4, .long v11), (6, .int l7), (7, .int (l7 + (1 : Int32)))] rfl (hrec h10 l0 l1 l2 l3 v11 l7 (l7 + (1 : Int32)) hF)
def fX12_which (h : eg_H) (l0 : Nat) (l1 : Int32) (l2 : Int32) (l3 : Int32) : Option (Int64 × eg_H) :=
  if eg_isO h 12 l0 then (
    (eg_gR h 12 3 l0).bind fun p1 =>
    (fX7_isPair h p1 l1).bind fun ⟨v4, h3⟩ =>
    if v4 = 0 then
      (some ((-1 : Int64), h3))
    else
      (fX12_isEnd h3 l2).bind fun ⟨v8, h7⟩ =>
      if v8 = 0 then
        (some ((-1 : Int64), h7))
      else
        (fX12_isEither h7 l3).bind fun ⟨v12, h11⟩ =>
        if v12 = 0 then
          (some ((-1 : Int64), h11))
        else
          (fX12_which_L40 eg_F h11 l0 l1 l2 l3 (-1 : Int64) (0 : Int32) (0 : Int32)).bind fun e =>
          match e with
          | (v17, v18, v19, h20) =>
            if v17 = 0 then
              (some (v19.toInt64, h20))
            else
              some (v18, h20)) else none
theorem fX12_which_O {h : eg_H} {l0 : Nat} {l1 : Int32} {l2 : Int32} {l3 : Int32} {rE : Int64} {hE : eg_H} (hF : fX12_which h l0 l1 l2 l3 = some (rE, hE)) : eg_isO h 12 l0 := (eg_ifn hF).1
set_option maxRecDepth 20000 in
theorem mX12_which {h : eg_H} {l0 : Nat} {l1 : Int32} {l2 : Int32} {l3 : Int32} {rE : Int64} {hE : eg_H} (hF : fX12_which h l0 l1 l2 l3 = some (rE, hE)) : eg_Met yX12_which cX12_which 10 (some .long) 8 [.ref l0, .int l1, .int l2, .int l3] h (some (.long rE)) hE := by
  refine eg_enter rfl (Nat.le_of_ble_eq_true rfl) ?_
  show eg_AW (RX12, cX12_which, 10, 8, none, "which", (some .long)) (eg_Zm (some (.long rE)) hE h) (eg_nc hE) (eg_ns hE) h 0 [(0, .ref l0), (1, .int l1), (2, .int l2), (3, .int l3)] [] h
  replace hF := (eg_ifn hF).2
  refine eg_aload_n (i := 0) 0 dX12_which_0 rfl rfl ?_
  replace hF := eg_bind hF; obtain ⟨p1, e2, hF⟩ := hF
  refine eg_getR dX12_which_1 e2 (Nat.le_of_ble_eq_true rfl) (Nat.le_of_ble_eq_true rfl) rfl ew_359 ?_
  refine eg_iload_n (i := 1) 1 dX12_which_4 rfl rfl ?_
  replace hF := eg_bind hF; obtain ⟨⟨v4, h3⟩, e5, hF⟩ := hF
  refine eg_callV (c := 7) (n := 1) [.int l1] dX12_which_5 (mX7_isPair e5) rfl (fX7_isPair_O e5) (Nat.le_of_ble_eq_true rfl) rfl ew_790 ew_791 ew_792 ew_104 ew_793 hy_X7_isPair rfl (Nat.le_of_ble_eq_true rfl) (Nat.le_of_ble_eq_true rfl) (Nat.le_of_ble_eq_true rfl) ?_
  refine eg_if_eq 25 dX12_which_8 rfl (fun c6 => ?_) (fun c6 => ?_)
  · replace hF := eg_it c6 hF
    refine eg_ldc2 (v := (-1 : Int64)) dX12_which_25 ew_984 ?_
    exact eg_lretE dX12_which_28 hF
  · replace hF := eg_if c6 hF
    refine eg_iload_n (i := 2) 2 dX12_which_11 rfl rfl ?_
    replace hF := eg_bind hF; obtain ⟨⟨v8, h7⟩, e9, hF⟩ := hF
    refine eg_callS (n := 1) [.int l2] dX12_which_12 (mX12_isEnd e9) rfl ew_733 ew_734 ew_100 ew_735 hy_X12_isEnd.2 rfl (Nat.le_of_ble_eq_true rfl) (Nat.le_of_ble_eq_true rfl) (Nat.le_of_ble_eq_true rfl) ?_
    refine eg_if_eq 25 dX12_which_15 rfl (fun c10 => ?_) (fun c10 => ?_)
    · replace hF := eg_it c10 hF
      refine eg_ldc2 (v := (-1 : Int64)) dX12_which_25 ew_984 ?_
      exact eg_lretE dX12_which_28 hF
    · replace hF := eg_if c10 hF
      refine eg_iload_n (i := 3) 3 dX12_which_18 rfl rfl ?_
      replace hF := eg_bind hF; obtain ⟨⟨v12, h11⟩, e13, hF⟩ := hF
      refine eg_callS (n := 1) [.int l3] dX12_which_19 (mX12_isEither e13) rfl ew_993 ew_994 ew_100 ew_995 hy_X12_isEither.2 rfl (Nat.le_of_ble_eq_true rfl) (Nat.le_of_ble_eq_true rfl) (Nat.le_of_ble_eq_true rfl) ?_
      refine eg_if_ne 29 dX12_which_22 rfl (fun c14 => ?_) (fun c14 => ?_)
      · replace hF := eg_it c14 hF
        refine eg_ldc2 (v := (-1 : Int64)) dX12_which_25 ew_984 ?_
        exact eg_lretE dX12_which_28 hF
      · replace hF := eg_if c14 hF
        refine eg_ldc2 (v := (-1 : Int64)) dX12_which_29 ew_984 ?_
        refine eg_lstore (i := 4) [(4, .long (-1 : Int64)), (0, .ref l0), (1, .int l1), (2, .int l2), (3, .int l3)] dX12_which_32 (Nat.le_of_ble_eq_true rfl) rfl ?_
        refine eg_iconst (v := (0 : Int32)) dX12_which_34 (by decide) ?_
        refine eg_istore (i := 6) [(6, .int (0 : Int32)), (4, .long (-1 : Int64)), (0, .ref l0), (1, .int l1), (2, .int l2), (3, .int l3)] dX12_which_35 (Nat.le_of_ble_eq_true rfl) rfl ?_
        refine eg_iconst (v := (0 : Int32)) dX12_which_37 (by decide) ?_
        refine eg_istore (i := 7) [(7, .int (0 : Int32)), (6, .int (0 : Int32)), (4, .long (-1 : Int64)), (0, .ref l0), (1, .int l1), (2, .int l2), (3, .int l3)] dX12_which_38 (Nat.le_of_ble_eq_true rfl) rfl ?_
        replace hF := eg_bind hF; obtain ⟨x16, e15, hF⟩ := hF
        refine eg_sub [3, 4, 5, 6, 2, 1, 0] [(0, .ref l0), (1, .int l1), (2, .int l2), (3, .int l3), (4, .long (-1 : Int64)), (6, .int (0 : Int32)), (7, .int (0 : Int32))] rfl (fX12_which_L40_ok eg_F h11 l0 l1 l2 l3 (-1 : Int64) (0 : Int32) (0 : Int32) x16 e15 ?_)
        · intro v17 v18 v19 h20 e22
          subst e22
          refine eg_iload_n (i := 3) 0 dX12_which_92 rfl rfl ?_
          refine eg_if_ne 102 dX12_which_93 rfl (fun c21 => ?_) (fun c21 => ?_)
          · replace hF := eg_it c21 hF
            refine eg_iload (i := 6) 2 dX12_which_96 rfl ?_
            refine eg_i2l dX12_which_98 ?_
            refine eg_goto 104 dX12_which_99 rfl ?_
            exact eg_lretE dX12_which_104 hF
          · replace hF := eg_if c21 hF
            refine eg_lload (i := 4) 1 dX12_which_102 rfl ?_
            exact eg_lretE dX12_which_104 hF
theorem dX12_lot_0 : decode cX12_lot 0 = .ok (.aload_n 0, 1) := by decide +kernel
theorem dX12_lot_1 : decode cX12_lot 1 = .ok (.getfield 35, 3) := by decide +kernel
theorem dX12_lot_4 : decode cX12_lot 4 = .ok (.invokevirtual 287, 3) := by decide +kernel
theorem dX12_lot_7 : decode cX12_lot 7 = .ok (.istore_n 3, 1) := by decide +kernel
theorem dX12_lot_8 : decode cX12_lot 8 = .ok (.aload_n 0, 1) := by decide +kernel
theorem dX12_lot_9 : decode cX12_lot 9 = .ok (.getfield 35, 3) := by decide +kernel
theorem dX12_lot_12 : decode cX12_lot 12 = .ok (.iload_n 1, 1) := by decide +kernel
theorem dX12_lot_13 : decode cX12_lot 13 = .ok (.invokevirtual 284, 3) := by decide +kernel
theorem dX12_lot_16 : decode cX12_lot 16 = .ok (.ifCond .eq 14, 3) := by decide +kernel
theorem dX12_lot_19 : decode cX12_lot 19 = .ok (.iload_n 2, 1) := by decide +kernel
theorem dX12_lot_20 : decode cX12_lot 20 = .ok (.invokestatic 216, 3) := by decide +kernel
theorem dX12_lot_23 : decode cX12_lot 23 = .ok (.ifCond .eq 7, 3) := by decide +kernel
theorem dX12_lot_26 : decode cX12_lot 26 = .ok (.iload_n 3, 1) := by decide +kernel
theorem dX12_lot_27 : decode cX12_lot 27 = .ok (.ifCond .gt 7, 3) := by decide +kernel
theorem dX12_lot_30 : decode cX12_lot 30 = .ok (.ldc2_w 314, 3) := by decide +kernel
theorem dX12_lot_33 : decode cX12_lot 33 = .ok (.lreturn, 1) := by decide +kernel
theorem dX12_lot_34 : decode cX12_lot 34 = .ok (.lconst 0, 1) := by decide +kernel
theorem dX12_lot_35 : decode cX12_lot 35 = .ok (.lstore 4, 2) := by decide +kernel
theorem dX12_lot_37 : decode cX12_lot 37 = .ok (.iconst 0, 1) := by decide +kernel
theorem dX12_lot_38 : decode cX12_lot 38 = .ok (.istore 6, 2) := by decide +kernel
theorem dX12_lot_40 : decode cX12_lot 40 = .ok (.iload 6, 2) := by decide +kernel
theorem dX12_lot_42 : decode cX12_lot 42 = .ok (.iload_n 3, 1) := by decide +kernel
theorem dX12_lot_43 : decode cX12_lot 43 = .ok (.if_icmp .ge 30, 3) := by decide +kernel
theorem dX12_lot_46 : decode cX12_lot 46 = .ok (.lload 4, 2) := by decide +kernel
theorem dX12_lot_48 : decode cX12_lot 48 = .ok (.aload_n 0, 1) := by decide +kernel
theorem dX12_lot_49 : decode cX12_lot 49 = .ok (.iconst 0, 1) := by decide +kernel
theorem dX12_lot_50 : decode cX12_lot 50 = .ok (.iload_n 1, 1) := by decide +kernel
theorem dX12_lot_51 : decode cX12_lot 51 = .ok (.bipush 10, 2) := by decide +kernel
theorem dX12_lot_53 : decode cX12_lot 53 = .ok (.iload 6, 2) := by decide +kernel
theorem dX12_lot_55 : decode cX12_lot 55 = .ok (.imul, 1) := by decide +kernel
theorem dX12_lot_56 : decode cX12_lot 56 = .ok (.iload_n 2, 1) := by decide +kernel
theorem dX12_lot_57 : decode cX12_lot 57 = .ok (.iadd, 1) := by decide +kernel
theorem dX12_lot_58 : decode cX12_lot 58 = .ok (.invokevirtual 304, 3) := by decide +kernel
theorem dX12_lot_61 : decode cX12_lot 61 = .ok (.invokevirtual 316, 3) := by decide +kernel
theorem dX12_lot_64 : decode cX12_lot 64 = .ok (.ladd, 1) := by decide +kernel
theorem dX12_lot_65 : decode cX12_lot 65 = .ok (.lstore 4, 2) := by decide +kernel
theorem dX12_lot_67 : decode cX12_lot 67 = .ok (.iinc 6 1, 3) := by decide +kernel
theorem dX12_lot_70 : decode cX12_lot 70 = .ok (.goto (-30), 3) := by decide +kernel
theorem dX12_lot_73 : decode cX12_lot 73 = .ok (.lload 4, 2) := by decide +kernel
theorem dX12_lot_75 : decode cX12_lot 75 = .ok (.iload_n 3, 1) := by decide +kernel
theorem dX12_lot_76 : decode cX12_lot 76 = .ok (.i2l, 1) := by decide +kernel
theorem dX12_lot_77 : decode cX12_lot 77 = .ok (.ldiv, 1) := by decide +kernel
theorem dX12_lot_78 : decode cX12_lot 78 = .ok (.lreturn, 1) := by decide +kernel
def fX12_lot_L40 : Nat → eg_H → Nat → Int32 → Int32 → Int32 → Int64 → Int32 → Option (Int32 × Int64 × eg_H)
  | 0, _, _, _, _, _, _, _ => none
  | n + 1, h, l0, l1, l2, l3, l4, l6 =>
    if l3 ≤ l6 then
      (some (l3, l4, h))
    else
      (fX12_goAlong h l0 (0 : Int32) l1 (((10 : Int32) * l6) + l2)).bind fun ⟨p3, h2⟩ =>
      (fX2_hopes h2 p3).bind fun ⟨v6, h5⟩ =>
      (some ((l4 + v6))).bind fun v8 =>
      fX12_lot_L40 n h5 l0 l1 l2 l3 v8 (l6 + (1 : Int32))
set_option maxRecDepth 20000 in
theorem fX12_lot_L40_ok {h0 : eg_H} {Z : eg_C → State → Prop} {N S : Nat} : ∀ (n : Nat) (h : eg_H) (l0 : Nat) (l1 : Int32) (l2 : Int32) (l3 : Int32) (l4 : Int64) (l6 : Int32) (eE : Int32 × Int64 × eg_H), fX12_lot_L40 n h l0 l1 l2 l3 l4 l6 = some eE → (hk0 : ∀ (l3 : Int32) (l4 : Int64) (h : eg_H), eE = (l3, l4, h) → eg_AW (RX12, cX12_lot, 7, 8, none, "lot", (some .long)) Z N S h0 73 [(3, .int l3), (4, .long l4)] [] h) → eg_AW (RX12, cX12_lot, 7, 8, none, "lot", (some .long)) Z N S h0 40 [(0, .ref l0), (1, .int l1), (2, .int l2), (3, .int l3), (4, .long l4), (6, .int l6)] [] h := by
  intro n
  induction n with
  | zero => intro h l0 l1 l2 l3 l4 l6 eE hF; exact absurd hF (by intro q; cases q)
  | succ n ih =>
    intro h l0 l1 l2 l3 l4 l6 eE hF hk0
    have hrec := fun (h' : eg_H) (l0 : Nat) (l1 : Int32) (l2 : Int32) (l3 : Int32) (l4 : Int64) (l6 : Int32) hq => ih h' l0 l1 l2 l3 l4 l6 eE hq hk0
    refine eg_iload (i := 6) 5 dX12_lot_40 rfl ?_
    refine eg_iload_n (i := 3) 3 dX12_lot_42 rfl rfl ?_
    refine eg_ic_ge 73 dX12_lot_43 rfl (fun c1 => ?_) (fun c1 => ?_)
    · replace hF := eg_it c1 hF
      exact eg_sub [3, 4] [(3, .int l3), (4, .long l4)] rfl (hk0 l3 l4 h (Option.some.inj hF).symm)
    · replace hF := eg_if c1 hF
      refine eg_lload (i := 4) 4 dX12_lot_46 rfl ?_
      refine eg_aload_n (i := 0) 0 dX12_lot_48 rfl rfl ?_
      refine eg_iconst (v := (0 : Int32)) dX12_lot_49 (by decide) ?_
      refine eg_iload_n (i := 1) 1 dX12_lot_50 rfl rfl ?_
      refine eg_bipush (v := (10 : Int32)) dX12_lot_51 (by decide) ?_
      refine eg_iload (i := 6) 5 dX12_lot_53 rfl ?_
      refine eg_imul dX12_lot_55 ?_
      refine eg_iload_n (i := 2) 2 dX12_lot_56 rfl rfl ?_
      refine eg_iadd dX12_lot_57 ?_
      replace hF := eg_bind hF; obtain ⟨⟨p3, h2⟩, e4, hF⟩ := hF
      refine eg_callV (c := 12) (n := 3) [.int (0 : Int32), .int l1, .int (((10 : Int32) * l6) + l2)] dX12_lot_58 (mX12_goAlong e4) rfl (fX12_goAlong_O e4) (Nat.le_of_ble_eq_true rfl) rfl ew_944 ew_946 ew_29 ew_100 ew_947 hy_X12_goAlong rfl (Nat.le_of_ble_eq_true rfl) (Nat.le_of_ble_eq_true rfl) (Nat.le_of_ble_eq_true rfl) ?_
      replace hF := eg_bind hF; obtain ⟨⟨v6, h5⟩, e7, hF⟩ := hF
      refine eg_callV (c := 2) (n := 0) [] dX12_lot_61 (mX2_hopes e7) rfl (fX2_hopes_O e7) (Nat.le_of_ble_eq_true rfl) rfl ew_985 ew_986 ew_987 ew_108 ew_988 hy_X2_hopes rfl (Nat.le_of_ble_eq_true rfl) (Nat.le_of_ble_eq_true rfl) (Nat.le_of_ble_eq_true rfl) ?_
      refine eg_ladd dX12_lot_64 ?_
      replace hF := eg_bind hF; obtain ⟨v8, e9, hF⟩ := hF
      replace e9 := Option.some.inj e9
      rw [e9]
      refine eg_lstore (i := 4) [(4, .long v8), (0, .ref l0), (1, .int l1), (2, .int l2), (3, .int l3), (6, .int l6)] dX12_lot_65 (Nat.le_of_ble_eq_true rfl) rfl ?_
      refine eg_iinc (i := 6) (v := (l6 + (1 : Int32))) 5 [(6, .int (l6 + (1 : Int32))), (4, .long v8), (0, .ref l0), (1, .int l1), (2, .int l2), (3, .int l3)] dX12_lot_67 rfl rfl (Nat.le_of_ble_eq_true rfl) rfl ?_
      refine eg_goto 40 dX12_lot_70 rfl ?_
      exact eg_sub [2, 3, 4, 5, 1, 0] [(0, .ref l0), (1, .int l1), (2, .int l2), (3, .int l3), (4, .long v8), (6, .int (l6 + (1 : Int32)))] rfl (hrec h5 l0 l1 l2 l3 v8 (l6 + (1 : Int32)) hF)
def fX12_lot (h : eg_H) (l0 : Nat) (l1 : Int32) (l2 : Int32) : Option (Int64 × eg_H) :=
  if eg_isO h 12 l0 then (
    (eg_gR h 12 3 l0).bind fun p1 =>
    (fX7_eggs h p1).bind fun ⟨v4, h3⟩ =>
    (eg_gR h3 12 3 l0).bind fun p6 =>
    (fX7_isPair h3 p6 l1).bind fun ⟨v9, h8⟩ =>
    if v9 = 0 then
      (some ((-1 : Int64), h8))
    else
      (fX12_isEnd h8 l2).bind fun ⟨v13, h12⟩ =>
      if v13 = 0 then
        (some ((-1 : Int64), h12))
      else
        if 0 < v4 then
          ((fX12_lot_L40 eg_F h12 l0 l1 l2 v4 (0 : Int64) (0 : Int32)).bind fun e =>
          match e with
          | (v19, v20, h21) =>
            if v19.toInt64 = 0 then none else
            some ((v20 / v19.toInt64), h21))
        else
          some ((-1 : Int64), h12)) else none
theorem fX12_lot_O {h : eg_H} {l0 : Nat} {l1 : Int32} {l2 : Int32} {rE : Int64} {hE : eg_H} (hF : fX12_lot h l0 l1 l2 = some (rE, hE)) : eg_isO h 12 l0 := (eg_ifn hF).1
set_option maxRecDepth 20000 in
theorem mX12_lot {h : eg_H} {l0 : Nat} {l1 : Int32} {l2 : Int32} {rE : Int64} {hE : eg_H} (hF : fX12_lot h l0 l1 l2 = some (rE, hE)) : eg_Met yX12_lot cX12_lot 7 (some .long) 8 [.ref l0, .int l1, .int l2] h (some (.long rE)) hE := by
  refine eg_enter rfl (Nat.le_of_ble_eq_true rfl) ?_
  show eg_AW (RX12, cX12_lot, 7, 8, none, "lot", (some .long)) (eg_Zm (some (.long rE)) hE h) (eg_nc hE) (eg_ns hE) h 0 [(0, .ref l0), (1, .int l1), (2, .int l2)] [] h
  replace hF := (eg_ifn hF).2
  refine eg_aload_n (i := 0) 0 dX12_lot_0 rfl rfl ?_
  replace hF := eg_bind hF; obtain ⟨p1, e2, hF⟩ := hF
  refine eg_getR dX12_lot_1 e2 (Nat.le_of_ble_eq_true rfl) (Nat.le_of_ble_eq_true rfl) rfl ew_359 ?_
  replace hF := eg_bind hF; obtain ⟨⟨v4, h3⟩, e5, hF⟩ := hF
  refine eg_callV (c := 7) (n := 0) [] dX12_lot_4 (mX7_eggs e5) rfl (fX7_eggs_O e5) (Nat.le_of_ble_eq_true rfl) rfl ew_922 ew_923 ew_924 ew_104 ew_925 hy_X7_eggs rfl (Nat.le_of_ble_eq_true rfl) (Nat.le_of_ble_eq_true rfl) (Nat.le_of_ble_eq_true rfl) ?_
  refine eg_istore_n (i := 3) [(3, .int v4), (0, .ref l0), (1, .int l1), (2, .int l2)] dX12_lot_7 rfl (Nat.le_of_ble_eq_true rfl) rfl ?_
  refine eg_aload_n (i := 0) 1 dX12_lot_8 rfl rfl ?_
  replace hF := eg_bind hF; obtain ⟨p6, e7, hF⟩ := hF
  refine eg_getR dX12_lot_9 e7 (Nat.le_of_ble_eq_true rfl) (Nat.le_of_ble_eq_true rfl) rfl ew_359 ?_
  refine eg_iload_n (i := 1) 2 dX12_lot_12 rfl rfl ?_
  replace hF := eg_bind hF; obtain ⟨⟨v9, h8⟩, e10, hF⟩ := hF
  refine eg_callV (c := 7) (n := 1) [.int l1] dX12_lot_13 (mX7_isPair e10) rfl (fX7_isPair_O e10) (Nat.le_of_ble_eq_true rfl) rfl ew_790 ew_791 ew_792 ew_104 ew_793 hy_X7_isPair rfl (Nat.le_of_ble_eq_true rfl) (Nat.le_of_ble_eq_true rfl) (Nat.le_of_ble_eq_true rfl) ?_
  refine eg_if_eq 30 dX12_lot_16 rfl (fun c11 => ?_) (fun c11 => ?_)
  · replace hF := eg_it c11 hF
    refine eg_ldc2 (v := (-1 : Int64)) dX12_lot_30 ew_984 ?_
    exact eg_lretE dX12_lot_33 hF
  · replace hF := eg_if c11 hF
    refine eg_iload_n (i := 2) 3 dX12_lot_19 rfl rfl ?_
    replace hF := eg_bind hF; obtain ⟨⟨v13, h12⟩, e14, hF⟩ := hF
    refine eg_callS (n := 1) [.int l2] dX12_lot_20 (mX12_isEnd e14) rfl ew_733 ew_734 ew_100 ew_735 hy_X12_isEnd.2 rfl (Nat.le_of_ble_eq_true rfl) (Nat.le_of_ble_eq_true rfl) (Nat.le_of_ble_eq_true rfl) ?_
    refine eg_if_eq 30 dX12_lot_23 rfl (fun c15 => ?_) (fun c15 => ?_)
    · replace hF := eg_it c15 hF
      refine eg_ldc2 (v := (-1 : Int64)) dX12_lot_30 ew_984 ?_
      exact eg_lretE dX12_lot_33 hF
    · replace hF := eg_if c15 hF
      refine eg_iload_n (i := 3) 0 dX12_lot_26 rfl rfl ?_
      refine eg_if_gt 34 dX12_lot_27 rfl (fun c16 => ?_) (fun c16 => ?_)
      · replace hF := eg_it c16 hF
        refine eg_lconst (v := (0 : Int64)) dX12_lot_34 (by decide) ?_
        refine eg_lstore (i := 4) [(4, .long (0 : Int64)), (3, .int v4), (0, .ref l0), (1, .int l1), (2, .int l2)] dX12_lot_35 (Nat.le_of_ble_eq_true rfl) rfl ?_
        refine eg_iconst (v := (0 : Int32)) dX12_lot_37 (by decide) ?_
        refine eg_istore (i := 6) [(6, .int (0 : Int32)), (4, .long (0 : Int64)), (3, .int v4), (0, .ref l0), (1, .int l1), (2, .int l2)] dX12_lot_38 (Nat.le_of_ble_eq_true rfl) rfl ?_
        replace hF := eg_bind hF; obtain ⟨x18, e17, hF⟩ := hF
        refine eg_sub [3, 4, 5, 2, 1, 0] [(0, .ref l0), (1, .int l1), (2, .int l2), (3, .int v4), (4, .long (0 : Int64)), (6, .int (0 : Int32))] rfl (fX12_lot_L40_ok eg_F h12 l0 l1 l2 v4 (0 : Int64) (0 : Int32) x18 e17 ?_)
        · intro v19 v20 h21 e23
          subst e23
          refine eg_lload (i := 4) 1 dX12_lot_73 rfl ?_
          refine eg_iload_n (i := 3) 0 dX12_lot_75 rfl rfl ?_
          refine eg_i2l dX12_lot_76 ?_
          replace hF := eg_nif hF; obtain ⟨c22, hF⟩ := hF
          refine eg_ldiv dX12_lot_77 c22 ?_
          exact eg_lretE dX12_lot_78 hF
      · replace hF := eg_if c16 hF
        refine eg_ldc2 (v := (-1 : Int64)) dX12_lot_30 ew_984 ?_
        exact eg_lretE dX12_lot_33 hF
theorem dX12_stride_0 : decode cX12_stride 0 = .ok (.aload_n 0, 1) := by decide +kernel
theorem dX12_stride_1 : decode cX12_stride 1 = .ok (.iload_n 1, 1) := by decide +kernel
theorem dX12_stride_2 : decode cX12_stride 2 = .ok (.iload_n 2, 1) := by decide +kernel
theorem dX12_stride_3 : decode cX12_stride 3 = .ok (.invokevirtual 269, 3) := by decide +kernel
theorem dX12_stride_6 : decode cX12_stride 6 = .ok (.ifCond .eq 10, 3) := by decide +kernel
theorem dX12_stride_9 : decode cX12_stride 9 = .ok (.iload_n 3, 1) := by decide +kernel
theorem dX12_stride_10 : decode cX12_stride 10 = .ok (.invokestatic 320, 3) := by decide +kernel
theorem dX12_stride_13 : decode cX12_stride 13 = .ok (.ifCond .ne 7, 3) := by decide +kernel
theorem dX12_stride_16 : decode cX12_stride 16 = .ok (.ldc2_w 314, 3) := by decide +kernel
theorem dX12_stride_19 : decode cX12_stride 19 = .ok (.lreturn, 1) := by decide +kernel
theorem dX12_stride_20 : decode cX12_stride 20 = .ok (.ldc2_w 314, 3) := by decide +kernel
theorem dX12_stride_23 : decode cX12_stride 23 = .ok (.lstore 4, 2) := by decide +kernel
theorem dX12_stride_25 : decode cX12_stride 25 = .ok (.iconst 0, 1) := by decide +kernel
theorem dX12_stride_26 : decode cX12_stride 26 = .ok (.istore 6, 2) := by decide +kernel
theorem dX12_stride_28 : decode cX12_stride 28 = .ok (.getstatic 203, 3) := by decide +kernel
theorem dX12_stride_31 : decode cX12_stride 31 = .ok (.iconst 2, 1) := by decide +kernel
theorem dX12_stride_32 : decode cX12_stride 32 = .ok (.iaload, 1) := by decide +kernel
theorem dX12_stride_33 : decode cX12_stride 33 = .ok (.istore 7, 2) := by decide +kernel
theorem dX12_stride_35 : decode cX12_stride 35 = .ok (.iload 7, 2) := by decide +kernel
theorem dX12_stride_37 : decode cX12_stride 37 = .ok (.getstatic 206, 3) := by decide +kernel
theorem dX12_stride_40 : decode cX12_stride 40 = .ok (.iconst 2, 1) := by decide +kernel
theorem dX12_stride_41 : decode cX12_stride 41 = .ok (.iaload, 1) := by decide +kernel
theorem dX12_stride_42 : decode cX12_stride 42 = .ok (.if_icmp .gt 61, 3) := by decide +kernel
theorem dX12_stride_45 : decode cX12_stride 45 = .ok (.aload_n 0, 1) := by decide +kernel
theorem dX12_stride_46 : decode cX12_stride 46 = .ok (.getfield 107, 3) := by decide +kernel
theorem dX12_stride_49 : decode cX12_stride 49 = .ok (.iconst 0, 1) := by decide +kernel
theorem dX12_stride_50 : decode cX12_stride 50 = .ok (.aaload, 1) := by decide +kernel
theorem dX12_stride_51 : decode cX12_stride 51 = .ok (.astore 8, 2) := by decide +kernel
theorem dX12_stride_53 : decode cX12_stride 53 = .ok (.aload 8, 2) := by decide +kernel
theorem dX12_stride_55 : decode cX12_stride 55 = .ok (.aload_n 0, 1) := by decide +kernel
theorem dX12_stride_56 : decode cX12_stride 56 = .ok (.getfield 101, 3) := by decide +kernel
theorem dX12_stride_59 : decode cX12_stride 59 = .ok (.iload_n 1, 1) := by decide +kernel
theorem dX12_stride_60 : decode cX12_stride 60 = .ok (.iload_n 2, 1) := by decide +kernel
theorem dX12_stride_61 : decode cX12_stride 61 = .ok (.iload 7, 2) := by decide +kernel
theorem dX12_stride_63 : decode cX12_stride 63 = .ok (.aload_n 0, 1) := by decide +kernel
theorem dX12_stride_64 : decode cX12_stride 64 = .ok (.getfield 35, 3) := by decide +kernel
theorem dX12_stride_67 : decode cX12_stride 67 = .ok (.iconst 0, 1) := by decide +kernel
theorem dX12_stride_68 : decode cX12_stride 68 = .ok (.invokevirtual 209, 3) := by decide +kernel
theorem dX12_stride_71 : decode cX12_stride 71 = .ok (.invokevirtual 331, 3) := by decide +kernel
theorem dX12_stride_74 : decode cX12_stride 74 = .ok (.aload 8, 2) := by decide +kernel
theorem dX12_stride_76 : decode cX12_stride 76 = .ok (.invokevirtual 335, 3) := by decide +kernel
theorem dX12_stride_79 : decode cX12_stride 79 = .ok (.lstore 9, 2) := by decide +kernel
theorem dX12_stride_81 : decode cX12_stride 81 = .ok (.lload 9, 2) := by decide +kernel
theorem dX12_stride_83 : decode cX12_stride 83 = .ok (.lload 4, 2) := by decide +kernel
theorem dX12_stride_85 : decode cX12_stride 85 = .ok (.lcmp, 1) := by decide +kernel
theorem dX12_stride_86 : decode cX12_stride 86 = .ok (.ifCond .le 11, 3) := by decide +kernel
theorem dX12_stride_89 : decode cX12_stride 89 = .ok (.lload 9, 2) := by decide +kernel
theorem dX12_stride_91 : decode cX12_stride 91 = .ok (.lstore 4, 2) := by decide +kernel
theorem dX12_stride_93 : decode cX12_stride 93 = .ok (.iload 7, 2) := by decide +kernel
theorem dX12_stride_95 : decode cX12_stride 95 = .ok (.istore 6, 2) := by decide +kernel
theorem dX12_stride_97 : decode cX12_stride 97 = .ok (.iinc 7 1, 3) := by decide +kernel
theorem dX12_stride_100 : decode cX12_stride 100 = .ok (.goto (-65), 3) := by decide +kernel
theorem dX12_stride_103 : decode cX12_stride 103 = .ok (.iload_n 3, 1) := by decide +kernel
theorem dX12_stride_104 : decode cX12_stride 104 = .ok (.ifCond .ne 9, 3) := by decide +kernel
theorem dX12_stride_107 : decode cX12_stride 107 = .ok (.iload 6, 2) := by decide +kernel
theorem dX12_stride_109 : decode cX12_stride 109 = .ok (.i2l, 1) := by decide +kernel
theorem dX12_stride_110 : decode cX12_stride 110 = .ok (.goto 5, 3) := by decide +kernel
theorem dX12_stride_113 : decode cX12_stride 113 = .ok (.lload 4, 2) := by decide +kernel
theorem dX12_stride_115 : decode cX12_stride 115 = .ok (.lreturn, 1) := by decide +kernel
def fX12_stride_L35 : Nat → eg_H → Nat → Int32 → Int32 → Int32 → Int64 → Int32 → Int32 → Option (Int32 × Int64 × Int32 × eg_H)
  | 0, _, _, _, _, _, _, _, _ => none
  | n + 1, h, l0, l1, l2, l3, l4, l6, l7 =>
    (eg_tI 3 (2 : Int32)).bind fun v1 =>
    if v1 < l7 then
      (some (l3, l4, l6, h))
    else
      (eg_gR h 12 17 l0).bind fun p4 =>
      (eg_aR h 112 p4 (0 : Int32)).bind fun p6 =>
      (eg_gR h 12 16 l0).bind fun p8 =>
      (eg_gR h 12 3 l0).bind fun p10 =>
      (fX7_told h p10 (0 : Int32)).bind fun ⟨v13, h12⟩ =>
      (fX2_fill h12 p6 p8 l1 l2 l7 v13).bind fun h15 =>
      (fX2_gains h15 p6).bind fun ⟨v18, h17⟩ =>
      if v18 ≤ l4 then
        (fX12_stride_L35 n h17 l0 l1 l2 l3 l4 l6 (l7 + (1 : Int32)))
      else
        fX12_stride_L35 n h17 l0 l1 l2 l3 v18 l7 (l7 + (1 : Int32))
set_option maxRecDepth 20000 in
theorem fX12_stride_L35_ok {h0 : eg_H} {Z : eg_C → State → Prop} {N S : Nat} : ∀ (n : Nat) (h : eg_H) (l0 : Nat) (l1 : Int32) (l2 : Int32) (l3 : Int32) (l4 : Int64) (l6 : Int32) (l7 : Int32) (eE : Int32 × Int64 × Int32 × eg_H), fX12_stride_L35 n h l0 l1 l2 l3 l4 l6 l7 = some eE → (hk0 : ∀ (l3 : Int32) (l4 : Int64) (l6 : Int32) (h : eg_H), eE = (l3, l4, l6, h) → eg_AW (RX12, cX12_stride, 11, 7, none, "stride", (some .long)) Z N S h0 103 [(3, .int l3), (4, .long l4), (6, .int l6)] [] h) → eg_AW (RX12, cX12_stride, 11, 7, none, "stride", (some .long)) Z N S h0 35 [(0, .ref l0), (1, .int l1), (2, .int l2), (3, .int l3), (4, .long l4), (6, .int l6), (7, .int l7)] [] h := by
  intro n
  induction n with
  | zero => intro h l0 l1 l2 l3 l4 l6 l7 eE hF; exact absurd hF (by intro q; cases q)
  | succ n ih =>
    intro h l0 l1 l2 l3 l4 l6 l7 eE hF hk0
    have hrec := fun (h' : eg_H) (l0 : Nat) (l1 : Int32) (l2 : Int32) (l3 : Int32) (l4 : Int64) (l6 : Int32) (l7 : Int32) hq => ih h' l0 l1 l2 l3 l4 l6 l7 eE hq hk0
    refine eg_iload (i := 7) 6 dX12_stride_35 rfl ?_
    refine eg_gets (k := 3) dX12_stride_37 (Nat.le_of_ble_eq_true rfl) (Nat.le_of_ble_eq_true rfl) ew_716 ?_
    refine eg_iconst (v := (2 : Int32)) dX12_stride_40 (by decide) ?_
    replace hF := eg_bind hF; obtain ⟨v1, e2, hF⟩ := hF
    refine eg_tald dX12_stride_41 (Nat.le_of_ble_eq_true rfl) (Nat.le_of_ble_eq_true rfl) e2 ?_
    refine eg_ic_gt 103 dX12_stride_42 rfl (fun c3 => ?_) (fun c3 => ?_)
    · replace hF := eg_it c3 hF
      exact eg_sub [3, 4, 5] [(3, .int l3), (4, .long l4), (6, .int l6)] rfl (hk0 l3 l4 l6 h (Option.some.inj hF).symm)
    · replace hF := eg_if c3 hF
      refine eg_aload_n (i := 0) 0 dX12_stride_45 rfl rfl ?_
      replace hF := eg_bind hF; obtain ⟨p4, e5, hF⟩ := hF
      refine eg_getR dX12_stride_46 e5 (Nat.le_of_ble_eq_true rfl) (Nat.le_of_ble_eq_true rfl) rfl ew_373 ?_
      refine eg_iconst (v := (0 : Int32)) dX12_stride_49 (by decide) ?_
      replace hF := eg_bind hF; obtain ⟨p6, e7, hF⟩ := hF
      refine eg_aaldr (c := 2) dX12_stride_50 e7 (Nat.le_of_ble_eq_true rfl) (Nat.le_of_ble_eq_true rfl) ?_
      refine eg_astore (i := 8) [(8, .ref p6), (0, .ref l0), (1, .int l1), (2, .int l2), (3, .int l3), (4, .long l4), (6, .int l6), (7, .int l7)] dX12_stride_51 (Nat.le_of_ble_eq_true rfl) rfl ?_
      refine eg_aload (i := 8) 0 dX12_stride_53 rfl ?_
      refine eg_aload_n (i := 0) 1 dX12_stride_55 rfl rfl ?_
      replace hF := eg_bind hF; obtain ⟨p8, e9, hF⟩ := hF
      refine eg_getR dX12_stride_56 e9 (Nat.le_of_ble_eq_true rfl) (Nat.le_of_ble_eq_true rfl) rfl ew_372 ?_
      refine eg_iload_n (i := 1) 2 dX12_stride_59 rfl rfl ?_
      refine eg_iload_n (i := 2) 3 dX12_stride_60 rfl rfl ?_
      refine eg_iload (i := 7) 7 dX12_stride_61 rfl ?_
      refine eg_aload_n (i := 0) 1 dX12_stride_63 rfl rfl ?_
      replace hF := eg_bind hF; obtain ⟨p10, e11, hF⟩ := hF
      refine eg_getR dX12_stride_64 e11 (Nat.le_of_ble_eq_true rfl) (Nat.le_of_ble_eq_true rfl) rfl ew_359 ?_
      refine eg_iconst (v := (0 : Int32)) dX12_stride_67 (by decide) ?_
      replace hF := eg_bind hF; obtain ⟨⟨v13, h12⟩, e14, hF⟩ := hF
      refine eg_callV (c := 7) (n := 1) [.int (0 : Int32)] dX12_stride_68 (mX7_told e14) rfl (fX7_told_O e14) (Nat.le_of_ble_eq_true rfl) rfl ew_717 ew_718 ew_719 ew_104 ew_720 hy_X7_told rfl (Nat.le_of_ble_eq_true rfl) (Nat.le_of_ble_eq_true rfl) (Nat.le_of_ble_eq_true rfl) ?_
      replace hF := eg_bind hF; obtain ⟨h15, e16, hF⟩ := hF
      refine eg_callV (c := 2) (n := 5) [.ref p8, .int l1, .int l2, .int l7, .int v13] dX12_stride_71 (mX2_fill e16) rfl (fX2_fill_O e16) (Nat.le_of_ble_eq_true rfl) rfl ew_948 ew_949 ew_950 ew_108 ew_951 hy_X2_fill rfl (Nat.le_of_ble_eq_true rfl) (Nat.le_of_ble_eq_true rfl) (Nat.le_of_ble_eq_true rfl) ?_
      refine eg_aload (i := 8) 0 dX12_stride_74 rfl ?_
      replace hF := eg_bind hF; obtain ⟨⟨v18, h17⟩, e19, hF⟩ := hF
      refine eg_callV (c := 2) (n := 0) [] dX12_stride_76 (mX2_gains e19) rfl (fX2_gains_O e19) (Nat.le_of_ble_eq_true rfl) rfl ew_1012 ew_1013 ew_1014 ew_108 ew_1015 hy_X2_gains rfl (Nat.le_of_ble_eq_true rfl) (Nat.le_of_ble_eq_true rfl) (Nat.le_of_ble_eq_true rfl) ?_
      refine eg_lstore (i := 9) [(9, .long v18), (8, .ref p6), (0, .ref l0), (1, .int l1), (2, .int l2), (3, .int l3), (4, .long l4), (6, .int l6), (7, .int l7)] dX12_stride_79 (Nat.le_of_ble_eq_true rfl) rfl ?_
      refine eg_lload (i := 9) 0 dX12_stride_81 rfl ?_
      refine eg_lload (i := 4) 6 dX12_stride_83 rfl ?_
      refine eg_lc_le 97 dX12_stride_85 dX12_stride_86 rfl (fun c20 => ?_) (fun c20 => ?_)
      · replace hF := eg_it c20 hF
        refine eg_iinc (i := 7) (v := (l7 + (1 : Int32))) 8 [(7, .int (l7 + (1 : Int32))), (9, .long v18), (8, .ref p6), (0, .ref l0), (1, .int l1), (2, .int l2), (3, .int l3), (4, .long l4), (6, .int l6)] dX12_stride_97 rfl rfl (Nat.le_of_ble_eq_true rfl) rfl ?_
        refine eg_goto 35 dX12_stride_100 rfl ?_
        exact eg_sub [3, 4, 5, 6, 7, 8, 0] [(0, .ref l0), (1, .int l1), (2, .int l2), (3, .int l3), (4, .long l4), (6, .int l6), (7, .int (l7 + (1 : Int32)))] rfl (hrec h17 l0 l1 l2 l3 l4 l6 (l7 + (1 : Int32)) hF)
      · replace hF := eg_if c20 hF
        refine eg_lload (i := 9) 0 dX12_stride_89 rfl ?_
        refine eg_lstore (i := 4) [(4, .long v18), (9, .long v18), (8, .ref p6), (0, .ref l0), (1, .int l1), (2, .int l2), (3, .int l3), (6, .int l6), (7, .int l7)] dX12_stride_91 (Nat.le_of_ble_eq_true rfl) rfl ?_
        refine eg_iload (i := 7) 8 dX12_stride_93 rfl ?_
        refine eg_istore (i := 6) [(6, .int l7), (4, .long v18), (9, .long v18), (8, .ref p6), (0, .ref l0), (1, .int l1), (2, .int l2), (3, .int l3), (7, .int l7)] dX12_stride_95 (Nat.le_of_ble_eq_true rfl) rfl ?_
        refine eg_iinc (i := 7) (v := (l7 + (1 : Int32))) 8 [(7, .int (l7 + (1 : Int32))), (6, .int l7), (4, .long v18), (9, .long v18), (8, .ref p6), (0, .ref l0), (1, .int l1), (2, .int l2), (3, .int l3)] dX12_stride_97 rfl rfl (Nat.le_of_ble_eq_true rfl) rfl ?_
        refine eg_goto 35 dX12_stride_100 rfl ?_
        exact eg_sub [5, 6, 7, 8, 2, 1, 0] [(0, .ref l0), (1, .int l1), (2, .int l2), (3, .int l3), (4, .long v18), (6, .int l7), (7, .int (l7 + (1 : Int32)))] rfl (hrec h17 l0 l1 l2 l3 v18 l7 (l7 + (1 : Int32)) hF)
def fX12_stride (h : eg_H) (l0 : Nat) (l1 : Int32) (l2 : Int32) (l3 : Int32) : Option (Int64 × eg_H) :=
  if eg_isO h 12 l0 then (
    (fX12_isCourse h l0 l1 l2).bind fun ⟨v2, h1⟩ =>
    if v2 = 0 then
      (some ((-1 : Int64), h1))
    else
      (fX12_isEither h1 l3).bind fun ⟨v6, h5⟩ =>
      if v6 = 0 then
        (some ((-1 : Int64), h5))
      else
        (eg_tI 2 (2 : Int32)).bind fun v9 =>
        (fX12_stride_L35 eg_F h5 l0 l1 l2 l3 (-1 : Int64) (0 : Int32) v9).bind fun e =>
        match e with
        | (v13, v14, v15, h16) =>
          if v13 = 0 then
            (some (v15.toInt64, h16))
          else
            some (v14, h16)) else none
theorem fX12_stride_O {h : eg_H} {l0 : Nat} {l1 : Int32} {l2 : Int32} {l3 : Int32} {rE : Int64} {hE : eg_H} (hF : fX12_stride h l0 l1 l2 l3 = some (rE, hE)) : eg_isO h 12 l0 := (eg_ifn hF).1
set_option maxRecDepth 20000 in
theorem mX12_stride {h : eg_H} {l0 : Nat} {l1 : Int32} {l2 : Int32} {l3 : Int32} {rE : Int64} {hE : eg_H} (hF : fX12_stride h l0 l1 l2 l3 = some (rE, hE)) : eg_Met yX12_stride cX12_stride 11 (some .long) 7 [.ref l0, .int l1, .int l2, .int l3] h (some (.long rE)) hE := by
  refine eg_enter rfl (Nat.le_of_ble_eq_true rfl) ?_
  show eg_AW (RX12, cX12_stride, 11, 7, none, "stride", (some .long)) (eg_Zm (some (.long rE)) hE h) (eg_nc hE) (eg_ns hE) h 0 [(0, .ref l0), (1, .int l1), (2, .int l2), (3, .int l3)] [] h
  replace hF := (eg_ifn hF).2
  refine eg_aload_n (i := 0) 0 dX12_stride_0 rfl rfl ?_
  refine eg_iload_n (i := 1) 1 dX12_stride_1 rfl rfl ?_
  refine eg_iload_n (i := 2) 2 dX12_stride_2 rfl rfl ?_
  replace hF := eg_bind hF; obtain ⟨⟨v2, h1⟩, e3, hF⟩ := hF
  refine eg_callV (c := 12) (n := 2) [.int l1, .int l2] dX12_stride_3 (mX12_isCourse e3) rfl (fX12_isCourse_O e3) (Nat.le_of_ble_eq_true rfl) rfl ew_786 ew_788 ew_24 ew_100 ew_789 hy_X12_isCourse rfl (Nat.le_of_ble_eq_true rfl) (Nat.le_of_ble_eq_true rfl) (Nat.le_of_ble_eq_true rfl) ?_
  refine eg_if_eq 16 dX12_stride_6 rfl (fun c4 => ?_) (fun c4 => ?_)
  · replace hF := eg_it c4 hF
    refine eg_ldc2 (v := (-1 : Int64)) dX12_stride_16 ew_984 ?_
    exact eg_lretE dX12_stride_19 hF
  · replace hF := eg_if c4 hF
    refine eg_iload_n (i := 3) 3 dX12_stride_9 rfl rfl ?_
    replace hF := eg_bind hF; obtain ⟨⟨v6, h5⟩, e7, hF⟩ := hF
    refine eg_callS (n := 1) [.int l3] dX12_stride_10 (mX12_isEither e7) rfl ew_993 ew_994 ew_100 ew_995 hy_X12_isEither.2 rfl (Nat.le_of_ble_eq_true rfl) (Nat.le_of_ble_eq_true rfl) (Nat.le_of_ble_eq_true rfl) ?_
    refine eg_if_ne 20 dX12_stride_13 rfl (fun c8 => ?_) (fun c8 => ?_)
    · replace hF := eg_it c8 hF
      refine eg_ldc2 (v := (-1 : Int64)) dX12_stride_16 ew_984 ?_
      exact eg_lretE dX12_stride_19 hF
    · replace hF := eg_if c8 hF
      refine eg_ldc2 (v := (-1 : Int64)) dX12_stride_20 ew_984 ?_
      refine eg_lstore (i := 4) [(4, .long (-1 : Int64)), (0, .ref l0), (1, .int l1), (2, .int l2), (3, .int l3)] dX12_stride_23 (Nat.le_of_ble_eq_true rfl) rfl ?_
      refine eg_iconst (v := (0 : Int32)) dX12_stride_25 (by decide) ?_
      refine eg_istore (i := 6) [(6, .int (0 : Int32)), (4, .long (-1 : Int64)), (0, .ref l0), (1, .int l1), (2, .int l2), (3, .int l3)] dX12_stride_26 (Nat.le_of_ble_eq_true rfl) rfl ?_
      refine eg_gets (k := 2) dX12_stride_28 (Nat.le_of_ble_eq_true rfl) (Nat.le_of_ble_eq_true rfl) ew_715 ?_
      refine eg_iconst (v := (2 : Int32)) dX12_stride_31 (by decide) ?_
      replace hF := eg_bind hF; obtain ⟨v9, e10, hF⟩ := hF
      refine eg_tald dX12_stride_32 (Nat.le_of_ble_eq_true rfl) (Nat.le_of_ble_eq_true rfl) e10 ?_
      refine eg_istore (i := 7) [(7, .int v9), (6, .int (0 : Int32)), (4, .long (-1 : Int64)), (0, .ref l0), (1, .int l1), (2, .int l2), (3, .int l3)] dX12_stride_33 (Nat.le_of_ble_eq_true rfl) rfl ?_
      replace hF := eg_bind hF; obtain ⟨x12, e11, hF⟩ := hF
      refine eg_sub [3, 4, 5, 6, 2, 1, 0] [(0, .ref l0), (1, .int l1), (2, .int l2), (3, .int l3), (4, .long (-1 : Int64)), (6, .int (0 : Int32)), (7, .int v9)] rfl (fX12_stride_L35_ok eg_F h5 l0 l1 l2 l3 (-1 : Int64) (0 : Int32) v9 x12 e11 ?_)
      · intro v13 v14 v15 h16 e18
        subst e18
        refine eg_iload_n (i := 3) 0 dX12_stride_103 rfl rfl ?_
        refine eg_if_ne 113 dX12_stride_104 rfl (fun c17 => ?_) (fun c17 => ?_)
        · replace hF := eg_it c17 hF
          refine eg_iload (i := 6) 2 dX12_stride_107 rfl ?_
          refine eg_i2l dX12_stride_109 ?_
          refine eg_goto 115 dX12_stride_110 rfl ?_
          exact eg_lretE dX12_stride_115 hF
        · replace hF := eg_if c17 hF
          refine eg_lload (i := 4) 1 dX12_stride_113 rfl ?_
          exact eg_lretE dX12_stride_115 hF
theorem dX12_hopesIn_0 : decode cX12_hopesIn 0 = .ok (.aload_n 0, 1) := by decide +kernel
theorem dX12_hopesIn_1 : decode cX12_hopesIn 1 = .ok (.getfield 107, 3) := by decide +kernel
theorem dX12_hopesIn_4 : decode cX12_hopesIn 4 = .ok (.iconst 0, 1) := by decide +kernel
theorem dX12_hopesIn_5 : decode cX12_hopesIn 5 = .ok (.aaload, 1) := by decide +kernel
theorem dX12_hopesIn_6 : decode cX12_hopesIn 6 = .ok (.aload_n 0, 1) := by decide +kernel
theorem dX12_hopesIn_7 : decode cX12_hopesIn 7 = .ok (.getfield 101, 3) := by decide +kernel
theorem dX12_hopesIn_10 : decode cX12_hopesIn 10 = .ok (.iload_n 2, 1) := by decide +kernel
theorem dX12_hopesIn_11 : decode cX12_hopesIn 11 = .ok (.iload_n 3, 1) := by decide +kernel
theorem dX12_hopesIn_12 : decode cX12_hopesIn 12 = .ok (.aload_n 0, 1) := by decide +kernel
theorem dX12_hopesIn_13 : decode cX12_hopesIn 13 = .ok (.getfield 35, 3) := by decide +kernel
theorem dX12_hopesIn_16 : decode cX12_hopesIn 16 = .ok (.iconst 2, 1) := by decide +kernel
theorem dX12_hopesIn_17 : decode cX12_hopesIn 17 = .ok (.invokevirtual 209, 3) := by decide +kernel
theorem dX12_hopesIn_20 : decode cX12_hopesIn 20 = .ok (.iload_n 1, 1) := by decide +kernel
theorem dX12_hopesIn_21 : decode cX12_hopesIn 21 = .ok (.invokevirtual 331, 3) := by decide +kernel
theorem dX12_hopesIn_24 : decode cX12_hopesIn 24 = .ok (.aload_n 0, 1) := by decide +kernel
theorem dX12_hopesIn_25 : decode cX12_hopesIn 25 = .ok (.getfield 107, 3) := by decide +kernel
theorem dX12_hopesIn_28 : decode cX12_hopesIn 28 = .ok (.iconst 0, 1) := by decide +kernel
theorem dX12_hopesIn_29 : decode cX12_hopesIn 29 = .ok (.aaload, 1) := by decide +kernel
theorem dX12_hopesIn_30 : decode cX12_hopesIn 30 = .ok (.invokevirtual 316, 3) := by decide +kernel
theorem dX12_hopesIn_33 : decode cX12_hopesIn 33 = .ok (.lreturn, 1) := by decide +kernel
def fX12_hopesIn (h : eg_H) (l0 : Nat) (l1 : Int32) (l2 : Int32) (l3 : Int32) : Option (Int64 × eg_H) :=
  if eg_isO h 12 l0 then (
    (eg_gR h 12 17 l0).bind fun p1 =>
    (eg_aR h 112 p1 (0 : Int32)).bind fun p3 =>
    (eg_gR h 12 16 l0).bind fun p5 =>
    (eg_gR h 12 3 l0).bind fun p7 =>
    (fX7_told h p7 (2 : Int32)).bind fun ⟨v10, h9⟩ =>
    (fX2_fill h9 p3 p5 l2 l3 v10 l1).bind fun h12 =>
    (eg_gR h12 12 17 l0).bind fun p14 =>
    (eg_aR h12 112 p14 (0 : Int32)).bind fun p16 =>
    (fX2_hopes h12 p16).bind fun ⟨v19, h18⟩ =>
    some (v19, h18)) else none
theorem fX12_hopesIn_O {h : eg_H} {l0 : Nat} {l1 : Int32} {l2 : Int32} {l3 : Int32} {rE : Int64} {hE : eg_H} (hF : fX12_hopesIn h l0 l1 l2 l3 = some (rE, hE)) : eg_isO h 12 l0 := (eg_ifn hF).1
set_option maxRecDepth 20000 in
theorem mX12_hopesIn {h : eg_H} {l0 : Nat} {l1 : Int32} {l2 : Int32} {l3 : Int32} {rE : Int64} {hE : eg_H} (hF : fX12_hopesIn h l0 l1 l2 l3 = some (rE, hE)) : eg_Met yX12_hopesIn cX12_hopesIn 4 (some .long) 7 [.ref l0, .int l1, .int l2, .int l3] h (some (.long rE)) hE := by
  refine eg_enter rfl (Nat.le_of_ble_eq_true rfl) ?_
  show eg_AW (RX12, cX12_hopesIn, 4, 7, none, "hopesIn", (some .long)) (eg_Zm (some (.long rE)) hE h) (eg_nc hE) (eg_ns hE) h 0 [(0, .ref l0), (1, .int l1), (2, .int l2), (3, .int l3)] [] h
  replace hF := (eg_ifn hF).2
  refine eg_aload_n (i := 0) 0 dX12_hopesIn_0 rfl rfl ?_
  replace hF := eg_bind hF; obtain ⟨p1, e2, hF⟩ := hF
  refine eg_getR dX12_hopesIn_1 e2 (Nat.le_of_ble_eq_true rfl) (Nat.le_of_ble_eq_true rfl) rfl ew_373 ?_
  refine eg_iconst (v := (0 : Int32)) dX12_hopesIn_4 (by decide) ?_
  replace hF := eg_bind hF; obtain ⟨p3, e4, hF⟩ := hF
  refine eg_aaldr (c := 2) dX12_hopesIn_5 e4 (Nat.le_of_ble_eq_true rfl) (Nat.le_of_ble_eq_true rfl) ?_
  refine eg_aload_n (i := 0) 0 dX12_hopesIn_6 rfl rfl ?_
  replace hF := eg_bind hF; obtain ⟨p5, e6, hF⟩ := hF
  refine eg_getR dX12_hopesIn_7 e6 (Nat.le_of_ble_eq_true rfl) (Nat.le_of_ble_eq_true rfl) rfl ew_372 ?_
  refine eg_iload_n (i := 2) 2 dX12_hopesIn_10 rfl rfl ?_
  refine eg_iload_n (i := 3) 3 dX12_hopesIn_11 rfl rfl ?_
  refine eg_aload_n (i := 0) 0 dX12_hopesIn_12 rfl rfl ?_
  replace hF := eg_bind hF; obtain ⟨p7, e8, hF⟩ := hF
  refine eg_getR dX12_hopesIn_13 e8 (Nat.le_of_ble_eq_true rfl) (Nat.le_of_ble_eq_true rfl) rfl ew_359 ?_
  refine eg_iconst (v := (2 : Int32)) dX12_hopesIn_16 (by decide) ?_
  replace hF := eg_bind hF; obtain ⟨⟨v10, h9⟩, e11, hF⟩ := hF
  refine eg_callV (c := 7) (n := 1) [.int (2 : Int32)] dX12_hopesIn_17 (mX7_told e11) rfl (fX7_told_O e11) (Nat.le_of_ble_eq_true rfl) rfl ew_717 ew_718 ew_719 ew_104 ew_720 hy_X7_told rfl (Nat.le_of_ble_eq_true rfl) (Nat.le_of_ble_eq_true rfl) (Nat.le_of_ble_eq_true rfl) ?_
  refine eg_iload_n (i := 1) 1 dX12_hopesIn_20 rfl rfl ?_
  replace hF := eg_bind hF; obtain ⟨h12, e13, hF⟩ := hF
  refine eg_callV (c := 2) (n := 5) [.ref p5, .int l2, .int l3, .int v10, .int l1] dX12_hopesIn_21 (mX2_fill e13) rfl (fX2_fill_O e13) (Nat.le_of_ble_eq_true rfl) rfl ew_948 ew_949 ew_950 ew_108 ew_951 hy_X2_fill rfl (Nat.le_of_ble_eq_true rfl) (Nat.le_of_ble_eq_true rfl) (Nat.le_of_ble_eq_true rfl) ?_
  refine eg_aload_n (i := 0) 0 dX12_hopesIn_24 rfl rfl ?_
  replace hF := eg_bind hF; obtain ⟨p14, e15, hF⟩ := hF
  refine eg_getR dX12_hopesIn_25 e15 (Nat.le_of_ble_eq_true rfl) (Nat.le_of_ble_eq_true rfl) rfl ew_373 ?_
  refine eg_iconst (v := (0 : Int32)) dX12_hopesIn_28 (by decide) ?_
  replace hF := eg_bind hF; obtain ⟨p16, e17, hF⟩ := hF
  refine eg_aaldr (c := 2) dX12_hopesIn_29 e17 (Nat.le_of_ble_eq_true rfl) (Nat.le_of_ble_eq_true rfl) ?_
  replace hF := eg_bind hF; obtain ⟨⟨v19, h18⟩, e20, hF⟩ := hF
  refine eg_callV (c := 2) (n := 0) [] dX12_hopesIn_30 (mX2_hopes e20) rfl (fX2_hopes_O e20) (Nat.le_of_ble_eq_true rfl) rfl ew_985 ew_986 ew_987 ew_108 ew_988 hy_X2_hopes rfl (Nat.le_of_ble_eq_true rfl) (Nat.le_of_ble_eq_true rfl) (Nat.le_of_ble_eq_true rfl) ?_
  exact eg_lretE dX12_hopesIn_33 hF
theorem dX12_calm_0 : decode cX12_calm 0 = .ok (.aload_n 0, 1) := by decide +kernel
theorem dX12_calm_1 : decode cX12_calm 1 = .ok (.iload_n 1, 1) := by decide +kernel
theorem dX12_calm_2 : decode cX12_calm 2 = .ok (.iload_n 2, 1) := by decide +kernel
theorem dX12_calm_3 : decode cX12_calm 3 = .ok (.invokevirtual 269, 3) := by decide +kernel
theorem dX12_calm_6 : decode cX12_calm 6 = .ok (.ifCond .eq 10, 3) := by decide +kernel
theorem dX12_calm_9 : decode cX12_calm 9 = .ok (.iload_n 3, 1) := by decide +kernel
theorem dX12_calm_10 : decode cX12_calm 10 = .ok (.invokestatic 320, 3) := by decide +kernel
theorem dX12_calm_13 : decode cX12_calm 13 = .ok (.ifCond .ne 7, 3) := by decide +kernel
theorem dX12_calm_16 : decode cX12_calm 16 = .ok (.ldc2_w 314, 3) := by decide +kernel
theorem dX12_calm_19 : decode cX12_calm 19 = .ok (.lreturn, 1) := by decide +kernel
theorem dX12_calm_20 : decode cX12_calm 20 = .ok (.ldc2_w 314, 3) := by decide +kernel
theorem dX12_calm_23 : decode cX12_calm 23 = .ok (.lstore 4, 2) := by decide +kernel
theorem dX12_calm_25 : decode cX12_calm 25 = .ok (.iconst 0, 1) := by decide +kernel
theorem dX12_calm_26 : decode cX12_calm 26 = .ok (.istore 6, 2) := by decide +kernel
theorem dX12_calm_28 : decode cX12_calm 28 = .ok (.iconst 0, 1) := by decide +kernel
theorem dX12_calm_29 : decode cX12_calm 29 = .ok (.istore 7, 2) := by decide +kernel
theorem dX12_calm_31 : decode cX12_calm 31 = .ok (.iload 7, 2) := by decide +kernel
theorem dX12_calm_33 : decode cX12_calm 33 = .ok (.bipush 9, 2) := by decide +kernel
theorem dX12_calm_35 : decode cX12_calm 35 = .ok (.if_icmp .gt 35, 3) := by decide +kernel
theorem dX12_calm_38 : decode cX12_calm 38 = .ok (.aload_n 0, 1) := by decide +kernel
theorem dX12_calm_39 : decode cX12_calm 39 = .ok (.iload 7, 2) := by decide +kernel
theorem dX12_calm_41 : decode cX12_calm 41 = .ok (.iload_n 1, 1) := by decide +kernel
theorem dX12_calm_42 : decode cX12_calm 42 = .ok (.iload_n 2, 1) := by decide +kernel
theorem dX12_calm_43 : decode cX12_calm 43 = .ok (.invokevirtual 338, 3) := by decide +kernel
theorem dX12_calm_46 : decode cX12_calm 46 = .ok (.lstore 8, 2) := by decide +kernel
theorem dX12_calm_48 : decode cX12_calm 48 = .ok (.lload 8, 2) := by decide +kernel
theorem dX12_calm_50 : decode cX12_calm 50 = .ok (.lload 4, 2) := by decide +kernel
theorem dX12_calm_52 : decode cX12_calm 52 = .ok (.lcmp, 1) := by decide +kernel
theorem dX12_calm_53 : decode cX12_calm 53 = .ok (.ifCond .le 11, 3) := by decide +kernel
theorem dX12_calm_56 : decode cX12_calm 56 = .ok (.lload 8, 2) := by decide +kernel
theorem dX12_calm_58 : decode cX12_calm 58 = .ok (.lstore 4, 2) := by decide +kernel
theorem dX12_calm_60 : decode cX12_calm 60 = .ok (.iload 7, 2) := by decide +kernel
theorem dX12_calm_62 : decode cX12_calm 62 = .ok (.istore 6, 2) := by decide +kernel
theorem dX12_calm_64 : decode cX12_calm 64 = .ok (.iinc 7 1, 3) := by decide +kernel
theorem dX12_calm_67 : decode cX12_calm 67 = .ok (.goto (-36), 3) := by decide +kernel
theorem dX12_calm_70 : decode cX12_calm 70 = .ok (.iload_n 3, 1) := by decide +kernel
theorem dX12_calm_71 : decode cX12_calm 71 = .ok (.ifCond .ne 9, 3) := by decide +kernel
theorem dX12_calm_74 : decode cX12_calm 74 = .ok (.iload 6, 2) := by decide +kernel
theorem dX12_calm_76 : decode cX12_calm 76 = .ok (.i2l, 1) := by decide +kernel
theorem dX12_calm_77 : decode cX12_calm 77 = .ok (.goto 5, 3) := by decide +kernel
theorem dX12_calm_80 : decode cX12_calm 80 = .ok (.lload 4, 2) := by decide +kernel
theorem dX12_calm_82 : decode cX12_calm 82 = .ok (.lreturn, 1) := by decide +kernel
def fX12_calm_L31 : Nat → eg_H → Nat → Int32 → Int32 → Int32 → Int64 → Int32 → Int32 → Option (Int32 × Int64 × Int32 × eg_H)
  | 0, _, _, _, _, _, _, _, _ => none
  | n + 1, h, l0, l1, l2, l3, l4, l6, l7 =>
    if (9 : Int32) < l7 then
      (some (l3, l4, l6, h))
    else
      (fX12_hopesIn h l0 l7 l1 l2).bind fun ⟨v3, h2⟩ =>
      if v3 ≤ l4 then
        (fX12_calm_L31 n h2 l0 l1 l2 l3 l4 l6 (l7 + (1 : Int32)))
      else
        fX12_calm_L31 n h2 l0 l1 l2 l3 v3 l7 (l7 + (1 : Int32))
set_option maxRecDepth 20000 in
theorem fX12_calm_L31_ok {h0 : eg_H} {Z : eg_C → State → Prop} {N S : Nat} : ∀ (n : Nat) (h : eg_H) (l0 : Nat) (l1 : Int32) (l2 : Int32) (l3 : Int32) (l4 : Int64) (l6 : Int32) (l7 : Int32) (eE : Int32 × Int64 × Int32 × eg_H), fX12_calm_L31 n h l0 l1 l2 l3 l4 l6 l7 = some eE → (hk0 : ∀ (l3 : Int32) (l4 : Int64) (l6 : Int32) (h : eg_H), eE = (l3, l4, l6, h) → eg_AW (RX12, cX12_calm, 10, 8, none, "calm", (some .long)) Z N S h0 70 [(3, .int l3), (4, .long l4), (6, .int l6)] [] h) → eg_AW (RX12, cX12_calm, 10, 8, none, "calm", (some .long)) Z N S h0 31 [(0, .ref l0), (1, .int l1), (2, .int l2), (3, .int l3), (4, .long l4), (6, .int l6), (7, .int l7)] [] h := by
  intro n
  induction n with
  | zero => intro h l0 l1 l2 l3 l4 l6 l7 eE hF; exact absurd hF (by intro q; cases q)
  | succ n ih =>
    intro h l0 l1 l2 l3 l4 l6 l7 eE hF hk0
    have hrec := fun (h' : eg_H) (l0 : Nat) (l1 : Int32) (l2 : Int32) (l3 : Int32) (l4 : Int64) (l6 : Int32) (l7 : Int32) hq => ih h' l0 l1 l2 l3 l4 l6 l7 eE hq hk0
    refine eg_iload (i := 7) 6 dX12_calm_31 rfl ?_
    refine eg_bipush (v := (9 : Int32)) dX12_calm_33 (by decide) ?_
    refine eg_ic_gt 70 dX12_calm_35 rfl (fun c1 => ?_) (fun c1 => ?_)
    · replace hF := eg_it c1 hF
      exact eg_sub [3, 4, 5] [(3, .int l3), (4, .long l4), (6, .int l6)] rfl (hk0 l3 l4 l6 h (Option.some.inj hF).symm)
    · replace hF := eg_if c1 hF
      refine eg_aload_n (i := 0) 0 dX12_calm_38 rfl rfl ?_
      refine eg_iload (i := 7) 6 dX12_calm_39 rfl ?_
      refine eg_iload_n (i := 1) 1 dX12_calm_41 rfl rfl ?_
      refine eg_iload_n (i := 2) 2 dX12_calm_42 rfl rfl ?_
      replace hF := eg_bind hF; obtain ⟨⟨v3, h2⟩, e4, hF⟩ := hF
      refine eg_callV (c := 12) (n := 3) [.int l7, .int l1, .int l2] dX12_calm_43 (mX12_hopesIn e4) rfl (fX12_hopesIn_O e4) (Nat.le_of_ble_eq_true rfl) rfl ew_1026 ew_1028 ew_30 ew_100 ew_1029 hy_X12_hopesIn rfl (Nat.le_of_ble_eq_true rfl) (Nat.le_of_ble_eq_true rfl) (Nat.le_of_ble_eq_true rfl) ?_
      refine eg_lstore (i := 8) [(8, .long v3), (0, .ref l0), (1, .int l1), (2, .int l2), (3, .int l3), (4, .long l4), (6, .int l6), (7, .int l7)] dX12_calm_46 (Nat.le_of_ble_eq_true rfl) rfl ?_
      refine eg_lload (i := 8) 0 dX12_calm_48 rfl ?_
      refine eg_lload (i := 4) 5 dX12_calm_50 rfl ?_
      refine eg_lc_le 64 dX12_calm_52 dX12_calm_53 rfl (fun c5 => ?_) (fun c5 => ?_)
      · replace hF := eg_it c5 hF
        refine eg_iinc (i := 7) (v := (l7 + (1 : Int32))) 7 [(7, .int (l7 + (1 : Int32))), (8, .long v3), (0, .ref l0), (1, .int l1), (2, .int l2), (3, .int l3), (4, .long l4), (6, .int l6)] dX12_calm_64 rfl rfl (Nat.le_of_ble_eq_true rfl) rfl ?_
        refine eg_goto 31 dX12_calm_67 rfl ?_
        exact eg_sub [2, 3, 4, 5, 6, 7, 0] [(0, .ref l0), (1, .int l1), (2, .int l2), (3, .int l3), (4, .long l4), (6, .int l6), (7, .int (l7 + (1 : Int32)))] rfl (hrec h2 l0 l1 l2 l3 l4 l6 (l7 + (1 : Int32)) hF)
      · replace hF := eg_if c5 hF
        refine eg_lload (i := 8) 0 dX12_calm_56 rfl ?_
        refine eg_lstore (i := 4) [(4, .long v3), (8, .long v3), (0, .ref l0), (1, .int l1), (2, .int l2), (3, .int l3), (6, .int l6), (7, .int l7)] dX12_calm_58 (Nat.le_of_ble_eq_true rfl) rfl ?_
        refine eg_iload (i := 7) 7 dX12_calm_60 rfl ?_
        refine eg_istore (i := 6) [(6, .int l7), (4, .long v3), (8, .long v3), (0, .ref l0), (1, .int l1), (2, .int l2), (3, .int l3), (7, .int l7)] dX12_calm_62 (Nat.le_of_ble_eq_true rfl) rfl ?_
        refine eg_iinc (i := 7) (v := (l7 + (1 : Int32))) 7 [(7, .int (l7 + (1 : Int32))), (6, .int l7), (4, .long v3), (8, .long v3), (0, .ref l0), (1, .int l1), (2, .int l2), (3, .int l3)] dX12_calm_64 rfl rfl (Nat.le_of_ble_eq_true rfl) rfl ?_
        refine eg_goto 31 dX12_calm_67 rfl ?_
        exact eg_sub [4, 5, 6, 7, 2, 1, 0] [(0, .ref l0), (1, .int l1), (2, .int l2), (3, .int l3), (4, .long v3), (6, .int l7), (7, .int (l7 + (1 : Int32)))] rfl (hrec h2 l0 l1 l2 l3 v3 l7 (l7 + (1 : Int32)) hF)
def fX12_calm (h : eg_H) (l0 : Nat) (l1 : Int32) (l2 : Int32) (l3 : Int32) : Option (Int64 × eg_H) :=
  if eg_isO h 12 l0 then (
    (fX12_isCourse h l0 l1 l2).bind fun ⟨v2, h1⟩ =>
    if v2 = 0 then
      (some ((-1 : Int64), h1))
    else
      (fX12_isEither h1 l3).bind fun ⟨v6, h5⟩ =>
      if v6 = 0 then
        (some ((-1 : Int64), h5))
      else
        (fX12_calm_L31 eg_F h5 l0 l1 l2 l3 (-1 : Int64) (0 : Int32) (0 : Int32)).bind fun e =>
        match e with
        | (v11, v12, v13, h14) =>
          if v11 = 0 then
            (some (v13.toInt64, h14))
          else
            some (v12, h14)) else none
theorem fX12_calm_O {h : eg_H} {l0 : Nat} {l1 : Int32} {l2 : Int32} {l3 : Int32} {rE : Int64} {hE : eg_H} (hF : fX12_calm h l0 l1 l2 l3 = some (rE, hE)) : eg_isO h 12 l0 := (eg_ifn hF).1
set_option maxRecDepth 20000 in
theorem mX12_calm {h : eg_H} {l0 : Nat} {l1 : Int32} {l2 : Int32} {l3 : Int32} {rE : Int64} {hE : eg_H} (hF : fX12_calm h l0 l1 l2 l3 = some (rE, hE)) : eg_Met yX12_calm cX12_calm 10 (some .long) 8 [.ref l0, .int l1, .int l2, .int l3] h (some (.long rE)) hE := by
  refine eg_enter rfl (Nat.le_of_ble_eq_true rfl) ?_
  show eg_AW (RX12, cX12_calm, 10, 8, none, "calm", (some .long)) (eg_Zm (some (.long rE)) hE h) (eg_nc hE) (eg_ns hE) h 0 [(0, .ref l0), (1, .int l1), (2, .int l2), (3, .int l3)] [] h
  replace hF := (eg_ifn hF).2
  refine eg_aload_n (i := 0) 0 dX12_calm_0 rfl rfl ?_
  refine eg_iload_n (i := 1) 1 dX12_calm_1 rfl rfl ?_
  refine eg_iload_n (i := 2) 2 dX12_calm_2 rfl rfl ?_
  replace hF := eg_bind hF; obtain ⟨⟨v2, h1⟩, e3, hF⟩ := hF
  refine eg_callV (c := 12) (n := 2) [.int l1, .int l2] dX12_calm_3 (mX12_isCourse e3) rfl (fX12_isCourse_O e3) (Nat.le_of_ble_eq_true rfl) rfl ew_786 ew_788 ew_24 ew_100 ew_789 hy_X12_isCourse rfl (Nat.le_of_ble_eq_true rfl) (Nat.le_of_ble_eq_true rfl) (Nat.le_of_ble_eq_true rfl) ?_
  refine eg_if_eq 16 dX12_calm_6 rfl (fun c4 => ?_) (fun c4 => ?_)
  · replace hF := eg_it c4 hF
    refine eg_ldc2 (v := (-1 : Int64)) dX12_calm_16 ew_984 ?_
    exact eg_lretE dX12_calm_19 hF
  · replace hF := eg_if c4 hF
    refine eg_iload_n (i := 3) 3 dX12_calm_9 rfl rfl ?_
    replace hF := eg_bind hF; obtain ⟨⟨v6, h5⟩, e7, hF⟩ := hF
    refine eg_callS (n := 1) [.int l3] dX12_calm_10 (mX12_isEither e7) rfl ew_993 ew_994 ew_100 ew_995 hy_X12_isEither.2 rfl (Nat.le_of_ble_eq_true rfl) (Nat.le_of_ble_eq_true rfl) (Nat.le_of_ble_eq_true rfl) ?_
    refine eg_if_ne 20 dX12_calm_13 rfl (fun c8 => ?_) (fun c8 => ?_)
    · replace hF := eg_it c8 hF
      refine eg_ldc2 (v := (-1 : Int64)) dX12_calm_16 ew_984 ?_
      exact eg_lretE dX12_calm_19 hF
    · replace hF := eg_if c8 hF
      refine eg_ldc2 (v := (-1 : Int64)) dX12_calm_20 ew_984 ?_
      refine eg_lstore (i := 4) [(4, .long (-1 : Int64)), (0, .ref l0), (1, .int l1), (2, .int l2), (3, .int l3)] dX12_calm_23 (Nat.le_of_ble_eq_true rfl) rfl ?_
      refine eg_iconst (v := (0 : Int32)) dX12_calm_25 (by decide) ?_
      refine eg_istore (i := 6) [(6, .int (0 : Int32)), (4, .long (-1 : Int64)), (0, .ref l0), (1, .int l1), (2, .int l2), (3, .int l3)] dX12_calm_26 (Nat.le_of_ble_eq_true rfl) rfl ?_
      refine eg_iconst (v := (0 : Int32)) dX12_calm_28 (by decide) ?_
      refine eg_istore (i := 7) [(7, .int (0 : Int32)), (6, .int (0 : Int32)), (4, .long (-1 : Int64)), (0, .ref l0), (1, .int l1), (2, .int l2), (3, .int l3)] dX12_calm_29 (Nat.le_of_ble_eq_true rfl) rfl ?_
      replace hF := eg_bind hF; obtain ⟨x10, e9, hF⟩ := hF
      refine eg_sub [3, 4, 5, 6, 2, 1, 0] [(0, .ref l0), (1, .int l1), (2, .int l2), (3, .int l3), (4, .long (-1 : Int64)), (6, .int (0 : Int32)), (7, .int (0 : Int32))] rfl (fX12_calm_L31_ok eg_F h5 l0 l1 l2 l3 (-1 : Int64) (0 : Int32) (0 : Int32) x10 e9 ?_)
      · intro v11 v12 v13 h14 e16
        subst e16
        refine eg_iload_n (i := 3) 0 dX12_calm_70 rfl rfl ?_
        refine eg_if_ne 80 dX12_calm_71 rfl (fun c15 => ?_) (fun c15 => ?_)
        · replace hF := eg_it c15 hF
          refine eg_iload (i := 6) 2 dX12_calm_74 rfl ?_
          refine eg_i2l dX12_calm_76 ?_
          refine eg_goto 82 dX12_calm_77 rfl ?_
          exact eg_lretE dX12_calm_82 hF
        · replace hF := eg_if c15 hF
          refine eg_lload (i := 4) 1 dX12_calm_80 rfl ?_
          exact eg_lretE dX12_calm_82 hF
theorem dX12_gusty_0 : decode cX12_gusty 0 = .ok (.aload_n 0, 1) := by decide +kernel
theorem dX12_gusty_1 : decode cX12_gusty 1 = .ok (.iload_n 1, 1) := by decide +kernel
theorem dX12_gusty_2 : decode cX12_gusty 2 = .ok (.iload_n 2, 1) := by decide +kernel
theorem dX12_gusty_3 : decode cX12_gusty 3 = .ok (.invokevirtual 269, 3) := by decide +kernel
theorem dX12_gusty_6 : decode cX12_gusty 6 = .ok (.ifCond .eq 13, 3) := by decide +kernel
theorem dX12_gusty_9 : decode cX12_gusty 9 = .ok (.iload_n 3, 1) := by decide +kernel
theorem dX12_gusty_10 : decode cX12_gusty 10 = .ok (.ifCond .lt 9, 3) := by decide +kernel
theorem dX12_gusty_13 : decode cX12_gusty 13 = .ok (.iload_n 3, 1) := by decide +kernel
theorem dX12_gusty_14 : decode cX12_gusty 14 = .ok (.bipush 9, 2) := by decide +kernel
theorem dX12_gusty_16 : decode cX12_gusty 16 = .ok (.if_icmp .le 7, 3) := by decide +kernel
theorem dX12_gusty_19 : decode cX12_gusty 19 = .ok (.ldc2_w 314, 3) := by decide +kernel
theorem dX12_gusty_22 : decode cX12_gusty 22 = .ok (.lreturn, 1) := by decide +kernel
theorem dX12_gusty_23 : decode cX12_gusty 23 = .ok (.lconst 0, 1) := by decide +kernel
theorem dX12_gusty_24 : decode cX12_gusty 24 = .ok (.lstore 4, 2) := by decide +kernel
theorem dX12_gusty_26 : decode cX12_gusty 26 = .ok (.iconst 0, 1) := by decide +kernel
theorem dX12_gusty_27 : decode cX12_gusty 27 = .ok (.istore 6, 2) := by decide +kernel
theorem dX12_gusty_29 : decode cX12_gusty 29 = .ok (.iload 6, 2) := by decide +kernel
theorem dX12_gusty_31 : decode cX12_gusty 31 = .ok (.iload_n 3, 1) := by decide +kernel
theorem dX12_gusty_32 : decode cX12_gusty 32 = .ok (.if_icmp .gt 22, 3) := by decide +kernel
theorem dX12_gusty_35 : decode cX12_gusty 35 = .ok (.lload 4, 2) := by decide +kernel
theorem dX12_gusty_37 : decode cX12_gusty 37 = .ok (.aload_n 0, 1) := by decide +kernel
theorem dX12_gusty_38 : decode cX12_gusty 38 = .ok (.iload 6, 2) := by decide +kernel
theorem dX12_gusty_40 : decode cX12_gusty 40 = .ok (.iload_n 1, 1) := by decide +kernel
theorem dX12_gusty_41 : decode cX12_gusty 41 = .ok (.iload_n 2, 1) := by decide +kernel
theorem dX12_gusty_42 : decode cX12_gusty 42 = .ok (.invokevirtual 338, 3) := by decide +kernel
theorem dX12_gusty_45 : decode cX12_gusty 45 = .ok (.ladd, 1) := by decide +kernel
theorem dX12_gusty_46 : decode cX12_gusty 46 = .ok (.lstore 4, 2) := by decide +kernel
theorem dX12_gusty_48 : decode cX12_gusty 48 = .ok (.iinc 6 1, 3) := by decide +kernel
theorem dX12_gusty_51 : decode cX12_gusty 51 = .ok (.goto (-22), 3) := by decide +kernel
theorem dX12_gusty_54 : decode cX12_gusty 54 = .ok (.lload 4, 2) := by decide +kernel
theorem dX12_gusty_56 : decode cX12_gusty 56 = .ok (.iload_n 3, 1) := by decide +kernel
theorem dX12_gusty_57 : decode cX12_gusty 57 = .ok (.iconst 1, 1) := by decide +kernel
theorem dX12_gusty_58 : decode cX12_gusty 58 = .ok (.iadd, 1) := by decide +kernel
theorem dX12_gusty_59 : decode cX12_gusty 59 = .ok (.i2l, 1) := by decide +kernel
theorem dX12_gusty_60 : decode cX12_gusty 60 = .ok (.ldiv, 1) := by decide +kernel
theorem dX12_gusty_61 : decode cX12_gusty 61 = .ok (.lreturn, 1) := by decide +kernel
def fX12_gusty_L29 : Nat → eg_H → Nat → Int32 → Int32 → Int32 → Int64 → Int32 → Option (Int32 × Int64 × eg_H)
  | 0, _, _, _, _, _, _, _ => none
  | n + 1, h, l0, l1, l2, l3, l4, l6 =>
    if l3 < l6 then
      (some (l3, l4, h))
    else
      (fX12_hopesIn h l0 l6 l1 l2).bind fun ⟨v3, h2⟩ =>
      (some ((l4 + v3))).bind fun v5 =>
      fX12_gusty_L29 n h2 l0 l1 l2 l3 v5 (l6 + (1 : Int32))
set_option maxRecDepth 20000 in
theorem fX12_gusty_L29_ok {h0 : eg_H} {Z : eg_C → State → Prop} {N S : Nat} : ∀ (n : Nat) (h : eg_H) (l0 : Nat) (l1 : Int32) (l2 : Int32) (l3 : Int32) (l4 : Int64) (l6 : Int32) (eE : Int32 × Int64 × eg_H), fX12_gusty_L29 n h l0 l1 l2 l3 l4 l6 = some eE → (hk0 : ∀ (l3 : Int32) (l4 : Int64) (h : eg_H), eE = (l3, l4, h) → eg_AW (RX12, cX12_gusty, 7, 8, none, "gusty", (some .long)) Z N S h0 54 [(3, .int l3), (4, .long l4)] [] h) → eg_AW (RX12, cX12_gusty, 7, 8, none, "gusty", (some .long)) Z N S h0 29 [(0, .ref l0), (1, .int l1), (2, .int l2), (3, .int l3), (4, .long l4), (6, .int l6)] [] h := by
  intro n
  induction n with
  | zero => intro h l0 l1 l2 l3 l4 l6 eE hF; exact absurd hF (by intro q; cases q)
  | succ n ih =>
    intro h l0 l1 l2 l3 l4 l6 eE hF hk0
    have hrec := fun (h' : eg_H) (l0 : Nat) (l1 : Int32) (l2 : Int32) (l3 : Int32) (l4 : Int64) (l6 : Int32) hq => ih h' l0 l1 l2 l3 l4 l6 eE hq hk0
    refine eg_iload (i := 6) 5 dX12_gusty_29 rfl ?_
    refine eg_iload_n (i := 3) 3 dX12_gusty_31 rfl rfl ?_
    refine eg_ic_gt 54 dX12_gusty_32 rfl (fun c1 => ?_) (fun c1 => ?_)
    · replace hF := eg_it c1 hF
      exact eg_sub [3, 4] [(3, .int l3), (4, .long l4)] rfl (hk0 l3 l4 h (Option.some.inj hF).symm)
    · replace hF := eg_if c1 hF
      refine eg_lload (i := 4) 4 dX12_gusty_35 rfl ?_
      refine eg_aload_n (i := 0) 0 dX12_gusty_37 rfl rfl ?_
      refine eg_iload (i := 6) 5 dX12_gusty_38 rfl ?_
      refine eg_iload_n (i := 1) 1 dX12_gusty_40 rfl rfl ?_
      refine eg_iload_n (i := 2) 2 dX12_gusty_41 rfl rfl ?_
      replace hF := eg_bind hF; obtain ⟨⟨v3, h2⟩, e4, hF⟩ := hF
      refine eg_callV (c := 12) (n := 3) [.int l6, .int l1, .int l2] dX12_gusty_42 (mX12_hopesIn e4) rfl (fX12_hopesIn_O e4) (Nat.le_of_ble_eq_true rfl) rfl ew_1026 ew_1028 ew_30 ew_100 ew_1029 hy_X12_hopesIn rfl (Nat.le_of_ble_eq_true rfl) (Nat.le_of_ble_eq_true rfl) (Nat.le_of_ble_eq_true rfl) ?_
      refine eg_ladd dX12_gusty_45 ?_
      replace hF := eg_bind hF; obtain ⟨v5, e6, hF⟩ := hF
      replace e6 := Option.some.inj e6
      rw [e6]
      refine eg_lstore (i := 4) [(4, .long v5), (0, .ref l0), (1, .int l1), (2, .int l2), (3, .int l3), (6, .int l6)] dX12_gusty_46 (Nat.le_of_ble_eq_true rfl) rfl ?_
      refine eg_iinc (i := 6) (v := (l6 + (1 : Int32))) 5 [(6, .int (l6 + (1 : Int32))), (4, .long v5), (0, .ref l0), (1, .int l1), (2, .int l2), (3, .int l3)] dX12_gusty_48 rfl rfl (Nat.le_of_ble_eq_true rfl) rfl ?_
      refine eg_goto 29 dX12_gusty_51 rfl ?_
      exact eg_sub [2, 3, 4, 5, 1, 0] [(0, .ref l0), (1, .int l1), (2, .int l2), (3, .int l3), (4, .long v5), (6, .int (l6 + (1 : Int32)))] rfl (hrec h2 l0 l1 l2 l3 v5 (l6 + (1 : Int32)) hF)
def fX12_gusty (h : eg_H) (l0 : Nat) (l1 : Int32) (l2 : Int32) (l3 : Int32) : Option (Int64 × eg_H) :=
  if eg_isO h 12 l0 then (
    (fX12_isCourse h l0 l1 l2).bind fun ⟨v2, h1⟩ =>
    if v2 = 0 then
      (some ((-1 : Int64), h1))
    else
      if l3 < 0 then
        (some ((-1 : Int64), h1))
      else
        if l3 ≤ (9 : Int32) then
          ((fX12_gusty_L29 eg_F h1 l0 l1 l2 l3 (0 : Int64) (0 : Int32)).bind fun e =>
          match e with
          | (v9, v10, h11) =>
            if (v9 + (1 : Int32)).toInt64 = 0 then none else
            some ((v10 / (v9 + (1 : Int32)).toInt64), h11))
        else
          some ((-1 : Int64), h1)) else none
theorem fX12_gusty_O {h : eg_H} {l0 : Nat} {l1 : Int32} {l2 : Int32} {l3 : Int32} {rE : Int64} {hE : eg_H} (hF : fX12_gusty h l0 l1 l2 l3 = some (rE, hE)) : eg_isO h 12 l0 := (eg_ifn hF).1
set_option maxRecDepth 20000 in
theorem mX12_gusty {h : eg_H} {l0 : Nat} {l1 : Int32} {l2 : Int32} {l3 : Int32} {rE : Int64} {hE : eg_H} (hF : fX12_gusty h l0 l1 l2 l3 = some (rE, hE)) : eg_Met yX12_gusty cX12_gusty 7 (some .long) 8 [.ref l0, .int l1, .int l2, .int l3] h (some (.long rE)) hE := by
  refine eg_enter rfl (Nat.le_of_ble_eq_true rfl) ?_
  show eg_AW (RX12, cX12_gusty, 7, 8, none, "gusty", (some .long)) (eg_Zm (some (.long rE)) hE h) (eg_nc hE) (eg_ns hE) h 0 [(0, .ref l0), (1, .int l1), (2, .int l2), (3, .int l3)] [] h
  replace hF := (eg_ifn hF).2
  refine eg_aload_n (i := 0) 0 dX12_gusty_0 rfl rfl ?_
  refine eg_iload_n (i := 1) 1 dX12_gusty_1 rfl rfl ?_
  refine eg_iload_n (i := 2) 2 dX12_gusty_2 rfl rfl ?_
  replace hF := eg_bind hF; obtain ⟨⟨v2, h1⟩, e3, hF⟩ := hF
  refine eg_callV (c := 12) (n := 2) [.int l1, .int l2] dX12_gusty_3 (mX12_isCourse e3) rfl (fX12_isCourse_O e3) (Nat.le_of_ble_eq_true rfl) rfl ew_786 ew_788 ew_24 ew_100 ew_789 hy_X12_isCourse rfl (Nat.le_of_ble_eq_true rfl) (Nat.le_of_ble_eq_true rfl) (Nat.le_of_ble_eq_true rfl) ?_
  refine eg_if_eq 19 dX12_gusty_6 rfl (fun c4 => ?_) (fun c4 => ?_)
  · replace hF := eg_it c4 hF
    refine eg_ldc2 (v := (-1 : Int64)) dX12_gusty_19 ew_984 ?_
    exact eg_lretE dX12_gusty_22 hF
  · replace hF := eg_if c4 hF
    refine eg_iload_n (i := 3) 3 dX12_gusty_9 rfl rfl ?_
    refine eg_if_lt 19 dX12_gusty_10 rfl (fun c5 => ?_) (fun c5 => ?_)
    · replace hF := eg_it c5 hF
      refine eg_ldc2 (v := (-1 : Int64)) dX12_gusty_19 ew_984 ?_
      exact eg_lretE dX12_gusty_22 hF
    · replace hF := eg_if c5 hF
      refine eg_iload_n (i := 3) 3 dX12_gusty_13 rfl rfl ?_
      refine eg_bipush (v := (9 : Int32)) dX12_gusty_14 (by decide) ?_
      refine eg_ic_le 23 dX12_gusty_16 rfl (fun c6 => ?_) (fun c6 => ?_)
      · replace hF := eg_it c6 hF
        refine eg_lconst (v := (0 : Int64)) dX12_gusty_23 (by decide) ?_
        refine eg_lstore (i := 4) [(4, .long (0 : Int64)), (0, .ref l0), (1, .int l1), (2, .int l2), (3, .int l3)] dX12_gusty_24 (Nat.le_of_ble_eq_true rfl) rfl ?_
        refine eg_iconst (v := (0 : Int32)) dX12_gusty_26 (by decide) ?_
        refine eg_istore (i := 6) [(6, .int (0 : Int32)), (4, .long (0 : Int64)), (0, .ref l0), (1, .int l1), (2, .int l2), (3, .int l3)] dX12_gusty_27 (Nat.le_of_ble_eq_true rfl) rfl ?_
        replace hF := eg_bind hF; obtain ⟨x8, e7, hF⟩ := hF
        refine eg_sub [2, 3, 4, 5, 1, 0] [(0, .ref l0), (1, .int l1), (2, .int l2), (3, .int l3), (4, .long (0 : Int64)), (6, .int (0 : Int32))] rfl (fX12_gusty_L29_ok eg_F h1 l0 l1 l2 l3 (0 : Int64) (0 : Int32) x8 e7 ?_)
        · intro v9 v10 h11 e13
          subst e13
          refine eg_lload (i := 4) 1 dX12_gusty_54 rfl ?_
          refine eg_iload_n (i := 3) 0 dX12_gusty_56 rfl rfl ?_
          refine eg_iconst (v := (1 : Int32)) dX12_gusty_57 (by decide) ?_
          refine eg_iadd dX12_gusty_58 ?_
          refine eg_i2l dX12_gusty_59 ?_
          replace hF := eg_nif hF; obtain ⟨c12, hF⟩ := hF
          refine eg_ldiv dX12_gusty_60 c12 ?_
          exact eg_lretE dX12_gusty_61 hF
      · replace hF := eg_if c6 hF
        refine eg_ldc2 (v := (-1 : Int64)) dX12_gusty_19 ew_984 ?_
        exact eg_lretE dX12_gusty_22 hF
theorem dX12_learn_0 : decode cX12_learn 0 = .ok (.aload_n 0, 1) := by decide +kernel
theorem dX12_learn_1 : decode cX12_learn 1 = .ok (.iload_n 1, 1) := by decide +kernel
theorem dX12_learn_2 : decode cX12_learn 2 = .ok (.iload_n 2, 1) := by decide +kernel
theorem dX12_learn_3 : decode cX12_learn 3 = .ok (.invokevirtual 269, 3) := by decide +kernel
theorem dX12_learn_6 : decode cX12_learn 6 = .ok (.ifCond .eq 26, 3) := by decide +kernel
theorem dX12_learn_9 : decode cX12_learn 9 = .ok (.iload_n 3, 1) := by decide +kernel
theorem dX12_learn_10 : decode cX12_learn 10 = .ok (.ifCond .lt 22, 3) := by decide +kernel
theorem dX12_learn_13 : decode cX12_learn 13 = .ok (.iload_n 3, 1) := by decide +kernel
theorem dX12_learn_14 : decode cX12_learn 14 = .ok (.bipush 60, 2) := by decide +kernel
theorem dX12_learn_16 : decode cX12_learn 16 = .ok (.if_icmp .gt 16, 3) := by decide +kernel
theorem dX12_learn_19 : decode cX12_learn 19 = .ok (.iload 4, 2) := by decide +kernel
theorem dX12_learn_21 : decode cX12_learn 21 = .ok (.ifCond .lt 11, 3) := by decide +kernel
theorem dX12_learn_24 : decode cX12_learn 24 = .ok (.iload 4, 2) := by decide +kernel
theorem dX12_learn_26 : decode cX12_learn 26 = .ok (.ldc_w 342, 3) := by decide +kernel
theorem dX12_learn_29 : decode cX12_learn 29 = .ok (.if_icmp .le 5, 3) := by decide +kernel
theorem dX12_learn_32 : decode cX12_learn 32 = .ok (.iconst (-1), 1) := by decide +kernel
theorem dX12_learn_33 : decode cX12_learn 33 = .ok (.ireturn, 1) := by decide +kernel
theorem dX12_learn_34 : decode cX12_learn 34 = .ok (.iload_n 3, 1) := by decide +kernel
theorem dX12_learn_35 : decode cX12_learn 35 = .ok (.ifCond .eq 8, 3) := by decide +kernel
theorem dX12_learn_38 : decode cX12_learn 38 = .ok (.iload 4, 2) := by decide +kernel
theorem dX12_learn_40 : decode cX12_learn 40 = .ok (.ifCond .ne 5, 3) := by decide +kernel
theorem dX12_learn_43 : decode cX12_learn 43 = .ok (.iconst 0, 1) := by decide +kernel
theorem dX12_learn_44 : decode cX12_learn 44 = .ok (.ireturn, 1) := by decide +kernel
theorem dX12_learn_45 : decode cX12_learn 45 = .ok (.aload_n 0, 1) := by decide +kernel
theorem dX12_learn_46 : decode cX12_learn 46 = .ok (.getfield 35, 3) := by decide +kernel
theorem dX12_learn_49 : decode cX12_learn 49 = .ok (.iload_n 3, 1) := by decide +kernel
theorem dX12_learn_50 : decode cX12_learn 50 = .ok (.aload_n 0, 1) := by decide +kernel
theorem dX12_learn_51 : decode cX12_learn 51 = .ok (.getfield 35, 3) := by decide +kernel
theorem dX12_learn_54 : decode cX12_learn 54 = .ok (.iconst 2, 1) := by decide +kernel
theorem dX12_learn_55 : decode cX12_learn 55 = .ok (.invokevirtual 209, 3) := by decide +kernel
theorem dX12_learn_58 : decode cX12_learn 58 = .ok (.invokevirtual 343, 3) := by decide +kernel
theorem dX12_learn_61 : decode cX12_learn 61 = .ok (.bipush 60, 2) := by decide +kernel
theorem dX12_learn_63 : decode cX12_learn 63 = .ok (.if_icmp .le 5, 3) := by decide +kernel
theorem dX12_learn_66 : decode cX12_learn 66 = .ok (.iconst (-1), 1) := by decide +kernel
theorem dX12_learn_67 : decode cX12_learn 67 = .ok (.ireturn, 1) := by decide +kernel
theorem dX12_learn_68 : decode cX12_learn 68 = .ok (.aload_n 0, 1) := by decide +kernel
theorem dX12_learn_69 : decode cX12_learn 69 = .ok (.getfield 35, 3) := by decide +kernel
theorem dX12_learn_72 : decode cX12_learn 72 = .ok (.iconst 0, 1) := by decide +kernel
theorem dX12_learn_73 : decode cX12_learn 73 = .ok (.invokevirtual 209, 3) := by decide +kernel
theorem dX12_learn_76 : decode cX12_learn 76 = .ok (.istore 5, 2) := by decide +kernel
theorem dX12_learn_78 : decode cX12_learn 78 = .ok (.iconst 1, 1) := by decide +kernel
theorem dX12_learn_79 : decode cX12_learn 79 = .ok (.istore 6, 2) := by decide +kernel
theorem dX12_learn_81 : decode cX12_learn 81 = .ok (.iload 6, 2) := by decide +kernel
theorem dX12_learn_83 : decode cX12_learn 83 = .ok (.iload_n 3, 1) := by decide +kernel
theorem dX12_learn_84 : decode cX12_learn 84 = .ok (.if_icmp .gt 67, 3) := by decide +kernel
theorem dX12_learn_87 : decode cX12_learn 87 = .ok (.aload_n 0, 1) := by decide +kernel
theorem dX12_learn_88 : decode cX12_learn 88 = .ok (.getfield 92, 3) := by decide +kernel
theorem dX12_learn_91 : decode cX12_learn 91 = .ok (.iload 6, 2) := by decide +kernel
theorem dX12_learn_93 : decode cX12_learn 93 = .ok (.iload_n 1, 1) := by decide +kernel
theorem dX12_learn_94 : decode cX12_learn 94 = .ok (.invokestatic 346, 3) := by decide +kernel
theorem dX12_learn_97 : decode cX12_learn 97 = .ok (.iload 6, 2) := by decide +kernel
theorem dX12_learn_99 : decode cX12_learn 99 = .ok (.iload_n 2, 1) := by decide +kernel
theorem dX12_learn_100 : decode cX12_learn 100 = .ok (.invokestatic 349, 3) := by decide +kernel
theorem dX12_learn_103 : decode cX12_learn 103 = .ok (.iload 5, 2) := by decide +kernel
theorem dX12_learn_105 : decode cX12_learn 105 = .ok (.invokevirtual 244, 3) := by decide +kernel
theorem dX12_learn_108 : decode cX12_learn 108 = .ok (.aload_n 0, 1) := by decide +kernel
theorem dX12_learn_109 : decode cX12_learn 109 = .ok (.getfield 92, 3) := by decide +kernel
theorem dX12_learn_112 : decode cX12_learn 112 = .ok (.aload_n 0, 1) := by decide +kernel
theorem dX12_learn_113 : decode cX12_learn 113 = .ok (.getfield 35, 3) := by decide +kernel
theorem dX12_learn_116 : decode cX12_learn 116 = .ok (.iload 6, 2) := by decide +kernel
theorem dX12_learn_118 : decode cX12_learn 118 = .ok (.aload_n 0, 1) := by decide +kernel
theorem dX12_learn_119 : decode cX12_learn 119 = .ok (.getfield 35, 3) := by decide +kernel
theorem dX12_learn_122 : decode cX12_learn 122 = .ok (.iconst 2, 1) := by decide +kernel
theorem dX12_learn_123 : decode cX12_learn 123 = .ok (.invokevirtual 209, 3) := by decide +kernel
theorem dX12_learn_126 : decode cX12_learn 126 = .ok (.invokevirtual 343, 3) := by decide +kernel
theorem dX12_learn_129 : decode cX12_learn 129 = .ok (.invokevirtual 352, 3) := by decide +kernel
theorem dX12_learn_132 : decode cX12_learn 132 = .ok (.aload_n 0, 1) := by decide +kernel
theorem dX12_learn_133 : decode cX12_learn 133 = .ok (.getfield 115, 3) := by decide +kernel
theorem dX12_learn_136 : decode cX12_learn 136 = .ok (.iload 6, 2) := by decide +kernel
theorem dX12_learn_138 : decode cX12_learn 138 = .ok (.aload_n 0, 1) := by decide +kernel
theorem dX12_learn_139 : decode cX12_learn 139 = .ok (.getfield 92, 3) := by decide +kernel
theorem dX12_learn_142 : decode cX12_learn 142 = .ok (.invokevirtual 355, 3) := by decide +kernel
theorem dX12_learn_145 : decode cX12_learn 145 = .ok (.iinc 6 1, 3) := by decide +kernel
theorem dX12_learn_148 : decode cX12_learn 148 = .ok (.goto (-67), 3) := by decide +kernel
theorem dX12_learn_151 : decode cX12_learn 151 = .ok (.aload_n 0, 1) := by decide +kernel
theorem dX12_learn_152 : decode cX12_learn 152 = .ok (.getfield 115, 3) := by decide +kernel
theorem dX12_learn_155 : decode cX12_learn 155 = .ok (.aload_n 0, 1) := by decide +kernel
theorem dX12_learn_156 : decode cX12_learn 156 = .ok (.getfield 35, 3) := by decide +kernel
theorem dX12_learn_159 : decode cX12_learn 159 = .ok (.iload_n 1, 1) := by decide +kernel
theorem dX12_learn_160 : decode cX12_learn 160 = .ok (.iload_n 3, 1) := by decide +kernel
theorem dX12_learn_161 : decode cX12_learn 161 = .ok (.iload 4, 2) := by decide +kernel
theorem dX12_learn_163 : decode cX12_learn 163 = .ok (.invokevirtual 359, 3) := by decide +kernel
theorem dX12_learn_166 : decode cX12_learn 166 = .ok (.ireturn, 1) := by decide +kernel
def fX12_learn_L81 : Nat → eg_H → Nat → Int32 → Int32 → Int32 → Int32 → Int32 → Int32 → Option (Nat × Int32 × Int32 × Int32 × eg_H)
  | 0, _, _, _, _, _, _, _, _ => none
  | n + 1, h, l0, l1, l2, l3, l4, l5, l6 =>
    if l3 < l6 then
      (some (l0, l1, l3, l4, h))
    else
      (eg_gR h 12 15 l0).bind fun p2 =>
      (fX2_twoOf h l6 l1).bind fun ⟨v5, h4⟩ =>
      (fX2_eggEndOf h4 l6 l2).bind fun ⟨v8, h7⟩ =>
      (fX11_take h7 p2 v5 v8 l5).bind fun h10 =>
      (eg_gR h10 12 15 l0).bind fun p12 =>
      (eg_gR h10 12 3 l0).bind fun p14 =>
      (eg_gR h10 12 3 l0).bind fun p16 =>
      (fX7_told h10 p16 (2 : Int32)).bind fun ⟨v19, h18⟩ =>
      (fX7_yardsOf h18 p14 l6 v19).bind fun ⟨v22, h21⟩ =>
      (fX11_climbAll h21 p12 v22).bind fun h24 =>
      (eg_gR h24 12 18 l0).bind fun p26 =>
      (eg_gR h24 12 15 l0).bind fun p28 =>
      (fX9_keepClimb h24 p26 l6 p28).bind fun h30 =>
      fX12_learn_L81 n h30 l0 l1 l2 l3 l4 l5 (l6 + (1 : Int32))
set_option maxRecDepth 20000 in
theorem fX12_learn_L81_ok {h0 : eg_H} {Z : eg_C → State → Prop} {N S : Nat} : ∀ (n : Nat) (h : eg_H) (l0 : Nat) (l1 : Int32) (l2 : Int32) (l3 : Int32) (l4 : Int32) (l5 : Int32) (l6 : Int32) (eE : Nat × Int32 × Int32 × Int32 × eg_H), fX12_learn_L81 n h l0 l1 l2 l3 l4 l5 l6 = some eE → (hk0 : ∀ (l0 : Nat) (l1 : Int32) (l3 : Int32) (l4 : Int32) (h : eg_H), eE = (l0, l1, l3, l4, h) → eg_AW (RX12, cX12_learn, 7, 5, none, "learn", (some .int)) Z N S h0 151 [(0, .ref l0), (1, .int l1), (3, .int l3), (4, .int l4)] [] h) → eg_AW (RX12, cX12_learn, 7, 5, none, "learn", (some .int)) Z N S h0 81 [(0, .ref l0), (1, .int l1), (2, .int l2), (3, .int l3), (4, .int l4), (5, .int l5), (6, .int l6)] [] h := by
  intro n
  induction n with
  | zero => intro h l0 l1 l2 l3 l4 l5 l6 eE hF; exact absurd hF (by intro q; cases q)
  | succ n ih =>
    intro h l0 l1 l2 l3 l4 l5 l6 eE hF hk0
    have hrec := fun (h' : eg_H) (l0 : Nat) (l1 : Int32) (l2 : Int32) (l3 : Int32) (l4 : Int32) (l5 : Int32) (l6 : Int32) hq => ih h' l0 l1 l2 l3 l4 l5 l6 eE hq hk0
    refine eg_iload (i := 6) 6 dX12_learn_81 rfl ?_
    refine eg_iload_n (i := 3) 3 dX12_learn_83 rfl rfl ?_
    refine eg_ic_gt 151 dX12_learn_84 rfl (fun c1 => ?_) (fun c1 => ?_)
    · replace hF := eg_it c1 hF
      exact eg_sub [0, 1, 3, 4] [(0, .ref l0), (1, .int l1), (3, .int l3), (4, .int l4)] rfl (hk0 l0 l1 l3 l4 h (Option.some.inj hF).symm)
    · replace hF := eg_if c1 hF
      refine eg_aload_n (i := 0) 0 dX12_learn_87 rfl rfl ?_
      replace hF := eg_bind hF; obtain ⟨p2, e3, hF⟩ := hF
      refine eg_getR dX12_learn_88 e3 (Nat.le_of_ble_eq_true rfl) (Nat.le_of_ble_eq_true rfl) rfl ew_371 ?_
      refine eg_iload (i := 6) 6 dX12_learn_91 rfl ?_
      refine eg_iload_n (i := 1) 1 dX12_learn_93 rfl rfl ?_
      replace hF := eg_bind hF; obtain ⟨⟨v5, h4⟩, e6, hF⟩ := hF
      refine eg_callS (n := 2) [.int l6, .int l1] dX12_learn_94 (mX2_twoOf e6) rfl ew_1040 ew_960 ew_108 ew_961 hy_X2_twoOf.2 rfl (Nat.le_of_ble_eq_true rfl) (Nat.le_of_ble_eq_true rfl) (Nat.le_of_ble_eq_true rfl) ?_
      refine eg_iload (i := 6) 6 dX12_learn_97 rfl ?_
      refine eg_iload_n (i := 2) 2 dX12_learn_99 rfl rfl ?_
      replace hF := eg_bind hF; obtain ⟨⟨v8, h7⟩, e9, hF⟩ := hF
      refine eg_callS (n := 2) [.int l6, .int l2] dX12_learn_100 (mX2_eggEndOf e9) rfl ew_1041 ew_963 ew_108 ew_964 hy_X2_eggEndOf.2 rfl (Nat.le_of_ble_eq_true rfl) (Nat.le_of_ble_eq_true rfl) (Nat.le_of_ble_eq_true rfl) ?_
      refine eg_iload (i := 5) 5 dX12_learn_103 rfl ?_
      replace hF := eg_bind hF; obtain ⟨h10, e11, hF⟩ := hF
      refine eg_callV (c := 11) (n := 3) [.int v5, .int v8, .int l5] dX12_learn_105 (mX11_take e11) rfl (fX11_take_O e11) (Nat.le_of_ble_eq_true rfl) rfl ew_802 ew_803 ew_804 ew_106 ew_805 hy_X11_take rfl (Nat.le_of_ble_eq_true rfl) (Nat.le_of_ble_eq_true rfl) (Nat.le_of_ble_eq_true rfl) ?_
      refine eg_aload_n (i := 0) 0 dX12_learn_108 rfl rfl ?_
      replace hF := eg_bind hF; obtain ⟨p12, e13, hF⟩ := hF
      refine eg_getR dX12_learn_109 e13 (Nat.le_of_ble_eq_true rfl) (Nat.le_of_ble_eq_true rfl) rfl ew_371 ?_
      refine eg_aload_n (i := 0) 0 dX12_learn_112 rfl rfl ?_
      replace hF := eg_bind hF; obtain ⟨p14, e15, hF⟩ := hF
      refine eg_getR dX12_learn_113 e15 (Nat.le_of_ble_eq_true rfl) (Nat.le_of_ble_eq_true rfl) rfl ew_359 ?_
      refine eg_iload (i := 6) 6 dX12_learn_116 rfl ?_
      refine eg_aload_n (i := 0) 0 dX12_learn_118 rfl rfl ?_
      replace hF := eg_bind hF; obtain ⟨p16, e17, hF⟩ := hF
      refine eg_getR dX12_learn_119 e17 (Nat.le_of_ble_eq_true rfl) (Nat.le_of_ble_eq_true rfl) rfl ew_359 ?_
      refine eg_iconst (v := (2 : Int32)) dX12_learn_122 (by decide) ?_
      replace hF := eg_bind hF; obtain ⟨⟨v19, h18⟩, e20, hF⟩ := hF
      refine eg_callV (c := 7) (n := 1) [.int (2 : Int32)] dX12_learn_123 (mX7_told e20) rfl (fX7_told_O e20) (Nat.le_of_ble_eq_true rfl) rfl ew_717 ew_718 ew_719 ew_104 ew_720 hy_X7_told rfl (Nat.le_of_ble_eq_true rfl) (Nat.le_of_ble_eq_true rfl) (Nat.le_of_ble_eq_true rfl) ?_
      replace hF := eg_bind hF; obtain ⟨⟨v22, h21⟩, e23, hF⟩ := hF
      refine eg_callV (c := 7) (n := 2) [.int l6, .int v19] dX12_learn_126 (mX7_yardsOf e23) rfl (fX7_yardsOf_O e23) (Nat.le_of_ble_eq_true rfl) rfl ew_1039 ew_956 ew_957 ew_104 ew_958 hy_X7_yardsOf rfl (Nat.le_of_ble_eq_true rfl) (Nat.le_of_ble_eq_true rfl) (Nat.le_of_ble_eq_true rfl) ?_
      replace hF := eg_bind hF; obtain ⟨h24, e25, hF⟩ := hF
      refine eg_callV (c := 11) (n := 1) [.int v22] dX12_learn_129 (mX11_climbAll e25) rfl (fX11_climbAll_O e25) (Nat.le_of_ble_eq_true rfl) rfl ew_1042 ew_1043 ew_1044 ew_106 ew_1045 hy_X11_climbAll rfl (Nat.le_of_ble_eq_true rfl) (Nat.le_of_ble_eq_true rfl) (Nat.le_of_ble_eq_true rfl) ?_
      refine eg_aload_n (i := 0) 0 dX12_learn_132 rfl rfl ?_
      replace hF := eg_bind hF; obtain ⟨p26, e27, hF⟩ := hF
      refine eg_getR dX12_learn_133 e27 (Nat.le_of_ble_eq_true rfl) (Nat.le_of_ble_eq_true rfl) rfl ew_374 ?_
      refine eg_iload (i := 6) 6 dX12_learn_136 rfl ?_
      refine eg_aload_n (i := 0) 0 dX12_learn_138 rfl rfl ?_
      replace hF := eg_bind hF; obtain ⟨p28, e29, hF⟩ := hF
      refine eg_getR dX12_learn_139 e29 (Nat.le_of_ble_eq_true rfl) (Nat.le_of_ble_eq_true rfl) rfl ew_371 ?_
      replace hF := eg_bind hF; obtain ⟨h30, e31, hF⟩ := hF
      refine eg_callV (c := 9) (n := 2) [.int l6, .ref p28] dX12_learn_142 (mX9_keepClimb e31) rfl (fX9_keepClimb_O e31) (Nat.le_of_ble_eq_true rfl) rfl ew_1046 ew_1047 ew_1048 ew_109 ew_1049 hy_X9_keepClimb rfl (Nat.le_of_ble_eq_true rfl) (Nat.le_of_ble_eq_true rfl) (Nat.le_of_ble_eq_true rfl) ?_
      refine eg_iinc (i := 6) (v := (l6 + (1 : Int32))) 6 [(6, .int (l6 + (1 : Int32))), (0, .ref l0), (1, .int l1), (2, .int l2), (3, .int l3), (4, .int l4), (5, .int l5)] dX12_learn_145 rfl rfl (Nat.le_of_ble_eq_true rfl) rfl ?_
      refine eg_goto 81 dX12_learn_148 rfl ?_
      exact eg_sub [1, 2, 3, 4, 5, 6, 0] [(0, .ref l0), (1, .int l1), (2, .int l2), (3, .int l3), (4, .int l4), (5, .int l5), (6, .int (l6 + (1 : Int32)))] rfl (hrec h30 l0 l1 l2 l3 l4 l5 (l6 + (1 : Int32)) hF)
def fX12_learn (h : eg_H) (l0 : Nat) (l1 : Int32) (l2 : Int32) (l3 : Int32) (l4 : Int32) : Option (Int32 × eg_H) :=
  if eg_isO h 12 l0 then (
    (fX12_isCourse h l0 l1 l2).bind fun ⟨v2, h1⟩ =>
    if v2 = 0 then
      (some ((-1 : Int32), h1))
    else
      if l3 < 0 then
        (some ((-1 : Int32), h1))
      else
        if (60 : Int32) < l3 then
          (some ((-1 : Int32), h1))
        else
          if l4 < 0 then
            (some ((-1 : Int32), h1))
          else
            if l4 ≤ (1000000000 : Int32) then
              (if l3 = 0 then
                (some ((0 : Int32), h1))
              else
                if l4 = 0 then
                  (some ((0 : Int32), h1))
                else
                  (eg_gR h1 12 3 l0).bind fun p11 =>
                  (eg_gR h1 12 3 l0).bind fun p13 =>
                  (fX7_told h1 p13 (2 : Int32)).bind fun ⟨v16, h15⟩ =>
                  (fX7_yardsOf h15 p11 l3 v16).bind fun ⟨v19, h18⟩ =>
                  if v19 ≤ (60 : Int32) then
                    ((eg_gR h18 12 3 l0).bind fun p22 =>
                    (fX7_told h18 p22 (0 : Int32)).bind fun ⟨v25, h24⟩ =>
                    (fX12_learn_L81 eg_F h24 l0 l1 l2 l3 l4 v25 (1 : Int32)).bind fun e =>
                    match e with
                    | (p29, v30, v31, v32, h33) =>
                      (eg_gR h33 12 18 p29).bind fun p34 =>
                      (eg_gR h33 12 3 p29).bind fun p36 =>
                      (fX9_leastRise h33 p34 p36 v30 v31 v32).bind fun ⟨v39, h38⟩ =>
                      some (v39, h38))
                  else
                    some ((-1 : Int32), h18))
            else
              some ((-1 : Int32), h1)) else none
theorem fX12_learn_O {h : eg_H} {l0 : Nat} {l1 : Int32} {l2 : Int32} {l3 : Int32} {l4 : Int32} {rE : Int32} {hE : eg_H} (hF : fX12_learn h l0 l1 l2 l3 l4 = some (rE, hE)) : eg_isO h 12 l0 := (eg_ifn hF).1
set_option maxRecDepth 20000 in
theorem mX12_learn {h : eg_H} {l0 : Nat} {l1 : Int32} {l2 : Int32} {l3 : Int32} {l4 : Int32} {rE : Int32} {hE : eg_H} (hF : fX12_learn h l0 l1 l2 l3 l4 = some (rE, hE)) : eg_Met yX12_learn cX12_learn 7 (some .int) 5 [.ref l0, .int l1, .int l2, .int l3, .int l4] h (some (.int rE)) hE := by
  refine eg_enter rfl (Nat.le_of_ble_eq_true rfl) ?_
  show eg_AW (RX12, cX12_learn, 7, 5, none, "learn", (some .int)) (eg_Zm (some (.int rE)) hE h) (eg_nc hE) (eg_ns hE) h 0 [(0, .ref l0), (1, .int l1), (2, .int l2), (3, .int l3), (4, .int l4)] [] h
  replace hF := (eg_ifn hF).2
  refine eg_aload_n (i := 0) 0 dX12_learn_0 rfl rfl ?_
  refine eg_iload_n (i := 1) 1 dX12_learn_1 rfl rfl ?_
  refine eg_iload_n (i := 2) 2 dX12_learn_2 rfl rfl ?_
  replace hF := eg_bind hF; obtain ⟨⟨v2, h1⟩, e3, hF⟩ := hF
  refine eg_callV (c := 12) (n := 2) [.int l1, .int l2] dX12_learn_3 (mX12_isCourse e3) rfl (fX12_isCourse_O e3) (Nat.le_of_ble_eq_true rfl) rfl ew_786 ew_788 ew_24 ew_100 ew_789 hy_X12_isCourse rfl (Nat.le_of_ble_eq_true rfl) (Nat.le_of_ble_eq_true rfl) (Nat.le_of_ble_eq_true rfl) ?_
  refine eg_if_eq 32 dX12_learn_6 rfl (fun c4 => ?_) (fun c4 => ?_)
  · replace hF := eg_it c4 hF
    refine eg_iconst (v := (-1 : Int32)) dX12_learn_32 (by decide) ?_
    exact eg_iretE dX12_learn_33 hF
  · replace hF := eg_if c4 hF
    refine eg_iload_n (i := 3) 3 dX12_learn_9 rfl rfl ?_
    refine eg_if_lt 32 dX12_learn_10 rfl (fun c5 => ?_) (fun c5 => ?_)
    · replace hF := eg_it c5 hF
      refine eg_iconst (v := (-1 : Int32)) dX12_learn_32 (by decide) ?_
      exact eg_iretE dX12_learn_33 hF
    · replace hF := eg_if c5 hF
      refine eg_iload_n (i := 3) 3 dX12_learn_13 rfl rfl ?_
      refine eg_bipush (v := (60 : Int32)) dX12_learn_14 (by decide) ?_
      refine eg_ic_gt 32 dX12_learn_16 rfl (fun c6 => ?_) (fun c6 => ?_)
      · replace hF := eg_it c6 hF
        refine eg_iconst (v := (-1 : Int32)) dX12_learn_32 (by decide) ?_
        exact eg_iretE dX12_learn_33 hF
      · replace hF := eg_if c6 hF
        refine eg_iload (i := 4) 4 dX12_learn_19 rfl ?_
        refine eg_if_lt 32 dX12_learn_21 rfl (fun c7 => ?_) (fun c7 => ?_)
        · replace hF := eg_it c7 hF
          refine eg_iconst (v := (-1 : Int32)) dX12_learn_32 (by decide) ?_
          exact eg_iretE dX12_learn_33 hF
        · replace hF := eg_if c7 hF
          refine eg_iload (i := 4) 4 dX12_learn_24 rfl ?_
          refine eg_ldcw (v := (1000000000 : Int32)) dX12_learn_26 ew_1038 ?_
          refine eg_ic_le 34 dX12_learn_29 rfl (fun c8 => ?_) (fun c8 => ?_)
          · replace hF := eg_it c8 hF
            refine eg_iload_n (i := 3) 3 dX12_learn_34 rfl rfl ?_
            refine eg_if_eq 43 dX12_learn_35 rfl (fun c9 => ?_) (fun c9 => ?_)
            · replace hF := eg_it c9 hF
              refine eg_iconst (v := (0 : Int32)) dX12_learn_43 (by decide) ?_
              exact eg_iretE dX12_learn_44 hF
            · replace hF := eg_if c9 hF
              refine eg_iload (i := 4) 4 dX12_learn_38 rfl ?_
              refine eg_if_ne 45 dX12_learn_40 rfl (fun c10 => ?_) (fun c10 => ?_)
              · replace hF := eg_it c10 hF
                refine eg_iconst (v := (0 : Int32)) dX12_learn_43 (by decide) ?_
                exact eg_iretE dX12_learn_44 hF
              · replace hF := eg_if c10 hF
                refine eg_aload_n (i := 0) 0 dX12_learn_45 rfl rfl ?_
                replace hF := eg_bind hF; obtain ⟨p11, e12, hF⟩ := hF
                refine eg_getR dX12_learn_46 e12 (Nat.le_of_ble_eq_true rfl) (Nat.le_of_ble_eq_true rfl) rfl ew_359 ?_
                refine eg_iload_n (i := 3) 3 dX12_learn_49 rfl rfl ?_
                refine eg_aload_n (i := 0) 0 dX12_learn_50 rfl rfl ?_
                replace hF := eg_bind hF; obtain ⟨p13, e14, hF⟩ := hF
                refine eg_getR dX12_learn_51 e14 (Nat.le_of_ble_eq_true rfl) (Nat.le_of_ble_eq_true rfl) rfl ew_359 ?_
                refine eg_iconst (v := (2 : Int32)) dX12_learn_54 (by decide) ?_
                replace hF := eg_bind hF; obtain ⟨⟨v16, h15⟩, e17, hF⟩ := hF
                refine eg_callV (c := 7) (n := 1) [.int (2 : Int32)] dX12_learn_55 (mX7_told e17) rfl (fX7_told_O e17) (Nat.le_of_ble_eq_true rfl) rfl ew_717 ew_718 ew_719 ew_104 ew_720 hy_X7_told rfl (Nat.le_of_ble_eq_true rfl) (Nat.le_of_ble_eq_true rfl) (Nat.le_of_ble_eq_true rfl) ?_
                replace hF := eg_bind hF; obtain ⟨⟨v19, h18⟩, e20, hF⟩ := hF
                refine eg_callV (c := 7) (n := 2) [.int l3, .int v16] dX12_learn_58 (mX7_yardsOf e20) rfl (fX7_yardsOf_O e20) (Nat.le_of_ble_eq_true rfl) rfl ew_1039 ew_956 ew_957 ew_104 ew_958 hy_X7_yardsOf rfl (Nat.le_of_ble_eq_true rfl) (Nat.le_of_ble_eq_true rfl) (Nat.le_of_ble_eq_true rfl) ?_
                refine eg_bipush (v := (60 : Int32)) dX12_learn_61 (by decide) ?_
                refine eg_ic_le 68 dX12_learn_63 rfl (fun c21 => ?_) (fun c21 => ?_)
                · replace hF := eg_it c21 hF
                  refine eg_aload_n (i := 0) 0 dX12_learn_68 rfl rfl ?_
                  replace hF := eg_bind hF; obtain ⟨p22, e23, hF⟩ := hF
                  refine eg_getR dX12_learn_69 e23 (Nat.le_of_ble_eq_true rfl) (Nat.le_of_ble_eq_true rfl) rfl ew_359 ?_
                  refine eg_iconst (v := (0 : Int32)) dX12_learn_72 (by decide) ?_
                  replace hF := eg_bind hF; obtain ⟨⟨v25, h24⟩, e26, hF⟩ := hF
                  refine eg_callV (c := 7) (n := 1) [.int (0 : Int32)] dX12_learn_73 (mX7_told e26) rfl (fX7_told_O e26) (Nat.le_of_ble_eq_true rfl) rfl ew_717 ew_718 ew_719 ew_104 ew_720 hy_X7_told rfl (Nat.le_of_ble_eq_true rfl) (Nat.le_of_ble_eq_true rfl) (Nat.le_of_ble_eq_true rfl) ?_
                  refine eg_istore (i := 5) [(5, .int v25), (0, .ref l0), (1, .int l1), (2, .int l2), (3, .int l3), (4, .int l4)] dX12_learn_76 (Nat.le_of_ble_eq_true rfl) rfl ?_
                  refine eg_iconst (v := (1 : Int32)) dX12_learn_78 (by decide) ?_
                  refine eg_istore (i := 6) [(6, .int (1 : Int32)), (5, .int v25), (0, .ref l0), (1, .int l1), (2, .int l2), (3, .int l3), (4, .int l4)] dX12_learn_79 (Nat.le_of_ble_eq_true rfl) rfl ?_
                  replace hF := eg_bind hF; obtain ⟨x28, e27, hF⟩ := hF
                  refine eg_sub [2, 3, 4, 5, 6, 1, 0] [(0, .ref l0), (1, .int l1), (2, .int l2), (3, .int l3), (4, .int l4), (5, .int v25), (6, .int (1 : Int32))] rfl (fX12_learn_L81_ok eg_F h24 l0 l1 l2 l3 l4 v25 (1 : Int32) x28 e27 ?_)
                  · intro p29 v30 v31 v32 h33 e41
                    subst e41
                    refine eg_aload_n (i := 0) 0 dX12_learn_151 rfl rfl ?_
                    replace hF := eg_bind hF; obtain ⟨p34, e35, hF⟩ := hF
                    refine eg_getR dX12_learn_152 e35 (Nat.le_of_ble_eq_true rfl) (Nat.le_of_ble_eq_true rfl) rfl ew_374 ?_
                    refine eg_aload_n (i := 0) 0 dX12_learn_155 rfl rfl ?_
                    replace hF := eg_bind hF; obtain ⟨p36, e37, hF⟩ := hF
                    refine eg_getR dX12_learn_156 e37 (Nat.le_of_ble_eq_true rfl) (Nat.le_of_ble_eq_true rfl) rfl ew_359 ?_
                    refine eg_iload_n (i := 1) 1 dX12_learn_159 rfl rfl ?_
                    refine eg_iload_n (i := 3) 2 dX12_learn_160 rfl rfl ?_
                    refine eg_iload (i := 4) 3 dX12_learn_161 rfl ?_
                    replace hF := eg_bind hF; obtain ⟨⟨v39, h38⟩, e40, hF⟩ := hF
                    refine eg_callV (c := 9) (n := 4) [.ref p36, .int v30, .int v31, .int v32] dX12_learn_163 (mX9_leastRise e40) rfl (fX9_leastRise_O e40) (Nat.le_of_ble_eq_true rfl) rfl ew_1054 ew_1055 ew_1056 ew_109 ew_1057 hy_X9_leastRise rfl (Nat.le_of_ble_eq_true rfl) (Nat.le_of_ble_eq_true rfl) (Nat.le_of_ble_eq_true rfl) ?_
                    exact eg_iretE dX12_learn_166 hF
                · replace hF := eg_if c21 hF
                  refine eg_iconst (v := (-1 : Int32)) dX12_learn_66 (by decide) ?_
                  exact eg_iretE dX12_learn_67 hF
          · replace hF := eg_if c8 hF
            refine eg_iconst (v := (-1 : Int32)) dX12_learn_32 (by decide) ?_
            exact eg_iretE dX12_learn_33 hF
