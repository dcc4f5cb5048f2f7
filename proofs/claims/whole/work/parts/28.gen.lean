theorem dX12_end_0 : decode cX12_end 0 = .ok (.iload_n 1, 1) := by decide +kernel
theorem dX12_end_1 : decode cX12_end 1 = .ok (.ifCond .lt 14, 3) := by decide +kernel
theorem dX12_end_4 : decode cX12_end 4 = .ok (.iload_n 1, 1) := by decide +kernel
theorem dX12_end_5 : decode cX12_end 5 = .ok (.aload_n 0, 1) := by decide +kernel
theorem dX12_end_6 : decode cX12_end 6 = .ok (.getfield 10, 3) := by decide +kernel
theorem dX12_end_9 : decode cX12_end 9 = .ok (.invokevirtual 123, 3) := by decide +kernel
theorem dX12_end_12 : decode cX12_end 12 = .ok (.if_icmp .le 5, 3) := by decide +kernel
theorem dX12_end_15 : decode cX12_end 15 = .ok (.iconst 0, 1) := by decide +kernel
theorem dX12_end_16 : decode cX12_end 16 = .ok (.ireturn, 1) := by decide +kernel
theorem dX12_end_17 : decode cX12_end 17 = .ok (.aload_n 0, 1) := by decide +kernel
theorem dX12_end_18 : decode cX12_end 18 = .ok (.getfield 10, 3) := by decide +kernel
theorem dX12_end_21 : decode cX12_end 21 = .ok (.iload_n 1, 1) := by decide +kernel
theorem dX12_end_22 : decode cX12_end 22 = .ok (.invokevirtual 130, 3) := by decide +kernel
theorem dX12_end_25 : decode cX12_end 25 = .ok (.iconst 1, 1) := by decide +kernel
theorem dX12_end_26 : decode cX12_end 26 = .ok (.ireturn, 1) := by decide +kernel
def fX12_end (h : eg_H) (l0 : Nat) (l1 : Int32) : Option (Int32 × eg_H) :=
  if eg_isO h 12 l0 then (
    if l1 < 0 then
      (some ((0 : Int32), h))
    else
      (eg_gR h 12 0 l0).bind fun p2 =>
      (fX10_length h p2).bind fun ⟨v5, h4⟩ =>
      if l1 ≤ v5 then
        ((eg_gR h4 12 0 l0).bind fun p8 =>
        (fX10_cut h4 p8 l1).bind fun h10 =>
        some ((1 : Int32), h10))
      else
        some ((0 : Int32), h4)) else none
theorem fX12_end_O {h : eg_H} {l0 : Nat} {l1 : Int32} {rE : Int32} {hE : eg_H} (hF : fX12_end h l0 l1 = some (rE, hE)) : eg_isO h 12 l0 := (eg_ifn hF).1
set_option maxRecDepth 20000 in
theorem mX12_end {h : eg_H} {l0 : Nat} {l1 : Int32} {rE : Int32} {hE : eg_H} (hF : fX12_end h l0 l1 = some (rE, hE)) : eg_Met yX12_end cX12_end 2 (some .boolean) 2 [.ref l0, .int l1] h (some (.int rE)) hE := by
  refine eg_enter rfl (Nat.le_of_ble_eq_true rfl) ?_
  show eg_AW (RX12, cX12_end, 2, 2, none, "end", (some .boolean)) (eg_Zm (some (.int rE)) hE h) (eg_nc hE) (eg_ns hE) h 0 [(0, .ref l0), (1, .int l1)] [] h
  replace hF := (eg_ifn hF).2
  refine eg_iload_n (i := 1) 1 dX12_end_0 rfl rfl ?_
  refine eg_if_lt 15 dX12_end_1 rfl (fun c1 => ?_) (fun c1 => ?_)
  · replace hF := eg_it c1 hF
    refine eg_iconst (v := (0 : Int32)) dX12_end_15 (by decide) ?_
    exact eg_zretE dX12_end_16 (Or.inl rfl) hF
  · replace hF := eg_if c1 hF
    refine eg_iload_n (i := 1) 1 dX12_end_4 rfl rfl ?_
    refine eg_aload_n (i := 0) 0 dX12_end_5 rfl rfl ?_
    replace hF := eg_bind hF; obtain ⟨p2, e3, hF⟩ := hF
    refine eg_getR dX12_end_6 e3 (Nat.le_of_ble_eq_true rfl) (Nat.le_of_ble_eq_true rfl) rfl ew_356 ?_
    replace hF := eg_bind hF; obtain ⟨⟨v5, h4⟩, e6, hF⟩ := hF
    refine eg_callV (c := 10) (n := 0) [] dX12_end_9 (mX10_length e6) rfl (fX10_length_O e6) (Nat.le_of_ble_eq_true rfl) rfl ew_422 ew_423 ew_424 ew_101 ew_425 hy_X10_length rfl (Nat.le_of_ble_eq_true rfl) (Nat.le_of_ble_eq_true rfl) (Nat.le_of_ble_eq_true rfl) ?_
    refine eg_ic_le 17 dX12_end_12 rfl (fun c7 => ?_) (fun c7 => ?_)
    · replace hF := eg_it c7 hF
      refine eg_aload_n (i := 0) 0 dX12_end_17 rfl rfl ?_
      replace hF := eg_bind hF; obtain ⟨p8, e9, hF⟩ := hF
      refine eg_getR dX12_end_18 e9 (Nat.le_of_ble_eq_true rfl) (Nat.le_of_ble_eq_true rfl) rfl ew_356 ?_
      refine eg_iload_n (i := 1) 1 dX12_end_21 rfl rfl ?_
      replace hF := eg_bind hF; obtain ⟨h10, e11, hF⟩ := hF
      refine eg_callV (c := 10) (n := 1) [.int l1] dX12_end_22 (mX10_cut e11) rfl (fX10_cut_O e11) (Nat.le_of_ble_eq_true rfl) rfl ew_434 ew_435 ew_436 ew_101 ew_437 hy_X10_cut rfl (Nat.le_of_ble_eq_true rfl) (Nat.le_of_ble_eq_true rfl) (Nat.le_of_ble_eq_true rfl) ?_
      refine eg_iconst (v := (1 : Int32)) dX12_end_25 (by decide) ?_
      exact eg_zretE dX12_end_26 (Or.inr rfl) hF
    · replace hF := eg_if c7 hF
      refine eg_iconst (v := (0 : Int32)) dX12_end_15 (by decide) ?_
      exact eg_zretE dX12_end_16 (Or.inl rfl) hF
theorem dX12_fault_0 : decode cX12_fault 0 = .ok (.iload_n 1, 1) := by decide +kernel
theorem dX12_fault_1 : decode cX12_fault 1 = .ok (.tableswitch 51 0 2 #[27, 35, 43], 27) := by decide +kernel
theorem dX12_fault_28 : decode cX12_fault 28 = .ok (.aload_n 0, 1) := by decide +kernel
theorem dX12_fault_29 : decode cX12_fault 29 = .ok (.getfield 21, 3) := by decide +kernel
theorem dX12_fault_32 : decode cX12_fault 32 = .ok (.invokevirtual 133, 3) := by decide +kernel
theorem dX12_fault_35 : decode cX12_fault 35 = .ok (.ireturn, 1) := by decide +kernel
theorem dX12_fault_36 : decode cX12_fault 36 = .ok (.aload_n 0, 1) := by decide +kernel
theorem dX12_fault_37 : decode cX12_fault 37 = .ok (.getfield 28, 3) := by decide +kernel
theorem dX12_fault_40 : decode cX12_fault 40 = .ok (.invokevirtual 136, 3) := by decide +kernel
theorem dX12_fault_43 : decode cX12_fault 43 = .ok (.ireturn, 1) := by decide +kernel
theorem dX12_fault_44 : decode cX12_fault 44 = .ok (.aload_n 0, 1) := by decide +kernel
theorem dX12_fault_45 : decode cX12_fault 45 = .ok (.getfield 10, 3) := by decide +kernel
theorem dX12_fault_48 : decode cX12_fault 48 = .ok (.invokevirtual 137, 3) := by decide +kernel
theorem dX12_fault_51 : decode cX12_fault 51 = .ok (.ireturn, 1) := by decide +kernel
theorem dX12_fault_52 : decode cX12_fault 52 = .ok (.bipush (-2), 2) := by decide +kernel
theorem dX12_fault_54 : decode cX12_fault 54 = .ok (.ireturn, 1) := by decide +kernel
def fX12_fault (h : eg_H) (l0 : Nat) (l1 : Int32) : Option (Int32 × eg_H) :=
  if eg_isO h 12 l0 then (
    if l1 = (0 : Int32) then
      ((eg_gR h 12 1 l0).bind fun p2 =>
      (fX8_read h p2).bind fun ⟨v5, h4⟩ =>
      some (v5, h4))
    else
    if l1 = (1 : Int32) then
      ((eg_gR h 12 2 l0).bind fun p8 =>
      (fX6_read h p8).bind fun ⟨v11, h10⟩ =>
      some (v11, h10))
    else
    if l1 = (2 : Int32) then
      ((eg_gR h 12 0 l0).bind fun p14 =>
      (fX10_readFrames h p14).bind fun ⟨v17, h16⟩ =>
      some (v17, h16))
    else
    some ((-2 : Int32), h)) else none
theorem fX12_fault_O {h : eg_H} {l0 : Nat} {l1 : Int32} {rE : Int32} {hE : eg_H} (hF : fX12_fault h l0 l1 = some (rE, hE)) : eg_isO h 12 l0 := (eg_ifn hF).1
set_option maxRecDepth 20000 in
theorem mX12_fault {h : eg_H} {l0 : Nat} {l1 : Int32} {rE : Int32} {hE : eg_H} (hF : fX12_fault h l0 l1 = some (rE, hE)) : eg_Met yX12_fault cX12_fault 2 (some .int) 455 [.ref l0, .int l1] h (some (.int rE)) hE := by
  refine eg_enter rfl (Nat.le_of_ble_eq_true rfl) ?_
  show eg_AW (RX12, cX12_fault, 2, 455, none, "fault", (some .int)) (eg_Zm (some (.int rE)) hE h) (eg_nc hE) (eg_ns hE) h 0 [(0, .ref l0), (1, .int l1)] [] h
  replace hF := (eg_ifn hF).2
  refine eg_iload_n (i := 1) 1 dX12_fault_0 rfl rfl ?_
  by_cases c1 : l1 = (0 : Int32)
  · replace hF := eg_it c1 hF
    refine eg_tIn 28 c1 dX12_fault_1 (by decide) (by decide) rfl rfl ?_
    refine eg_aload_n (i := 0) 0 dX12_fault_28 rfl rfl ?_
    replace hF := eg_bind hF; obtain ⟨p2, e3, hF⟩ := hF
    refine eg_getR dX12_fault_29 e3 (Nat.le_of_ble_eq_true rfl) (Nat.le_of_ble_eq_true rfl) rfl ew_357 ?_
    replace hF := eg_bind hF; obtain ⟨⟨v5, h4⟩, e6, hF⟩ := hF
    refine eg_callV (c := 8) (n := 0) [] dX12_fault_32 (mX8_read e6) rfl (fX8_read_O e6) (Nat.le_of_ble_eq_true rfl) rfl ew_442 ew_443 ew_444 ew_102 ew_445 hy_X8_read rfl (Nat.le_of_ble_eq_true rfl) (Nat.le_of_ble_eq_true rfl) (Nat.le_of_ble_eq_true rfl) ?_
    exact eg_iretE dX12_fault_35 hF
  replace hF := eg_if c1 hF
  by_cases c7 : l1 = (1 : Int32)
  · replace hF := eg_it c7 hF
    refine eg_tIn 36 c7 dX12_fault_1 (by decide) (by decide) rfl rfl ?_
    refine eg_aload_n (i := 0) 0 dX12_fault_36 rfl rfl ?_
    replace hF := eg_bind hF; obtain ⟨p8, e9, hF⟩ := hF
    refine eg_getR dX12_fault_37 e9 (Nat.le_of_ble_eq_true rfl) (Nat.le_of_ble_eq_true rfl) rfl ew_358 ?_
    replace hF := eg_bind hF; obtain ⟨⟨v11, h10⟩, e12, hF⟩ := hF
    refine eg_callV (c := 6) (n := 0) [] dX12_fault_40 (mX6_read e12) rfl (fX6_read_O e12) (Nat.le_of_ble_eq_true rfl) rfl ew_514 ew_515 ew_516 ew_103 ew_517 hy_X6_read rfl (Nat.le_of_ble_eq_true rfl) (Nat.le_of_ble_eq_true rfl) (Nat.le_of_ble_eq_true rfl) ?_
    exact eg_iretE dX12_fault_43 hF
  replace hF := eg_if c7 hF
  by_cases c13 : l1 = (2 : Int32)
  · replace hF := eg_it c13 hF
    refine eg_tIn 44 c13 dX12_fault_1 (by decide) (by decide) rfl rfl ?_
    refine eg_aload_n (i := 0) 0 dX12_fault_44 rfl rfl ?_
    replace hF := eg_bind hF; obtain ⟨p14, e15, hF⟩ := hF
    refine eg_getR dX12_fault_45 e15 (Nat.le_of_ble_eq_true rfl) (Nat.le_of_ble_eq_true rfl) rfl ew_356 ?_
    replace hF := eg_bind hF; obtain ⟨⟨v17, h16⟩, e18, hF⟩ := hF
    refine eg_callV (c := 10) (n := 0) [] dX12_fault_48 (mX10_readFrames e18) rfl (fX10_readFrames_O e18) (Nat.le_of_ble_eq_true rfl) rfl ew_578 ew_579 ew_580 ew_101 ew_581 hy_X10_readFrames rfl (Nat.le_of_ble_eq_true rfl) (Nat.le_of_ble_eq_true rfl) (Nat.le_of_ble_eq_true rfl) ?_
    exact eg_iretE dX12_fault_51 hF
  replace hF := eg_if c13 hF
  refine eg_tOut 52 dX12_fault_1 (by
    have z0 := lv_neT c1 (show ((0 : Int32)).toInt = 0 from rfl)
    have z1 := lv_neT c7 (show ((1 : Int32)).toInt = 1 from rfl)
    have z2 := lv_neT c13 (show ((2 : Int32)).toInt = 2 from rfl)
    omega) rfl ?_
  refine eg_bipush (v := (-2 : Int32)) dX12_fault_52 (by decide) ?_
  exact eg_iretE dX12_fault_54 hF
theorem dX12_lawAt_0 : decode cX12_lawAt 0 = .ok (.iload_n 1, 1) := by decide +kernel
theorem dX12_lawAt_1 : decode cX12_lawAt 1 = .ok (.ifCond .lt 20, 3) := by decide +kernel
theorem dX12_lawAt_4 : decode cX12_lawAt 4 = .ok (.iload_n 1, 1) := by decide +kernel
theorem dX12_lawAt_5 : decode cX12_lawAt 5 = .ok (.aload_n 0, 1) := by decide +kernel
theorem dX12_lawAt_6 : decode cX12_lawAt 6 = .ok (.getfield 45, 3) := by decide +kernel
theorem dX12_lawAt_9 : decode cX12_lawAt 9 = .ok (.if_icmp .ge 12, 3) := by decide +kernel
theorem dX12_lawAt_12 : decode cX12_lawAt 12 = .ok (.iload_n 1, 1) := by decide +kernel
theorem dX12_lawAt_13 : decode cX12_lawAt 13 = .ok (.aload_n 0, 1) := by decide +kernel
theorem dX12_lawAt_14 : decode cX12_lawAt 14 = .ok (.getfield 41, 3) := by decide +kernel
theorem dX12_lawAt_17 : decode cX12_lawAt 17 = .ok (.arraylength, 1) := by decide +kernel
theorem dX12_lawAt_18 : decode cX12_lawAt 18 = .ok (.if_icmp .lt 7, 3) := by decide +kernel
theorem dX12_lawAt_21 : decode cX12_lawAt 21 = .ok (.aconst_null, 1) := by decide +kernel
theorem dX12_lawAt_22 : decode cX12_lawAt 22 = .ok (.goto 9, 3) := by decide +kernel
theorem dX12_lawAt_25 : decode cX12_lawAt 25 = .ok (.aload_n 0, 1) := by decide +kernel
theorem dX12_lawAt_26 : decode cX12_lawAt 26 = .ok (.getfield 41, 3) := by decide +kernel
theorem dX12_lawAt_29 : decode cX12_lawAt 29 = .ok (.iload_n 1, 1) := by decide +kernel
theorem dX12_lawAt_30 : decode cX12_lawAt 30 = .ok (.aaload, 1) := by decide +kernel
theorem dX12_lawAt_31 : decode cX12_lawAt 31 = .ok (.areturn, 1) := by decide +kernel
def fX12_lawAt (h : eg_H) (l0 : Nat) (l1 : Int32) : Option (Option Nat × eg_H) :=
  if eg_isO h 12 l0 then (
    if l1 < 0 then
      (some (none, h))
    else
      (eg_gI h 12 5 l0).bind fun v2 =>
      if v2 ≤ l1 then
        (some (none, h))
      else
        (eg_gR h 12 4 l0).bind fun p5 =>
        (eg_al h p5).bind fun v7 =>
        if l1 < v7 then
          ((eg_gR h 12 4 l0).bind fun p10 =>
          (eg_aQ h 115 p10 l1).bind fun q12 =>
          some (q12, h))
        else
          some (none, h)) else none
theorem fX12_lawAt_O {h : eg_H} {l0 : Nat} {l1 : Int32} {rE : Option Nat} {hE : eg_H} (hF : fX12_lawAt h l0 l1 = some (rE, hE)) : eg_isO h 12 l0 := (eg_ifn hF).1
set_option maxRecDepth 20000 in
theorem mX12_lawAt {h : eg_H} {l0 : Nat} {l1 : Int32} {rE : Option Nat} {hE : eg_H} (hF : fX12_lawAt h l0 l1 = some (rE, hE)) : eg_Met yX12_lawAt cX12_lawAt 2 (some (.object "EggThrow$Law")) 1 [.ref l0, .int l1] h (some (va_rf rE)) hE := by
  refine eg_enter rfl (Nat.le_of_ble_eq_true rfl) ?_
  show eg_AW (RX12, cX12_lawAt, 2, 1, none, "lawAt", (some (.object "EggThrow$Law"))) (eg_Zm (some (va_rf rE)) hE h) (eg_nc hE) (eg_ns hE) h 0 [(0, .ref l0), (1, .int l1)] [] h
  replace hF := (eg_ifn hF).2
  refine eg_iload_n (i := 1) 1 dX12_lawAt_0 rfl rfl ?_
  refine eg_if_lt 21 dX12_lawAt_1 rfl (fun c1 => ?_) (fun c1 => ?_)
  · replace hF := eg_it c1 hF
    refine eg_null dX12_lawAt_21 ?_
    refine eg_goto 31 dX12_lawAt_22 rfl ?_
    exact eg_aretE (r := none) dX12_lawAt_31 (Or.inl ⟨_, rfl⟩) hF
  · replace hF := eg_if c1 hF
    refine eg_iload_n (i := 1) 1 dX12_lawAt_4 rfl rfl ?_
    refine eg_aload_n (i := 0) 0 dX12_lawAt_5 rfl rfl ?_
    replace hF := eg_bind hF; obtain ⟨v2, e3, hF⟩ := hF
    refine eg_getI dX12_lawAt_6 e3 (Nat.le_of_ble_eq_true rfl) (Nat.le_of_ble_eq_true rfl) rfl ew_361 ?_
    refine eg_ic_ge 21 dX12_lawAt_9 rfl (fun c4 => ?_) (fun c4 => ?_)
    · replace hF := eg_it c4 hF
      refine eg_null dX12_lawAt_21 ?_
      refine eg_goto 31 dX12_lawAt_22 rfl ?_
      exact eg_aretE (r := none) dX12_lawAt_31 (Or.inl ⟨_, rfl⟩) hF
    · replace hF := eg_if c4 hF
      refine eg_iload_n (i := 1) 1 dX12_lawAt_12 rfl rfl ?_
      refine eg_aload_n (i := 0) 0 dX12_lawAt_13 rfl rfl ?_
      replace hF := eg_bind hF; obtain ⟨p5, e6, hF⟩ := hF
      refine eg_getR dX12_lawAt_14 e6 (Nat.le_of_ble_eq_true rfl) (Nat.le_of_ble_eq_true rfl) rfl ew_360 ?_
      replace hF := eg_bind hF; obtain ⟨v7, e8, hF⟩ := hF
      refine eg_alen dX12_lawAt_17 e8 ?_
      refine eg_ic_lt 25 dX12_lawAt_18 rfl (fun c9 => ?_) (fun c9 => ?_)
      · replace hF := eg_it c9 hF
        refine eg_aload_n (i := 0) 0 dX12_lawAt_25 rfl rfl ?_
        replace hF := eg_bind hF; obtain ⟨p10, e11, hF⟩ := hF
        refine eg_getR dX12_lawAt_26 e11 (Nat.le_of_ble_eq_true rfl) (Nat.le_of_ble_eq_true rfl) rfl ew_360 ?_
        refine eg_iload_n (i := 1) 1 dX12_lawAt_29 rfl rfl ?_
        replace hF := eg_bind hF; obtain ⟨q12, e13, hF⟩ := hF
        refine eg_aaldq (c := 5) dX12_lawAt_30 e13 (Nat.le_of_ble_eq_true rfl) (Nat.le_of_ble_eq_true rfl) ?_
        exact eg_aretE (r := q12) dX12_lawAt_31 (Or.inl ⟨_, rfl⟩) hF
      · replace hF := eg_if c9 hF
        refine eg_null dX12_lawAt_21 ?_
        refine eg_goto 31 dX12_lawAt_22 rfl ?_
        exact eg_aretE (r := none) dX12_lawAt_31 (Or.inl ⟨_, rfl⟩) hF
theorem dX12_holdLaw_0 : decode cX12_holdLaw 0 = .ok (.aload_n 0, 1) := by decide +kernel
theorem dX12_holdLaw_1 : decode cX12_holdLaw 1 = .ok (.iload_n 1, 1) := by decide +kernel
theorem dX12_holdLaw_2 : decode cX12_holdLaw 2 = .ok (.putfield 49, 3) := by decide +kernel
theorem dX12_holdLaw_5 : decode cX12_holdLaw 5 = .ok (.aload_n 0, 1) := by decide +kernel
theorem dX12_holdLaw_6 : decode cX12_holdLaw 6 = .ok (.getfield 92, 3) := by decide +kernel
theorem dX12_holdLaw_9 : decode cX12_holdLaw 9 = .ok (.aload_n 0, 1) := by decide +kernel
theorem dX12_holdLaw_10 : decode cX12_holdLaw 10 = .ok (.iload_n 1, 1) := by decide +kernel
theorem dX12_holdLaw_11 : decode cX12_holdLaw 11 = .ok (.invokevirtual 192, 3) := by decide +kernel
theorem dX12_holdLaw_14 : decode cX12_holdLaw 14 = .ok (.invokevirtual 196, 3) := by decide +kernel
theorem dX12_holdLaw_17 : decode cX12_holdLaw 17 = .ok (.aload_n 0, 1) := by decide +kernel
theorem dX12_holdLaw_18 : decode cX12_holdLaw 18 = .ok (.getfield 101, 3) := by decide +kernel
theorem dX12_holdLaw_21 : decode cX12_holdLaw 21 = .ok (.invokevirtual 200, 3) := by decide +kernel
theorem dX12_holdLaw_24 : decode cX12_holdLaw 24 = .ok (.return_, 1) := by decide +kernel
def fX12_holdLaw (h : eg_H) (l0 : Nat) (l1 : Int32) : Option (eg_H) :=
  if eg_isO h 12 l0 then (
    (eg_pI h 12 6 l0 l1).bind fun h1 =>
    (eg_gR h1 12 15 l0).bind fun p3 =>
    (fX12_lawAt h1 l0 l1).bind fun ⟨q6, h5⟩ =>
    (fX11_obey h5 p3 q6).bind fun h8 =>
    (eg_gR h8 12 16 l0).bind fun p10 =>
    (fX0_forget h8 p10).bind fun h12 =>
    some h12) else none
theorem fX12_holdLaw_O {h : eg_H} {l0 : Nat} {l1 : Int32} {hE : eg_H} (hF : fX12_holdLaw h l0 l1 = some hE) : eg_isO h 12 l0 := (eg_ifn hF).1
set_option maxRecDepth 20000 in
theorem mX12_holdLaw {h : eg_H} {l0 : Nat} {l1 : Int32} {hE : eg_H} (hF : fX12_holdLaw h l0 l1 = some hE) : eg_Met yX12_holdLaw cX12_holdLaw 2 none 2 [.ref l0, .int l1] h none hE := by
  refine eg_enter rfl (Nat.le_of_ble_eq_true rfl) ?_
  show eg_AW (RX12, cX12_holdLaw, 2, 2, none, "holdLaw", none) (eg_Zm none hE h) (eg_nc hE) (eg_ns hE) h 0 [(0, .ref l0), (1, .int l1)] [] h
  replace hF := (eg_ifn hF).2
  refine eg_aload_n (i := 0) 0 dX12_holdLaw_0 rfl rfl ?_
  refine eg_iload_n (i := 1) 1 dX12_holdLaw_1 rfl rfl ?_
  replace hF := eg_bind hF; obtain ⟨h1, e2, hF⟩ := hF
  refine eg_putI dX12_holdLaw_2 e2 (Nat.le_of_ble_eq_true rfl) (Nat.le_of_ble_eq_true rfl) rfl ew_362 (Or.inl rfl) ?_
  refine eg_aload_n (i := 0) 0 dX12_holdLaw_5 rfl rfl ?_
  replace hF := eg_bind hF; obtain ⟨p3, e4, hF⟩ := hF
  refine eg_getR dX12_holdLaw_6 e4 (Nat.le_of_ble_eq_true rfl) (Nat.le_of_ble_eq_true rfl) rfl ew_371 ?_
  refine eg_aload_n (i := 0) 0 dX12_holdLaw_9 rfl rfl ?_
  refine eg_iload_n (i := 1) 1 dX12_holdLaw_10 rfl rfl ?_
  replace hF := eg_bind hF; obtain ⟨⟨q6, h5⟩, e7, hF⟩ := hF
  refine eg_callV (c := 12) (n := 1) [.int l1] dX12_holdLaw_11 (mX12_lawAt e7) rfl (fX12_lawAt_O e7) (Nat.le_of_ble_eq_true rfl) rfl ew_617 ew_619 ew_20 ew_100 ew_620 hy_X12_lawAt rfl (Nat.le_of_ble_eq_true rfl) (Nat.le_of_ble_eq_true rfl) (Nat.le_of_ble_eq_true rfl) ?_
  replace hF := eg_bind hF; obtain ⟨h8, e9, hF⟩ := hF
  refine eg_callV (c := 11) (n := 1) [va_rf q6] dX12_holdLaw_14 (mX11_obey e9) rfl (fX11_obey_O e9) (Nat.le_of_ble_eq_true rfl) rfl ew_621 ew_622 ew_623 ew_106 ew_624 hy_X11_obey rfl (Nat.le_of_ble_eq_true rfl) (Nat.le_of_ble_eq_true rfl) (Nat.le_of_ble_eq_true rfl) ?_
  refine eg_aload_n (i := 0) 0 dX12_holdLaw_17 rfl rfl ?_
  replace hF := eg_bind hF; obtain ⟨p10, e11, hF⟩ := hF
  refine eg_getR dX12_holdLaw_18 e11 (Nat.le_of_ble_eq_true rfl) (Nat.le_of_ble_eq_true rfl) rfl ew_372 ?_
  replace hF := eg_bind hF; obtain ⟨h12, e13, hF⟩ := hF
  refine eg_callV (c := 0) (n := 0) [] dX12_holdLaw_21 (mX0_forget e13) rfl (fX0_forget_O e13) (Nat.le_of_ble_eq_true rfl) rfl ew_625 ew_626 ew_627 ew_107 ew_628 hy_X0_forget rfl (Nat.le_of_ble_eq_true rfl) (Nat.le_of_ble_eq_true rfl) (Nat.le_of_ble_eq_true rfl) ?_
  exact eg_vretE dX12_holdLaw_24 hF
theorem dX12_takeMeadow_0 : decode cX12_takeMeadow 0 = .ok (.aload_n 0, 1) := by decide +kernel
theorem dX12_takeMeadow_1 : decode cX12_takeMeadow 1 = .ok (.getfield 21, 3) := by decide +kernel
theorem dX12_takeMeadow_4 : decode cX12_takeMeadow 4 = .ok (.invokevirtual 133, 3) := by decide +kernel
theorem dX12_takeMeadow_7 : decode cX12_takeMeadow 7 = .ok (.iconst (-1), 1) := by decide +kernel
theorem dX12_takeMeadow_8 : decode cX12_takeMeadow 8 = .ok (.if_icmp .eq 5, 3) := by decide +kernel
theorem dX12_takeMeadow_11 : decode cX12_takeMeadow 11 = .ok (.iconst (-1), 1) := by decide +kernel
theorem dX12_takeMeadow_12 : decode cX12_takeMeadow 12 = .ok (.ireturn, 1) := by decide +kernel
theorem dX12_takeMeadow_13 : decode cX12_takeMeadow 13 = .ok (.aload_n 0, 1) := by decide +kernel
theorem dX12_takeMeadow_14 : decode cX12_takeMeadow 14 = .ok (.getfield 35, 3) := by decide +kernel
theorem dX12_takeMeadow_17 : decode cX12_takeMeadow 17 = .ok (.aload_n 0, 1) := by decide +kernel
theorem dX12_takeMeadow_18 : decode cX12_takeMeadow 18 = .ok (.getfield 21, 3) := by decide +kernel
theorem dX12_takeMeadow_21 : decode cX12_takeMeadow 21 = .ok (.invokevirtual 149, 3) := by decide +kernel
theorem dX12_takeMeadow_24 : decode cX12_takeMeadow 24 = .ok (.aload_n 0, 1) := by decide +kernel
theorem dX12_takeMeadow_25 : decode cX12_takeMeadow 25 = .ok (.getfield 66, 3) := by decide +kernel
theorem dX12_takeMeadow_28 : decode cX12_takeMeadow 28 = .ok (.invokevirtual 153, 3) := by decide +kernel
theorem dX12_takeMeadow_31 : decode cX12_takeMeadow 31 = .ok (.aload_n 0, 1) := by decide +kernel
theorem dX12_takeMeadow_32 : decode cX12_takeMeadow 32 = .ok (.getfield 70, 3) := by decide +kernel
theorem dX12_takeMeadow_35 : decode cX12_takeMeadow 35 = .ok (.invokevirtual 153, 3) := by decide +kernel
theorem dX12_takeMeadow_38 : decode cX12_takeMeadow 38 = .ok (.aload_n 0, 1) := by decide +kernel
theorem dX12_takeMeadow_39 : decode cX12_takeMeadow 39 = .ok (.getfield 73, 3) := by decide +kernel
theorem dX12_takeMeadow_42 : decode cX12_takeMeadow 42 = .ok (.invokevirtual 153, 3) := by decide +kernel
theorem dX12_takeMeadow_45 : decode cX12_takeMeadow 45 = .ok (.aload_n 0, 1) := by decide +kernel
theorem dX12_takeMeadow_46 : decode cX12_takeMeadow 46 = .ok (.iconst 0, 1) := by decide +kernel
theorem dX12_takeMeadow_47 : decode cX12_takeMeadow 47 = .ok (.putfield 83, 3) := by decide +kernel
theorem dX12_takeMeadow_50 : decode cX12_takeMeadow 50 = .ok (.aload_n 0, 1) := by decide +kernel
theorem dX12_takeMeadow_51 : decode cX12_takeMeadow 51 = .ok (.iconst (-1), 1) := by decide +kernel
theorem dX12_takeMeadow_52 : decode cX12_takeMeadow 52 = .ok (.invokevirtual 156, 3) := by decide +kernel
theorem dX12_takeMeadow_55 : decode cX12_takeMeadow 55 = .ok (.aload_n 0, 1) := by decide +kernel
theorem dX12_takeMeadow_56 : decode cX12_takeMeadow 56 = .ok (.getfield 35, 3) := by decide +kernel
theorem dX12_takeMeadow_59 : decode cX12_takeMeadow 59 = .ok (.invokevirtual 159, 3) := by decide +kernel
theorem dX12_takeMeadow_62 : decode cX12_takeMeadow 62 = .ok (.ireturn, 1) := by decide +kernel
def fX12_takeMeadow (h : eg_H) (l0 : Nat) : Option (Int32 × eg_H) :=
  if eg_isO h 12 l0 then (
    (eg_gR h 12 1 l0).bind fun p1 =>
    (fX8_read h p1).bind fun ⟨v4, h3⟩ =>
    if v4 = (-1 : Int32) then
      ((eg_gR h3 12 3 l0).bind fun p7 =>
      (eg_gR h3 12 1 l0).bind fun p9 =>
      (fX7_take h3 p7 p9).bind fun h11 =>
      (eg_gR h11 12 9 l0).bind fun p13 =>
      (fX1_clear h11 p13).bind fun h15 =>
      (eg_gR h15 12 10 l0).bind fun p17 =>
      (fX1_clear h15 p17).bind fun h19 =>
      (eg_gR h19 12 11 l0).bind fun p21 =>
      (fX1_clear h19 p21).bind fun h23 =>
      (eg_pZ h23 12 14 l0 (0 : Int32)).bind fun h25 =>
      (fX12_holdLaw h25 l0 (-1 : Int32)).bind fun h27 =>
      (eg_gR h27 12 3 l0).bind fun p29 =>
      (fX7_persons h27 p29).bind fun ⟨v32, h31⟩ =>
      some (v32, h31))
    else
      some ((-1 : Int32), h3)) else none
theorem fX12_takeMeadow_O {h : eg_H} {l0 : Nat} {rE : Int32} {hE : eg_H} (hF : fX12_takeMeadow h l0 = some (rE, hE)) : eg_isO h 12 l0 := (eg_ifn hF).1
set_option maxRecDepth 20000 in
theorem mX12_takeMeadow {h : eg_H} {l0 : Nat} {rE : Int32} {hE : eg_H} (hF : fX12_takeMeadow h l0 = some (rE, hE)) : eg_Met yX12_takeMeadow cX12_takeMeadow 1 (some .int) 6 [.ref l0] h (some (.int rE)) hE := by
  refine eg_enter rfl (Nat.le_of_ble_eq_true rfl) ?_
  show eg_AW (RX12, cX12_takeMeadow, 1, 6, none, "takeMeadow", (some .int)) (eg_Zm (some (.int rE)) hE h) (eg_nc hE) (eg_ns hE) h 0 [(0, .ref l0)] [] h
  replace hF := (eg_ifn hF).2
  refine eg_aload_n (i := 0) 0 dX12_takeMeadow_0 rfl rfl ?_
  replace hF := eg_bind hF; obtain ⟨p1, e2, hF⟩ := hF
  refine eg_getR dX12_takeMeadow_1 e2 (Nat.le_of_ble_eq_true rfl) (Nat.le_of_ble_eq_true rfl) rfl ew_357 ?_
  replace hF := eg_bind hF; obtain ⟨⟨v4, h3⟩, e5, hF⟩ := hF
  refine eg_callV (c := 8) (n := 0) [] dX12_takeMeadow_4 (mX8_read e5) rfl (fX8_read_O e5) (Nat.le_of_ble_eq_true rfl) rfl ew_442 ew_443 ew_444 ew_102 ew_445 hy_X8_read rfl (Nat.le_of_ble_eq_true rfl) (Nat.le_of_ble_eq_true rfl) (Nat.le_of_ble_eq_true rfl) ?_
  refine eg_iconst (v := (-1 : Int32)) dX12_takeMeadow_7 (by decide) ?_
  refine eg_ic_eq 13 dX12_takeMeadow_8 rfl (fun c6 => ?_) (fun c6 => ?_)
  · replace hF := eg_it c6 hF
    refine eg_aload_n (i := 0) 0 dX12_takeMeadow_13 rfl rfl ?_
    replace hF := eg_bind hF; obtain ⟨p7, e8, hF⟩ := hF
    refine eg_getR dX12_takeMeadow_14 e8 (Nat.le_of_ble_eq_true rfl) (Nat.le_of_ble_eq_true rfl) rfl ew_359 ?_
    refine eg_aload_n (i := 0) 0 dX12_takeMeadow_17 rfl rfl ?_
    replace hF := eg_bind hF; obtain ⟨p9, e10, hF⟩ := hF
    refine eg_getR dX12_takeMeadow_18 e10 (Nat.le_of_ble_eq_true rfl) (Nat.le_of_ble_eq_true rfl) rfl ew_357 ?_
    replace hF := eg_bind hF; obtain ⟨h11, e12, hF⟩ := hF
    refine eg_callV (c := 7) (n := 1) [.ref p9] dX12_takeMeadow_21 (mX7_take e12) rfl (fX7_take_O e12) (Nat.le_of_ble_eq_true rfl) rfl ew_593 ew_594 ew_595 ew_104 ew_596 hy_X7_take rfl (Nat.le_of_ble_eq_true rfl) (Nat.le_of_ble_eq_true rfl) (Nat.le_of_ble_eq_true rfl) ?_
    refine eg_aload_n (i := 0) 0 dX12_takeMeadow_24 rfl rfl ?_
    replace hF := eg_bind hF; obtain ⟨p13, e14, hF⟩ := hF
    refine eg_getR dX12_takeMeadow_25 e14 (Nat.le_of_ble_eq_true rfl) (Nat.le_of_ble_eq_true rfl) rfl ew_365 ?_
    replace hF := eg_bind hF; obtain ⟨h15, e16, hF⟩ := hF
    refine eg_callV (c := 1) (n := 0) [] dX12_takeMeadow_28 (mX1_clear e16) rfl (fX1_clear_O e16) (Nat.le_of_ble_eq_true rfl) rfl ew_609 ew_610 ew_611 ew_105 ew_612 hy_X1_clear rfl (Nat.le_of_ble_eq_true rfl) (Nat.le_of_ble_eq_true rfl) (Nat.le_of_ble_eq_true rfl) ?_
    refine eg_aload_n (i := 0) 0 dX12_takeMeadow_31 rfl rfl ?_
    replace hF := eg_bind hF; obtain ⟨p17, e18, hF⟩ := hF
    refine eg_getR dX12_takeMeadow_32 e18 (Nat.le_of_ble_eq_true rfl) (Nat.le_of_ble_eq_true rfl) rfl ew_366 ?_
    replace hF := eg_bind hF; obtain ⟨h19, e20, hF⟩ := hF
    refine eg_callV (c := 1) (n := 0) [] dX12_takeMeadow_35 (mX1_clear e20) rfl (fX1_clear_O e20) (Nat.le_of_ble_eq_true rfl) rfl ew_609 ew_610 ew_611 ew_105 ew_612 hy_X1_clear rfl (Nat.le_of_ble_eq_true rfl) (Nat.le_of_ble_eq_true rfl) (Nat.le_of_ble_eq_true rfl) ?_
    refine eg_aload_n (i := 0) 0 dX12_takeMeadow_38 rfl rfl ?_
    replace hF := eg_bind hF; obtain ⟨p21, e22, hF⟩ := hF
    refine eg_getR dX12_takeMeadow_39 e22 (Nat.le_of_ble_eq_true rfl) (Nat.le_of_ble_eq_true rfl) rfl ew_367 ?_
    replace hF := eg_bind hF; obtain ⟨h23, e24, hF⟩ := hF
    refine eg_callV (c := 1) (n := 0) [] dX12_takeMeadow_42 (mX1_clear e24) rfl (fX1_clear_O e24) (Nat.le_of_ble_eq_true rfl) rfl ew_609 ew_610 ew_611 ew_105 ew_612 hy_X1_clear rfl (Nat.le_of_ble_eq_true rfl) (Nat.le_of_ble_eq_true rfl) (Nat.le_of_ble_eq_true rfl) ?_
    refine eg_aload_n (i := 0) 0 dX12_takeMeadow_45 rfl rfl ?_
    refine eg_iconst (v := (0 : Int32)) dX12_takeMeadow_46 (by decide) ?_
    replace hF := eg_bind hF; obtain ⟨h25, e26, hF⟩ := hF
    refine eg_putZ dX12_takeMeadow_47 e26 (Nat.le_of_ble_eq_true rfl) (Nat.le_of_ble_eq_true rfl) rfl ew_370 rfl ?_
    refine eg_aload_n (i := 0) 0 dX12_takeMeadow_50 rfl rfl ?_
    refine eg_iconst (v := (-1 : Int32)) dX12_takeMeadow_51 (by decide) ?_
    replace hF := eg_bind hF; obtain ⟨h27, e28, hF⟩ := hF
    refine eg_callV (c := 12) (n := 1) [.int (-1 : Int32)] dX12_takeMeadow_52 (mX12_holdLaw e28) rfl (fX12_holdLaw_O e28) (Nat.le_of_ble_eq_true rfl) rfl ew_613 ew_615 ew_19 ew_100 ew_616 hy_X12_holdLaw rfl (Nat.le_of_ble_eq_true rfl) (Nat.le_of_ble_eq_true rfl) (Nat.le_of_ble_eq_true rfl) ?_
    refine eg_aload_n (i := 0) 0 dX12_takeMeadow_55 rfl rfl ?_
    replace hF := eg_bind hF; obtain ⟨p29, e30, hF⟩ := hF
    refine eg_getR dX12_takeMeadow_56 e30 (Nat.le_of_ble_eq_true rfl) (Nat.le_of_ble_eq_true rfl) rfl ew_359 ?_
    replace hF := eg_bind hF; obtain ⟨⟨v32, h31⟩, e33, hF⟩ := hF
    refine eg_callV (c := 7) (n := 0) [] dX12_takeMeadow_59 (mX7_persons e33) rfl (fX7_persons_O e33) (Nat.le_of_ble_eq_true rfl) rfl ew_629 ew_630 ew_631 ew_104 ew_632 hy_X7_persons rfl (Nat.le_of_ble_eq_true rfl) (Nat.le_of_ble_eq_true rfl) (Nat.le_of_ble_eq_true rfl) ?_
    exact eg_iretE dX12_takeMeadow_62 hF
  · replace hF := eg_if c6 hF
    refine eg_iconst (v := (-1 : Int32)) dX12_takeMeadow_11 (by decide) ?_
    exact eg_iretE dX12_takeMeadow_12 hF
theorem dX12_takeLaw_0 : decode cX12_takeLaw 0 = .ok (.aload_n 0, 1) := by decide +kernel
theorem dX12_takeLaw_1 : decode cX12_takeLaw 1 = .ok (.getfield 45, 3) := by decide +kernel
theorem dX12_takeLaw_4 : decode cX12_takeLaw 4 = .ok (.aload_n 0, 1) := by decide +kernel
theorem dX12_takeLaw_5 : decode cX12_takeLaw 5 = .ok (.getfield 41, 3) := by decide +kernel
theorem dX12_takeLaw_8 : decode cX12_takeLaw 8 = .ok (.arraylength, 1) := by decide +kernel
theorem dX12_takeLaw_9 : decode cX12_takeLaw 9 = .ok (.if_icmp .ge 14, 3) := by decide +kernel
theorem dX12_takeLaw_12 : decode cX12_takeLaw 12 = .ok (.aload_n 0, 1) := by decide +kernel
theorem dX12_takeLaw_13 : decode cX12_takeLaw 13 = .ok (.getfield 28, 3) := by decide +kernel
theorem dX12_takeLaw_16 : decode cX12_takeLaw 16 = .ok (.invokevirtual 136, 3) := by decide +kernel
theorem dX12_takeLaw_19 : decode cX12_takeLaw 19 = .ok (.iconst (-1), 1) := by decide +kernel
theorem dX12_takeLaw_20 : decode cX12_takeLaw 20 = .ok (.if_icmp .eq 5, 3) := by decide +kernel
theorem dX12_takeLaw_23 : decode cX12_takeLaw 23 = .ok (.iconst (-1), 1) := by decide +kernel
theorem dX12_takeLaw_24 : decode cX12_takeLaw 24 = .ok (.ireturn, 1) := by decide +kernel
theorem dX12_takeLaw_25 : decode cX12_takeLaw 25 = .ok (.aload_n 0, 1) := by decide +kernel
theorem dX12_takeLaw_26 : decode cX12_takeLaw 26 = .ok (.getfield 41, 3) := by decide +kernel
theorem dX12_takeLaw_29 : decode cX12_takeLaw 29 = .ok (.aload_n 0, 1) := by decide +kernel
theorem dX12_takeLaw_30 : decode cX12_takeLaw 30 = .ok (.getfield 45, 3) := by decide +kernel
theorem dX12_takeLaw_33 : decode cX12_takeLaw 33 = .ok (.aload_n 0, 1) := by decide +kernel
theorem dX12_takeLaw_34 : decode cX12_takeLaw 34 = .ok (.getfield 28, 3) := by decide +kernel
theorem dX12_takeLaw_37 : decode cX12_takeLaw 37 = .ok (.invokevirtual 162, 3) := by decide +kernel
theorem dX12_takeLaw_40 : decode cX12_takeLaw 40 = .ok (.aastore, 1) := by decide +kernel
theorem dX12_takeLaw_41 : decode cX12_takeLaw 41 = .ok (.aload_n 0, 1) := by decide +kernel
theorem dX12_takeLaw_42 : decode cX12_takeLaw 42 = .ok (.dup, 1) := by decide +kernel
theorem dX12_takeLaw_43 : decode cX12_takeLaw 43 = .ok (.getfield 45, 3) := by decide +kernel
theorem dX12_takeLaw_46 : decode cX12_takeLaw 46 = .ok (.iconst 1, 1) := by decide +kernel
theorem dX12_takeLaw_47 : decode cX12_takeLaw 47 = .ok (.iadd, 1) := by decide +kernel
theorem dX12_takeLaw_48 : decode cX12_takeLaw 48 = .ok (.putfield 45, 3) := by decide +kernel
theorem dX12_takeLaw_51 : decode cX12_takeLaw 51 = .ok (.aload_n 0, 1) := by decide +kernel
theorem dX12_takeLaw_52 : decode cX12_takeLaw 52 = .ok (.getfield 45, 3) := by decide +kernel
theorem dX12_takeLaw_55 : decode cX12_takeLaw 55 = .ok (.iconst 1, 1) := by decide +kernel
theorem dX12_takeLaw_56 : decode cX12_takeLaw 56 = .ok (.isub, 1) := by decide +kernel
theorem dX12_takeLaw_57 : decode cX12_takeLaw 57 = .ok (.ireturn, 1) := by decide +kernel
def fX12_takeLaw (h : eg_H) (l0 : Nat) : Option (Int32 × eg_H) :=
  if eg_isO h 12 l0 then (
    (eg_gI h 12 5 l0).bind fun v1 =>
    (eg_gR h 12 4 l0).bind fun p3 =>
    (eg_al h p3).bind fun v5 =>
    if v5 ≤ v1 then
      (some ((-1 : Int32), h))
    else
      (eg_gR h 12 2 l0).bind fun p8 =>
      (fX6_read h p8).bind fun ⟨v11, h10⟩ =>
      if v11 = (-1 : Int32) then
        ((eg_gR h10 12 4 l0).bind fun p14 =>
        (eg_gI h10 12 5 l0).bind fun v16 =>
        (eg_gR h10 12 2 l0).bind fun p18 =>
        (fX6_made h10 p18).bind fun ⟨p21, h20⟩ =>
        (eg_wR h20 5 p14 v16 p21).bind fun h23 =>
        (eg_gI h23 12 5 l0).bind fun v25 =>
        (eg_pI h23 12 5 l0 (v25 + (1 : Int32))).bind fun h27 =>
        (eg_gI h27 12 5 l0).bind fun v29 =>
        some ((v29 - (1 : Int32)), h27))
      else
        some ((-1 : Int32), h10)) else none
theorem fX12_takeLaw_O {h : eg_H} {l0 : Nat} {rE : Int32} {hE : eg_H} (hF : fX12_takeLaw h l0 = some (rE, hE)) : eg_isO h 12 l0 := (eg_ifn hF).1
set_option maxRecDepth 20000 in
theorem mX12_takeLaw {h : eg_H} {l0 : Nat} {rE : Int32} {hE : eg_H} (hF : fX12_takeLaw h l0 = some (rE, hE)) : eg_Met yX12_takeLaw cX12_takeLaw 1 (some .int) 455 [.ref l0] h (some (.int rE)) hE := by
  refine eg_enter rfl (Nat.le_of_ble_eq_true rfl) ?_
  show eg_AW (RX12, cX12_takeLaw, 1, 455, none, "takeLaw", (some .int)) (eg_Zm (some (.int rE)) hE h) (eg_nc hE) (eg_ns hE) h 0 [(0, .ref l0)] [] h
  replace hF := (eg_ifn hF).2
  refine eg_aload_n (i := 0) 0 dX12_takeLaw_0 rfl rfl ?_
  replace hF := eg_bind hF; obtain ⟨v1, e2, hF⟩ := hF
  refine eg_getI dX12_takeLaw_1 e2 (Nat.le_of_ble_eq_true rfl) (Nat.le_of_ble_eq_true rfl) rfl ew_361 ?_
  refine eg_aload_n (i := 0) 0 dX12_takeLaw_4 rfl rfl ?_
  replace hF := eg_bind hF; obtain ⟨p3, e4, hF⟩ := hF
  refine eg_getR dX12_takeLaw_5 e4 (Nat.le_of_ble_eq_true rfl) (Nat.le_of_ble_eq_true rfl) rfl ew_360 ?_
  replace hF := eg_bind hF; obtain ⟨v5, e6, hF⟩ := hF
  refine eg_alen dX12_takeLaw_8 e6 ?_
  refine eg_ic_ge 23 dX12_takeLaw_9 rfl (fun c7 => ?_) (fun c7 => ?_)
  · replace hF := eg_it c7 hF
    refine eg_iconst (v := (-1 : Int32)) dX12_takeLaw_23 (by decide) ?_
    exact eg_iretE dX12_takeLaw_24 hF
  · replace hF := eg_if c7 hF
    refine eg_aload_n (i := 0) 0 dX12_takeLaw_12 rfl rfl ?_
    replace hF := eg_bind hF; obtain ⟨p8, e9, hF⟩ := hF
    refine eg_getR dX12_takeLaw_13 e9 (Nat.le_of_ble_eq_true rfl) (Nat.le_of_ble_eq_true rfl) rfl ew_358 ?_
    replace hF := eg_bind hF; obtain ⟨⟨v11, h10⟩, e12, hF⟩ := hF
    refine eg_callV (c := 6) (n := 0) [] dX12_takeLaw_16 (mX6_read e12) rfl (fX6_read_O e12) (Nat.le_of_ble_eq_true rfl) rfl ew_514 ew_515 ew_516 ew_103 ew_517 hy_X6_read rfl (Nat.le_of_ble_eq_true rfl) (Nat.le_of_ble_eq_true rfl) (Nat.le_of_ble_eq_true rfl) ?_
    refine eg_iconst (v := (-1 : Int32)) dX12_takeLaw_19 (by decide) ?_
    refine eg_ic_eq 25 dX12_takeLaw_20 rfl (fun c13 => ?_) (fun c13 => ?_)
    · replace hF := eg_it c13 hF
      refine eg_aload_n (i := 0) 0 dX12_takeLaw_25 rfl rfl ?_
      replace hF := eg_bind hF; obtain ⟨p14, e15, hF⟩ := hF
      refine eg_getR dX12_takeLaw_26 e15 (Nat.le_of_ble_eq_true rfl) (Nat.le_of_ble_eq_true rfl) rfl ew_360 ?_
      refine eg_aload_n (i := 0) 0 dX12_takeLaw_29 rfl rfl ?_
      replace hF := eg_bind hF; obtain ⟨v16, e17, hF⟩ := hF
      refine eg_getI dX12_takeLaw_30 e17 (Nat.le_of_ble_eq_true rfl) (Nat.le_of_ble_eq_true rfl) rfl ew_361 ?_
      refine eg_aload_n (i := 0) 0 dX12_takeLaw_33 rfl rfl ?_
      replace hF := eg_bind hF; obtain ⟨p18, e19, hF⟩ := hF
      refine eg_getR dX12_takeLaw_34 e19 (Nat.le_of_ble_eq_true rfl) (Nat.le_of_ble_eq_true rfl) rfl ew_358 ?_
      replace hF := eg_bind hF; obtain ⟨⟨p21, h20⟩, e22, hF⟩ := hF
      refine eg_callV (c := 6) (n := 0) [] dX12_takeLaw_37 (mX6_made e22) rfl (fX6_made_O e22) (Nat.le_of_ble_eq_true rfl) rfl ew_637 ew_638 ew_639 ew_103 ew_640 hy_X6_made rfl (Nat.le_of_ble_eq_true rfl) (Nat.le_of_ble_eq_true rfl) (Nat.le_of_ble_eq_true rfl) ?_
      replace hF := eg_bind hF; obtain ⟨h23, e24, hF⟩ := hF
      refine eg_aast dX12_takeLaw_40 e24 (Nat.le_of_ble_eq_true rfl) (Nat.le_of_ble_eq_true rfl) ?_
      refine eg_aload_n (i := 0) 0 dX12_takeLaw_41 rfl rfl ?_
      refine eg_dup dX12_takeLaw_42 rfl ?_
      replace hF := eg_bind hF; obtain ⟨v25, e26, hF⟩ := hF
      refine eg_getI dX12_takeLaw_43 e26 (Nat.le_of_ble_eq_true rfl) (Nat.le_of_ble_eq_true rfl) rfl ew_361 ?_
      refine eg_iconst (v := (1 : Int32)) dX12_takeLaw_46 (by decide) ?_
      refine eg_iadd dX12_takeLaw_47 ?_
      replace hF := eg_bind hF; obtain ⟨h27, e28, hF⟩ := hF
      refine eg_putI dX12_takeLaw_48 e28 (Nat.le_of_ble_eq_true rfl) (Nat.le_of_ble_eq_true rfl) rfl ew_361 (Or.inl rfl) ?_
      refine eg_aload_n (i := 0) 0 dX12_takeLaw_51 rfl rfl ?_
      replace hF := eg_bind hF; obtain ⟨v29, e30, hF⟩ := hF
      refine eg_getI dX12_takeLaw_52 e30 (Nat.le_of_ble_eq_true rfl) (Nat.le_of_ble_eq_true rfl) rfl ew_361 ?_
      refine eg_iconst (v := (1 : Int32)) dX12_takeLaw_55 (by decide) ?_
      refine eg_isub dX12_takeLaw_56 ?_
      exact eg_iretE dX12_takeLaw_57 hF
    · replace hF := eg_if c13 hF
      refine eg_iconst (v := (-1 : Int32)) dX12_takeLaw_23 (by decide) ?_
      exact eg_iretE dX12_takeLaw_24 hF
theorem dX12_takeFilm_0 : decode cX12_takeFilm 0 = .ok (.aload_n 0, 1) := by decide +kernel
theorem dX12_takeFilm_1 : decode cX12_takeFilm 1 = .ok (.getfield 58, 3) := by decide +kernel
theorem dX12_takeFilm_4 : decode cX12_takeFilm 4 = .ok (.aload_n 0, 1) := by decide +kernel
theorem dX12_takeFilm_5 : decode cX12_takeFilm 5 = .ok (.getfield 54, 3) := by decide +kernel
theorem dX12_takeFilm_8 : decode cX12_takeFilm 8 = .ok (.arraylength, 1) := by decide +kernel
theorem dX12_takeFilm_9 : decode cX12_takeFilm 9 = .ok (.if_icmp .ge 14, 3) := by decide +kernel
theorem dX12_takeFilm_12 : decode cX12_takeFilm 12 = .ok (.aload_n 0, 1) := by decide +kernel
theorem dX12_takeFilm_13 : decode cX12_takeFilm 13 = .ok (.getfield 10, 3) := by decide +kernel
theorem dX12_takeFilm_16 : decode cX12_takeFilm 16 = .ok (.invokevirtual 137, 3) := by decide +kernel
theorem dX12_takeFilm_19 : decode cX12_takeFilm 19 = .ok (.iconst (-1), 1) := by decide +kernel
theorem dX12_takeFilm_20 : decode cX12_takeFilm 20 = .ok (.if_icmp .eq 5, 3) := by decide +kernel
theorem dX12_takeFilm_23 : decode cX12_takeFilm 23 = .ok (.iconst (-1), 1) := by decide +kernel
theorem dX12_takeFilm_24 : decode cX12_takeFilm 24 = .ok (.ireturn, 1) := by decide +kernel
theorem dX12_takeFilm_25 : decode cX12_takeFilm 25 = .ok (.aload_n 0, 1) := by decide +kernel
theorem dX12_takeFilm_26 : decode cX12_takeFilm 26 = .ok (.getfield 54, 3) := by decide +kernel
theorem dX12_takeFilm_29 : decode cX12_takeFilm 29 = .ok (.aload_n 0, 1) := by decide +kernel
theorem dX12_takeFilm_30 : decode cX12_takeFilm 30 = .ok (.getfield 58, 3) := by decide +kernel
theorem dX12_takeFilm_33 : decode cX12_takeFilm 33 = .ok (.new 52, 3) := by decide +kernel
theorem dX12_takeFilm_36 : decode cX12_takeFilm 36 = .ok (.dup, 1) := by decide +kernel
theorem dX12_takeFilm_37 : decode cX12_takeFilm 37 = .ok (.aload_n 0, 1) := by decide +kernel
theorem dX12_takeFilm_38 : decode cX12_takeFilm 38 = .ok (.getfield 10, 3) := by decide +kernel
theorem dX12_takeFilm_41 : decode cX12_takeFilm 41 = .ok (.invokespecial 166, 3) := by decide +kernel
theorem dX12_takeFilm_44 : decode cX12_takeFilm 44 = .ok (.aastore, 1) := by decide +kernel
theorem dX12_takeFilm_45 : decode cX12_takeFilm 45 = .ok (.aload_n 0, 1) := by decide +kernel
theorem dX12_takeFilm_46 : decode cX12_takeFilm 46 = .ok (.dup, 1) := by decide +kernel
theorem dX12_takeFilm_47 : decode cX12_takeFilm 47 = .ok (.getfield 58, 3) := by decide +kernel
theorem dX12_takeFilm_50 : decode cX12_takeFilm 50 = .ok (.iconst 1, 1) := by decide +kernel
theorem dX12_takeFilm_51 : decode cX12_takeFilm 51 = .ok (.iadd, 1) := by decide +kernel
theorem dX12_takeFilm_52 : decode cX12_takeFilm 52 = .ok (.putfield 58, 3) := by decide +kernel
theorem dX12_takeFilm_55 : decode cX12_takeFilm 55 = .ok (.aload_n 0, 1) := by decide +kernel
theorem dX12_takeFilm_56 : decode cX12_takeFilm 56 = .ok (.getfield 58, 3) := by decide +kernel
theorem dX12_takeFilm_59 : decode cX12_takeFilm 59 = .ok (.iconst 1, 1) := by decide +kernel
theorem dX12_takeFilm_60 : decode cX12_takeFilm 60 = .ok (.isub, 1) := by decide +kernel
theorem dX12_takeFilm_61 : decode cX12_takeFilm 61 = .ok (.ireturn, 1) := by decide +kernel
def fX12_takeFilm (h : eg_H) (l0 : Nat) : Option (Int32 × eg_H) :=
  if eg_isO h 12 l0 then (
    (eg_gI h 12 8 l0).bind fun v1 =>
    (eg_gR h 12 7 l0).bind fun p3 =>
    (eg_al h p3).bind fun v5 =>
    if v5 ≤ v1 then
      (some ((-1 : Int32), h))
    else
      (eg_gR h 12 0 l0).bind fun p8 =>
      (fX10_readFrames h p8).bind fun ⟨v11, h10⟩ =>
      if v11 = (-1 : Int32) then
        ((eg_gR h10 12 7 l0).bind fun p14 =>
        (eg_gI h10 12 8 l0).bind fun v16 =>
        (some (eg_nc h10, eg_new h10 3 (eg_nf 3))).bind fun ⟨p18, h19⟩ =>
        (eg_gR h19 12 0 l0).bind fun p21 =>
        (fX3_init h19 p18 p21).bind fun h23 =>
        (eg_wR h23 3 p14 v16 p18).bind fun h25 =>
        (eg_gI h25 12 8 l0).bind fun v27 =>
        (eg_pI h25 12 8 l0 (v27 + (1 : Int32))).bind fun h29 =>
        (eg_gI h29 12 8 l0).bind fun v31 =>
        some ((v31 - (1 : Int32)), h29))
      else
        some ((-1 : Int32), h10)) else none
theorem fX12_takeFilm_O {h : eg_H} {l0 : Nat} {rE : Int32} {hE : eg_H} (hF : fX12_takeFilm h l0 = some (rE, hE)) : eg_isO h 12 l0 := (eg_ifn hF).1
set_option maxRecDepth 20000 in
theorem mX12_takeFilm {h : eg_H} {l0 : Nat} {rE : Int32} {hE : eg_H} (hF : fX12_takeFilm h l0 = some (rE, hE)) : eg_Met yX12_takeFilm cX12_takeFilm 1 (some .int) 4 [.ref l0] h (some (.int rE)) hE := by
  refine eg_enter rfl (Nat.le_of_ble_eq_true rfl) ?_
  show eg_AW (RX12, cX12_takeFilm, 1, 4, none, "takeFilm", (some .int)) (eg_Zm (some (.int rE)) hE h) (eg_nc hE) (eg_ns hE) h 0 [(0, .ref l0)] [] h
  replace hF := (eg_ifn hF).2
  refine eg_aload_n (i := 0) 0 dX12_takeFilm_0 rfl rfl ?_
  replace hF := eg_bind hF; obtain ⟨v1, e2, hF⟩ := hF
  refine eg_getI dX12_takeFilm_1 e2 (Nat.le_of_ble_eq_true rfl) (Nat.le_of_ble_eq_true rfl) rfl ew_364 ?_
  refine eg_aload_n (i := 0) 0 dX12_takeFilm_4 rfl rfl ?_
  replace hF := eg_bind hF; obtain ⟨p3, e4, hF⟩ := hF
  refine eg_getR dX12_takeFilm_5 e4 (Nat.le_of_ble_eq_true rfl) (Nat.le_of_ble_eq_true rfl) rfl ew_363 ?_
  replace hF := eg_bind hF; obtain ⟨v5, e6, hF⟩ := hF
  refine eg_alen dX12_takeFilm_8 e6 ?_
  refine eg_ic_ge 23 dX12_takeFilm_9 rfl (fun c7 => ?_) (fun c7 => ?_)
  · replace hF := eg_it c7 hF
    refine eg_iconst (v := (-1 : Int32)) dX12_takeFilm_23 (by decide) ?_
    exact eg_iretE dX12_takeFilm_24 hF
  · replace hF := eg_if c7 hF
    refine eg_aload_n (i := 0) 0 dX12_takeFilm_12 rfl rfl ?_
    replace hF := eg_bind hF; obtain ⟨p8, e9, hF⟩ := hF
    refine eg_getR dX12_takeFilm_13 e9 (Nat.le_of_ble_eq_true rfl) (Nat.le_of_ble_eq_true rfl) rfl ew_356 ?_
    replace hF := eg_bind hF; obtain ⟨⟨v11, h10⟩, e12, hF⟩ := hF
    refine eg_callV (c := 10) (n := 0) [] dX12_takeFilm_16 (mX10_readFrames e12) rfl (fX10_readFrames_O e12) (Nat.le_of_ble_eq_true rfl) rfl ew_578 ew_579 ew_580 ew_101 ew_581 hy_X10_readFrames rfl (Nat.le_of_ble_eq_true rfl) (Nat.le_of_ble_eq_true rfl) (Nat.le_of_ble_eq_true rfl) ?_
    refine eg_iconst (v := (-1 : Int32)) dX12_takeFilm_19 (by decide) ?_
    refine eg_ic_eq 25 dX12_takeFilm_20 rfl (fun c13 => ?_) (fun c13 => ?_)
    · replace hF := eg_it c13 hF
      refine eg_aload_n (i := 0) 0 dX12_takeFilm_25 rfl rfl ?_
      replace hF := eg_bind hF; obtain ⟨p14, e15, hF⟩ := hF
      refine eg_getR dX12_takeFilm_26 e15 (Nat.le_of_ble_eq_true rfl) (Nat.le_of_ble_eq_true rfl) rfl ew_363 ?_
      refine eg_aload_n (i := 0) 0 dX12_takeFilm_29 rfl rfl ?_
      replace hF := eg_bind hF; obtain ⟨v16, e17, hF⟩ := hF
      refine eg_getI dX12_takeFilm_30 e17 (Nat.le_of_ble_eq_true rfl) (Nat.le_of_ble_eq_true rfl) rfl ew_364 ?_
      replace hF := eg_bind hF; obtain ⟨⟨p18, h19⟩, e20, hF⟩ := hF
      refine eg_newO (c := 3) dX12_takeFilm_33 (Nat.le_of_ble_eq_true rfl) ew_213 ew_677 ew_119 ?_
      replace e20 := Prod.mk.inj (Option.some.inj e20)
      rw [e20.2, e20.1]
      refine eg_dup dX12_takeFilm_36 rfl ?_
      refine eg_aload_n (i := 0) 0 dX12_takeFilm_37 rfl rfl ?_
      replace hF := eg_bind hF; obtain ⟨p21, e22, hF⟩ := hF
      refine eg_getR dX12_takeFilm_38 e22 (Nat.le_of_ble_eq_true rfl) (Nat.le_of_ble_eq_true rfl) rfl ew_356 ?_
      replace hF := eg_bind hF; obtain ⟨h23, e24, hF⟩ := hF
      refine eg_callI (n := 1) [.ref p21] dX12_takeFilm_41 (mX3_init e24) rfl ew_678 ew_679 ew_119 ew_680 rfl hy_X3_init.2 rfl (Nat.le_of_ble_eq_true rfl) (Nat.le_of_ble_eq_true rfl) (Nat.le_of_ble_eq_true rfl) ?_
      replace hF := eg_bind hF; obtain ⟨h25, e26, hF⟩ := hF
      refine eg_aast dX12_takeFilm_44 e26 (Nat.le_of_ble_eq_true rfl) (Nat.le_of_ble_eq_true rfl) ?_
      refine eg_aload_n (i := 0) 0 dX12_takeFilm_45 rfl rfl ?_
      refine eg_dup dX12_takeFilm_46 rfl ?_
      replace hF := eg_bind hF; obtain ⟨v27, e28, hF⟩ := hF
      refine eg_getI dX12_takeFilm_47 e28 (Nat.le_of_ble_eq_true rfl) (Nat.le_of_ble_eq_true rfl) rfl ew_364 ?_
      refine eg_iconst (v := (1 : Int32)) dX12_takeFilm_50 (by decide) ?_
      refine eg_iadd dX12_takeFilm_51 ?_
      replace hF := eg_bind hF; obtain ⟨h29, e30, hF⟩ := hF
      refine eg_putI dX12_takeFilm_52 e30 (Nat.le_of_ble_eq_true rfl) (Nat.le_of_ble_eq_true rfl) rfl ew_364 (Or.inl rfl) ?_
      refine eg_aload_n (i := 0) 0 dX12_takeFilm_55 rfl rfl ?_
      replace hF := eg_bind hF; obtain ⟨v31, e32, hF⟩ := hF
      refine eg_getI dX12_takeFilm_56 e32 (Nat.le_of_ble_eq_true rfl) (Nat.le_of_ble_eq_true rfl) rfl ew_364 ?_
      refine eg_iconst (v := (1 : Int32)) dX12_takeFilm_59 (by decide) ?_
      refine eg_isub dX12_takeFilm_60 ?_
      exact eg_iretE dX12_takeFilm_61 hF
    · replace hF := eg_if c13 hF
      refine eg_iconst (v := (-1 : Int32)) dX12_takeFilm_23 (by decide) ?_
      exact eg_iretE dX12_takeFilm_24 hF
theorem dX12_text_0 : decode cX12_text 0 = .ok (.iload_n 1, 1) := by decide +kernel
theorem dX12_text_1 : decode cX12_text 1 = .ok (.tableswitch 51 0 2 #[27, 35, 43], 27) := by decide +kernel
theorem dX12_text_28 : decode cX12_text 28 = .ok (.aload_n 0, 1) := by decide +kernel
theorem dX12_text_29 : decode cX12_text 29 = .ok (.invokevirtual 140, 3) := by decide +kernel
theorem dX12_text_32 : decode cX12_text 32 = .ok (.istore_n 2, 1) := by decide +kernel
theorem dX12_text_33 : decode cX12_text 33 = .ok (.goto 21, 3) := by decide +kernel
theorem dX12_text_36 : decode cX12_text 36 = .ok (.aload_n 0, 1) := by decide +kernel
theorem dX12_text_37 : decode cX12_text 37 = .ok (.invokevirtual 143, 3) := by decide +kernel
theorem dX12_text_40 : decode cX12_text 40 = .ok (.istore_n 2, 1) := by decide +kernel
theorem dX12_text_41 : decode cX12_text 41 = .ok (.goto 13, 3) := by decide +kernel
theorem dX12_text_44 : decode cX12_text 44 = .ok (.aload_n 0, 1) := by decide +kernel
theorem dX12_text_45 : decode cX12_text 45 = .ok (.invokevirtual 146, 3) := by decide +kernel
theorem dX12_text_48 : decode cX12_text 48 = .ok (.istore_n 2, 1) := by decide +kernel
theorem dX12_text_49 : decode cX12_text 49 = .ok (.goto 5, 3) := by decide +kernel
theorem dX12_text_52 : decode cX12_text 52 = .ok (.iconst (-1), 1) := by decide +kernel
theorem dX12_text_53 : decode cX12_text 53 = .ok (.istore_n 2, 1) := by decide +kernel
theorem dX12_text_54 : decode cX12_text 54 = .ok (.iload_n 2, 1) := by decide +kernel
theorem dX12_text_55 : decode cX12_text 55 = .ok (.iconst (-1), 1) := by decide +kernel
theorem dX12_text_56 : decode cX12_text 56 = .ok (.if_icmp .eq 11, 3) := by decide +kernel
theorem dX12_text_59 : decode cX12_text 59 = .ok (.aload_n 0, 1) := by decide +kernel
theorem dX12_text_60 : decode cX12_text 60 = .ok (.getfield 10, 3) := by decide +kernel
theorem dX12_text_63 : decode cX12_text 63 = .ok (.iconst 0, 1) := by decide +kernel
theorem dX12_text_64 : decode cX12_text 64 = .ok (.invokevirtual 130, 3) := by decide +kernel
theorem dX12_text_67 : decode cX12_text 67 = .ok (.iload_n 2, 1) := by decide +kernel
theorem dX12_text_68 : decode cX12_text 68 = .ok (.ireturn, 1) := by decide +kernel
def fX12_text (h : eg_H) (l0 : Nat) (l1 : Int32) : Option (Int32 × eg_H) :=
  if eg_isO h 12 l0 then (
    if l1 = (0 : Int32) then
      ((fX12_takeMeadow h l0).bind fun ⟨v3, h2⟩ =>
      if v3 = (-1 : Int32) then
        (some (v3, h2))
      else
        (eg_gR h2 12 0 l0).bind fun p6 =>
        (fX10_cut h2 p6 (0 : Int32)).bind fun h8 =>
        some (v3, h8))
    else
    if l1 = (1 : Int32) then
      ((fX12_takeLaw h l0).bind fun ⟨v12, h11⟩ =>
      if v12 = (-1 : Int32) then
        (some (v12, h11))
      else
        (eg_gR h11 12 0 l0).bind fun p15 =>
        (fX10_cut h11 p15 (0 : Int32)).bind fun h17 =>
        some (v12, h17))
    else
    if l1 = (2 : Int32) then
      ((fX12_takeFilm h l0).bind fun ⟨v21, h20⟩ =>
      if v21 = (-1 : Int32) then
        (some (v21, h20))
      else
        (eg_gR h20 12 0 l0).bind fun p24 =>
        (fX10_cut h20 p24 (0 : Int32)).bind fun h26 =>
        some (v21, h26))
    else
    if (-1 : Int32) = (-1 : Int32) then
      (some ((-1 : Int32), h))
    else
      (eg_gR h 12 0 l0).bind fun p29 =>
      (fX10_cut h p29 (0 : Int32)).bind fun h31 =>
      some ((-1 : Int32), h31)) else none
theorem fX12_text_O {h : eg_H} {l0 : Nat} {l1 : Int32} {rE : Int32} {hE : eg_H} (hF : fX12_text h l0 l1 = some (rE, hE)) : eg_isO h 12 l0 := (eg_ifn hF).1
set_option maxRecDepth 20000 in
theorem mX12_text {h : eg_H} {l0 : Nat} {l1 : Int32} {rE : Int32} {hE : eg_H} (hF : fX12_text h l0 l1 = some (rE, hE)) : eg_Met yX12_text cX12_text 3 (some .int) 456 [.ref l0, .int l1] h (some (.int rE)) hE := by
  refine eg_enter rfl (Nat.le_of_ble_eq_true rfl) ?_
  show eg_AW (RX12, cX12_text, 3, 456, none, "text", (some .int)) (eg_Zm (some (.int rE)) hE h) (eg_nc hE) (eg_ns hE) h 0 [(0, .ref l0), (1, .int l1)] [] h
  replace hF := (eg_ifn hF).2
  refine eg_iload_n (i := 1) 1 dX12_text_0 rfl rfl ?_
  by_cases c1 : l1 = (0 : Int32)
  · replace hF := eg_it c1 hF
    refine eg_tIn 28 c1 dX12_text_1 (by decide) (by decide) rfl rfl ?_
    refine eg_aload_n (i := 0) 0 dX12_text_28 rfl rfl ?_
    replace hF := eg_bind hF; obtain ⟨⟨v3, h2⟩, e4, hF⟩ := hF
    refine eg_callV (c := 12) (n := 0) [] dX12_text_29 (mX12_takeMeadow e4) rfl (fX12_takeMeadow_O e4) (Nat.le_of_ble_eq_true rfl) rfl ew_589 ew_591 ew_18 ew_100 ew_592 hy_X12_takeMeadow rfl (Nat.le_of_ble_eq_true rfl) (Nat.le_of_ble_eq_true rfl) (Nat.le_of_ble_eq_true rfl) ?_
    refine eg_istore_n (i := 2) [(2, .int v3), (0, .ref l0), (1, .int l1)] dX12_text_32 rfl (Nat.le_of_ble_eq_true rfl) rfl ?_
    refine eg_goto 54 dX12_text_33 rfl ?_
    refine eg_iload_n (i := 2) 0 dX12_text_54 rfl rfl ?_
    refine eg_iconst (v := (-1 : Int32)) dX12_text_55 (by decide) ?_
    refine eg_ic_eq 67 dX12_text_56 rfl (fun c5 => ?_) (fun c5 => ?_)
    · replace hF := eg_it c5 hF
      refine eg_iload_n (i := 2) 0 dX12_text_67 rfl rfl ?_
      exact eg_iretE dX12_text_68 hF
    · replace hF := eg_if c5 hF
      refine eg_aload_n (i := 0) 1 dX12_text_59 rfl rfl ?_
      replace hF := eg_bind hF; obtain ⟨p6, e7, hF⟩ := hF
      refine eg_getR dX12_text_60 e7 (Nat.le_of_ble_eq_true rfl) (Nat.le_of_ble_eq_true rfl) rfl ew_356 ?_
      refine eg_iconst (v := (0 : Int32)) dX12_text_63 (by decide) ?_
      replace hF := eg_bind hF; obtain ⟨h8, e9, hF⟩ := hF
      refine eg_callV (c := 10) (n := 1) [.int (0 : Int32)] dX12_text_64 (mX10_cut e9) rfl (fX10_cut_O e9) (Nat.le_of_ble_eq_true rfl) rfl ew_434 ew_435 ew_436 ew_101 ew_437 hy_X10_cut rfl (Nat.le_of_ble_eq_true rfl) (Nat.le_of_ble_eq_true rfl) (Nat.le_of_ble_eq_true rfl) ?_
      refine eg_iload_n (i := 2) 0 dX12_text_67 rfl rfl ?_
      exact eg_iretE dX12_text_68 hF
  replace hF := eg_if c1 hF
  by_cases c10 : l1 = (1 : Int32)
  · replace hF := eg_it c10 hF
    refine eg_tIn 36 c10 dX12_text_1 (by decide) (by decide) rfl rfl ?_
    refine eg_aload_n (i := 0) 0 dX12_text_36 rfl rfl ?_
    replace hF := eg_bind hF; obtain ⟨⟨v12, h11⟩, e13, hF⟩ := hF
    refine eg_callV (c := 12) (n := 0) [] dX12_text_37 (mX12_takeLaw e13) rfl (fX12_takeLaw_O e13) (Nat.le_of_ble_eq_true rfl) rfl ew_633 ew_635 ew_21 ew_100 ew_636 hy_X12_takeLaw rfl (Nat.le_of_ble_eq_true rfl) (Nat.le_of_ble_eq_true rfl) (Nat.le_of_ble_eq_true rfl) ?_
    refine eg_istore_n (i := 2) [(2, .int v12), (0, .ref l0), (1, .int l1)] dX12_text_40 rfl (Nat.le_of_ble_eq_true rfl) rfl ?_
    refine eg_goto 54 dX12_text_41 rfl ?_
    refine eg_iload_n (i := 2) 0 dX12_text_54 rfl rfl ?_
    refine eg_iconst (v := (-1 : Int32)) dX12_text_55 (by decide) ?_
    refine eg_ic_eq 67 dX12_text_56 rfl (fun c14 => ?_) (fun c14 => ?_)
    · replace hF := eg_it c14 hF
      refine eg_iload_n (i := 2) 0 dX12_text_67 rfl rfl ?_
      exact eg_iretE dX12_text_68 hF
    · replace hF := eg_if c14 hF
      refine eg_aload_n (i := 0) 1 dX12_text_59 rfl rfl ?_
      replace hF := eg_bind hF; obtain ⟨p15, e16, hF⟩ := hF
      refine eg_getR dX12_text_60 e16 (Nat.le_of_ble_eq_true rfl) (Nat.le_of_ble_eq_true rfl) rfl ew_356 ?_
      refine eg_iconst (v := (0 : Int32)) dX12_text_63 (by decide) ?_
      replace hF := eg_bind hF; obtain ⟨h17, e18, hF⟩ := hF
      refine eg_callV (c := 10) (n := 1) [.int (0 : Int32)] dX12_text_64 (mX10_cut e18) rfl (fX10_cut_O e18) (Nat.le_of_ble_eq_true rfl) rfl ew_434 ew_435 ew_436 ew_101 ew_437 hy_X10_cut rfl (Nat.le_of_ble_eq_true rfl) (Nat.le_of_ble_eq_true rfl) (Nat.le_of_ble_eq_true rfl) ?_
      refine eg_iload_n (i := 2) 0 dX12_text_67 rfl rfl ?_
      exact eg_iretE dX12_text_68 hF
  replace hF := eg_if c10 hF
  by_cases c19 : l1 = (2 : Int32)
  · replace hF := eg_it c19 hF
    refine eg_tIn 44 c19 dX12_text_1 (by decide) (by decide) rfl rfl ?_
    refine eg_aload_n (i := 0) 0 dX12_text_44 rfl rfl ?_
    replace hF := eg_bind hF; obtain ⟨⟨v21, h20⟩, e22, hF⟩ := hF
    refine eg_callV (c := 12) (n := 0) [] dX12_text_45 (mX12_takeFilm e22) rfl (fX12_takeFilm_O e22) (Nat.le_of_ble_eq_true rfl) rfl ew_673 ew_675 ew_22 ew_100 ew_676 hy_X12_takeFilm rfl (Nat.le_of_ble_eq_true rfl) (Nat.le_of_ble_eq_true rfl) (Nat.le_of_ble_eq_true rfl) ?_
    refine eg_istore_n (i := 2) [(2, .int v21), (0, .ref l0), (1, .int l1)] dX12_text_48 rfl (Nat.le_of_ble_eq_true rfl) rfl ?_
    refine eg_goto 54 dX12_text_49 rfl ?_
    refine eg_iload_n (i := 2) 0 dX12_text_54 rfl rfl ?_
    refine eg_iconst (v := (-1 : Int32)) dX12_text_55 (by decide) ?_
    refine eg_ic_eq 67 dX12_text_56 rfl (fun c23 => ?_) (fun c23 => ?_)
    · replace hF := eg_it c23 hF
      refine eg_iload_n (i := 2) 0 dX12_text_67 rfl rfl ?_
      exact eg_iretE dX12_text_68 hF
    · replace hF := eg_if c23 hF
      refine eg_aload_n (i := 0) 1 dX12_text_59 rfl rfl ?_
      replace hF := eg_bind hF; obtain ⟨p24, e25, hF⟩ := hF
      refine eg_getR dX12_text_60 e25 (Nat.le_of_ble_eq_true rfl) (Nat.le_of_ble_eq_true rfl) rfl ew_356 ?_
      refine eg_iconst (v := (0 : Int32)) dX12_text_63 (by decide) ?_
      replace hF := eg_bind hF; obtain ⟨h26, e27, hF⟩ := hF
      refine eg_callV (c := 10) (n := 1) [.int (0 : Int32)] dX12_text_64 (mX10_cut e27) rfl (fX10_cut_O e27) (Nat.le_of_ble_eq_true rfl) rfl ew_434 ew_435 ew_436 ew_101 ew_437 hy_X10_cut rfl (Nat.le_of_ble_eq_true rfl) (Nat.le_of_ble_eq_true rfl) (Nat.le_of_ble_eq_true rfl) ?_
      refine eg_iload_n (i := 2) 0 dX12_text_67 rfl rfl ?_
      exact eg_iretE dX12_text_68 hF
  replace hF := eg_if c19 hF
  refine eg_tOut 52 dX12_text_1 (by
    have z0 := lv_neT c1 (show ((0 : Int32)).toInt = 0 from rfl)
    have z1 := lv_neT c10 (show ((1 : Int32)).toInt = 1 from rfl)
    have z2 := lv_neT c19 (show ((2 : Int32)).toInt = 2 from rfl)
    omega) rfl ?_
  refine eg_iconst (v := (-1 : Int32)) dX12_text_52 (by decide) ?_
  refine eg_istore_n (i := 2) [(2, .int (-1 : Int32)), (0, .ref l0), (1, .int l1)] dX12_text_53 rfl (Nat.le_of_ble_eq_true rfl) rfl ?_
  refine eg_iload_n (i := 2) 0 dX12_text_54 rfl rfl ?_
  refine eg_iconst (v := (-1 : Int32)) dX12_text_55 (by decide) ?_
  refine eg_ic_eq 67 dX12_text_56 rfl (fun c28 => ?_) (fun c28 => ?_)
  · replace hF := eg_it c28 hF
    refine eg_iload_n (i := 2) 0 dX12_text_67 rfl rfl ?_
    exact eg_iretE dX12_text_68 hF
  · replace hF := eg_if c28 hF
    refine eg_aload_n (i := 0) 1 dX12_text_59 rfl rfl ?_
    replace hF := eg_bind hF; obtain ⟨p29, e30, hF⟩ := hF
    refine eg_getR dX12_text_60 e30 (Nat.le_of_ble_eq_true rfl) (Nat.le_of_ble_eq_true rfl) rfl ew_356 ?_
    refine eg_iconst (v := (0 : Int32)) dX12_text_63 (by decide) ?_
    replace hF := eg_bind hF; obtain ⟨h31, e32, hF⟩ := hF
    refine eg_callV (c := 10) (n := 1) [.int (0 : Int32)] dX12_text_64 (mX10_cut e32) rfl (fX10_cut_O e32) (Nat.le_of_ble_eq_true rfl) rfl ew_434 ew_435 ew_436 ew_101 ew_437 hy_X10_cut rfl (Nat.le_of_ble_eq_true rfl) (Nat.le_of_ble_eq_true rfl) (Nat.le_of_ble_eq_true rfl) ?_
    refine eg_iload_n (i := 2) 0 dX12_text_67 rfl rfl ?_
    exact eg_iretE dX12_text_68 hF
theorem dX12_egg_0 : decode cX12_egg 0 = .ok (.aload_n 0, 1) := by decide +kernel
theorem dX12_egg_1 : decode cX12_egg 1 = .ok (.getfield 35, 3) := by decide +kernel
theorem dX12_egg_4 : decode cX12_egg 4 = .ok (.iload_n 1, 1) := by decide +kernel
theorem dX12_egg_5 : decode cX12_egg 5 = .ok (.invokevirtual 182, 3) := by decide +kernel
theorem dX12_egg_8 : decode cX12_egg 8 = .ok (.ifCond .eq 12, 3) := by decide +kernel
theorem dX12_egg_11 : decode cX12_egg 11 = .ok (.iload_n 2, 1) := by decide +kernel
theorem dX12_egg_12 : decode cX12_egg 12 = .ok (.ifCond .lt 8, 3) := by decide +kernel
theorem dX12_egg_15 : decode cX12_egg 15 = .ok (.iload_n 2, 1) := by decide +kernel
theorem dX12_egg_16 : decode cX12_egg 16 = .ok (.iconst 2, 1) := by decide +kernel
theorem dX12_egg_17 : decode cX12_egg 17 = .ok (.if_icmp .lt 5, 3) := by decide +kernel
theorem dX12_egg_20 : decode cX12_egg 20 = .ok (.iconst (-1), 1) := by decide +kernel
theorem dX12_egg_21 : decode cX12_egg 21 = .ok (.ireturn, 1) := by decide +kernel
theorem dX12_egg_22 : decode cX12_egg 22 = .ok (.aload_n 0, 1) := by decide +kernel
theorem dX12_egg_23 : decode cX12_egg 23 = .ok (.getfield 35, 3) := by decide +kernel
theorem dX12_egg_26 : decode cX12_egg 26 = .ok (.iload_n 1, 1) := by decide +kernel
theorem dX12_egg_27 : decode cX12_egg 27 = .ok (.iload_n 2, 1) := by decide +kernel
theorem dX12_egg_28 : decode cX12_egg 28 = .ok (.invokevirtual 185, 3) := by decide +kernel
theorem dX12_egg_31 : decode cX12_egg 31 = .ok (.ireturn, 1) := by decide +kernel
def fX12_egg (h : eg_H) (l0 : Nat) (l1 : Int32) (l2 : Int32) : Option (Int32 × eg_H) :=
  if eg_isO h 12 l0 then (
    (eg_gR h 12 3 l0).bind fun p1 =>
    (fX7_isEgg h p1 l1).bind fun ⟨v4, h3⟩ =>
    if v4 = 0 then
      (some ((-1 : Int32), h3))
    else
      if l2 < 0 then
        (some ((-1 : Int32), h3))
      else
        if l2 < (2 : Int32) then
          ((eg_gR h3 12 3 l0).bind fun p9 =>
          (fX7_ofEgg h3 p9 l1 l2).bind fun ⟨v12, h11⟩ =>
          some (v12, h11))
        else
          some ((-1 : Int32), h3)) else none
theorem fX12_egg_O {h : eg_H} {l0 : Nat} {l1 : Int32} {l2 : Int32} {rE : Int32} {hE : eg_H} (hF : fX12_egg h l0 l1 l2 = some (rE, hE)) : eg_isO h 12 l0 := (eg_ifn hF).1
set_option maxRecDepth 20000 in
theorem mX12_egg {h : eg_H} {l0 : Nat} {l1 : Int32} {l2 : Int32} {rE : Int32} {hE : eg_H} (hF : fX12_egg h l0 l1 l2 = some (rE, hE)) : eg_Met yX12_egg cX12_egg 3 (some .int) 2 [.ref l0, .int l1, .int l2] h (some (.int rE)) hE := by
  refine eg_enter rfl (Nat.le_of_ble_eq_true rfl) ?_
  show eg_AW (RX12, cX12_egg, 3, 2, none, "egg", (some .int)) (eg_Zm (some (.int rE)) hE h) (eg_nc hE) (eg_ns hE) h 0 [(0, .ref l0), (1, .int l1), (2, .int l2)] [] h
  replace hF := (eg_ifn hF).2
  refine eg_aload_n (i := 0) 0 dX12_egg_0 rfl rfl ?_
  replace hF := eg_bind hF; obtain ⟨p1, e2, hF⟩ := hF
  refine eg_getR dX12_egg_1 e2 (Nat.le_of_ble_eq_true rfl) (Nat.le_of_ble_eq_true rfl) rfl ew_359 ?_
  refine eg_iload_n (i := 1) 1 dX12_egg_4 rfl rfl ?_
  replace hF := eg_bind hF; obtain ⟨⟨v4, h3⟩, e5, hF⟩ := hF
  refine eg_callV (c := 7) (n := 1) [.int l1] dX12_egg_5 (mX7_isEgg e5) rfl (fX7_isEgg_O e5) (Nat.le_of_ble_eq_true rfl) rfl ew_695 ew_696 ew_697 ew_104 ew_698 hy_X7_isEgg rfl (Nat.le_of_ble_eq_true rfl) (Nat.le_of_ble_eq_true rfl) (Nat.le_of_ble_eq_true rfl) ?_
  refine eg_if_eq 20 dX12_egg_8 rfl (fun c6 => ?_) (fun c6 => ?_)
  · replace hF := eg_it c6 hF
    refine eg_iconst (v := (-1 : Int32)) dX12_egg_20 (by decide) ?_
    exact eg_iretE dX12_egg_21 hF
  · replace hF := eg_if c6 hF
    refine eg_iload_n (i := 2) 2 dX12_egg_11 rfl rfl ?_
    refine eg_if_lt 20 dX12_egg_12 rfl (fun c7 => ?_) (fun c7 => ?_)
    · replace hF := eg_it c7 hF
      refine eg_iconst (v := (-1 : Int32)) dX12_egg_20 (by decide) ?_
      exact eg_iretE dX12_egg_21 hF
    · replace hF := eg_if c7 hF
      refine eg_iload_n (i := 2) 2 dX12_egg_15 rfl rfl ?_
      refine eg_iconst (v := (2 : Int32)) dX12_egg_16 (by decide) ?_
      refine eg_ic_lt 22 dX12_egg_17 rfl (fun c8 => ?_) (fun c8 => ?_)
      · replace hF := eg_it c8 hF
        refine eg_aload_n (i := 0) 0 dX12_egg_22 rfl rfl ?_
        replace hF := eg_bind hF; obtain ⟨p9, e10, hF⟩ := hF
        refine eg_getR dX12_egg_23 e10 (Nat.le_of_ble_eq_true rfl) (Nat.le_of_ble_eq_true rfl) rfl ew_359 ?_
        refine eg_iload_n (i := 1) 1 dX12_egg_26 rfl rfl ?_
        refine eg_iload_n (i := 2) 2 dX12_egg_27 rfl rfl ?_
        replace hF := eg_bind hF; obtain ⟨⟨v12, h11⟩, e13, hF⟩ := hF
        refine eg_callV (c := 7) (n := 2) [.int l1, .int l2] dX12_egg_28 (mX7_ofEgg e13) rfl (fX7_ofEgg_O e13) (Nat.le_of_ble_eq_true rfl) rfl ew_699 ew_700 ew_701 ew_104 ew_702 hy_X7_ofEgg rfl (Nat.le_of_ble_eq_true rfl) (Nat.le_of_ble_eq_true rfl) (Nat.le_of_ble_eq_true rfl) ?_
        exact eg_iretE dX12_egg_31 hF
      · replace hF := eg_if c8 hF
        refine eg_iconst (v := (-1 : Int32)) dX12_egg_20 (by decide) ?_
        exact eg_iretE dX12_egg_21 hF
theorem dX12_law_0 : decode cX12_law 0 = .ok (.aload_n 0, 1) := by decide +kernel
theorem dX12_law_1 : decode cX12_law 1 = .ok (.getfield 35, 3) := by decide +kernel
theorem dX12_law_4 : decode cX12_law 4 = .ok (.invokevirtual 188, 3) := by decide +kernel
theorem dX12_law_7 : decode cX12_law 7 = .ok (.ifCond .eq 16, 3) := by decide +kernel
theorem dX12_law_10 : decode cX12_law 10 = .ok (.iload_n 1, 1) := by decide +kernel
theorem dX12_law_11 : decode cX12_law 11 = .ok (.iconst (-1), 1) := by decide +kernel
theorem dX12_law_12 : decode cX12_law 12 = .ok (.if_icmp .lt 11, 3) := by decide +kernel
theorem dX12_law_15 : decode cX12_law 15 = .ok (.iload_n 1, 1) := by decide +kernel
theorem dX12_law_16 : decode cX12_law 16 = .ok (.aload_n 0, 1) := by decide +kernel
theorem dX12_law_17 : decode cX12_law 17 = .ok (.getfield 45, 3) := by decide +kernel
theorem dX12_law_20 : decode cX12_law 20 = .ok (.if_icmp .lt 5, 3) := by decide +kernel
theorem dX12_law_23 : decode cX12_law 23 = .ok (.iconst 0, 1) := by decide +kernel
theorem dX12_law_24 : decode cX12_law 24 = .ok (.ireturn, 1) := by decide +kernel
theorem dX12_law_25 : decode cX12_law 25 = .ok (.aload_n 0, 1) := by decide +kernel
theorem dX12_law_26 : decode cX12_law 26 = .ok (.iload_n 1, 1) := by decide +kernel
theorem dX12_law_27 : decode cX12_law 27 = .ok (.invokevirtual 156, 3) := by decide +kernel
theorem dX12_law_30 : decode cX12_law 30 = .ok (.iconst 1, 1) := by decide +kernel
theorem dX12_law_31 : decode cX12_law 31 = .ok (.ireturn, 1) := by decide +kernel
def fX12_law (h : eg_H) (l0 : Nat) (l1 : Int32) : Option (Int32 × eg_H) :=
  if eg_isO h 12 l0 then (
    (eg_gR h 12 3 l0).bind fun p1 =>
    (fX7_isTold h p1).bind fun ⟨v4, h3⟩ =>
    if v4 = 0 then
      (some ((0 : Int32), h3))
    else
      if l1 < (-1 : Int32) then
        (some ((0 : Int32), h3))
      else
        (eg_gI h3 12 5 l0).bind fun v8 =>
        if l1 < v8 then
          ((fX12_holdLaw h3 l0 l1).bind fun h11 =>
          some ((1 : Int32), h11))
        else
          some ((0 : Int32), h3)) else none
theorem fX12_law_O {h : eg_H} {l0 : Nat} {l1 : Int32} {rE : Int32} {hE : eg_H} (hF : fX12_law h l0 l1 = some (rE, hE)) : eg_isO h 12 l0 := (eg_ifn hF).1
set_option maxRecDepth 20000 in
theorem mX12_law {h : eg_H} {l0 : Nat} {l1 : Int32} {rE : Int32} {hE : eg_H} (hF : fX12_law h l0 l1 = some (rE, hE)) : eg_Met yX12_law cX12_law 2 (some .boolean) 3 [.ref l0, .int l1] h (some (.int rE)) hE := by
  refine eg_enter rfl (Nat.le_of_ble_eq_true rfl) ?_
  show eg_AW (RX12, cX12_law, 2, 3, none, "law", (some .boolean)) (eg_Zm (some (.int rE)) hE h) (eg_nc hE) (eg_ns hE) h 0 [(0, .ref l0), (1, .int l1)] [] h
  replace hF := (eg_ifn hF).2
  refine eg_aload_n (i := 0) 0 dX12_law_0 rfl rfl ?_
  replace hF := eg_bind hF; obtain ⟨p1, e2, hF⟩ := hF
  refine eg_getR dX12_law_1 e2 (Nat.le_of_ble_eq_true rfl) (Nat.le_of_ble_eq_true rfl) rfl ew_359 ?_
  replace hF := eg_bind hF; obtain ⟨⟨v4, h3⟩, e5, hF⟩ := hF
  refine eg_callV (c := 7) (n := 0) [] dX12_law_4 (mX7_isTold e5) rfl (fX7_isTold_O e5) (Nat.le_of_ble_eq_true rfl) rfl ew_707 ew_708 ew_709 ew_104 ew_710 hy_X7_isTold rfl (Nat.le_of_ble_eq_true rfl) (Nat.le_of_ble_eq_true rfl) (Nat.le_of_ble_eq_true rfl) ?_
  refine eg_if_eq 23 dX12_law_7 rfl (fun c6 => ?_) (fun c6 => ?_)
  · replace hF := eg_it c6 hF
    refine eg_iconst (v := (0 : Int32)) dX12_law_23 (by decide) ?_
    exact eg_zretE dX12_law_24 (Or.inl rfl) hF
  · replace hF := eg_if c6 hF
    refine eg_iload_n (i := 1) 1 dX12_law_10 rfl rfl ?_
    refine eg_iconst (v := (-1 : Int32)) dX12_law_11 (by decide) ?_
    refine eg_ic_lt 23 dX12_law_12 rfl (fun c7 => ?_) (fun c7 => ?_)
    · replace hF := eg_it c7 hF
      refine eg_iconst (v := (0 : Int32)) dX12_law_23 (by decide) ?_
      exact eg_zretE dX12_law_24 (Or.inl rfl) hF
    · replace hF := eg_if c7 hF
      refine eg_iload_n (i := 1) 1 dX12_law_15 rfl rfl ?_
      refine eg_aload_n (i := 0) 0 dX12_law_16 rfl rfl ?_
      replace hF := eg_bind hF; obtain ⟨v8, e9, hF⟩ := hF
      refine eg_getI dX12_law_17 e9 (Nat.le_of_ble_eq_true rfl) (Nat.le_of_ble_eq_true rfl) rfl ew_361 ?_
      refine eg_ic_lt 25 dX12_law_20 rfl (fun c10 => ?_) (fun c10 => ?_)
      · replace hF := eg_it c10 hF
        refine eg_aload_n (i := 0) 0 dX12_law_25 rfl rfl ?_
        refine eg_iload_n (i := 1) 1 dX12_law_26 rfl rfl ?_
        replace hF := eg_bind hF; obtain ⟨h11, e12, hF⟩ := hF
        refine eg_callV (c := 12) (n := 1) [.int l1] dX12_law_27 (mX12_holdLaw e12) rfl (fX12_holdLaw_O e12) (Nat.le_of_ble_eq_true rfl) rfl ew_613 ew_615 ew_19 ew_100 ew_616 hy_X12_holdLaw rfl (Nat.le_of_ble_eq_true rfl) (Nat.le_of_ble_eq_true rfl) (Nat.le_of_ble_eq_true rfl) ?_
        refine eg_iconst (v := (1 : Int32)) dX12_law_30 (by decide) ?_
        exact eg_zretE dX12_law_31 (Or.inr rfl) hF
      · replace hF := eg_if c10 hF
        refine eg_iconst (v := (0 : Int32)) dX12_law_23 (by decide) ?_
        exact eg_zretE dX12_law_24 (Or.inl rfl) hF
theorem dX12_set_0 : decode cX12_set 0 = .ok (.aload_n 0, 1) := by decide +kernel
theorem dX12_set_1 : decode cX12_set 1 = .ok (.getfield 35, 3) := by decide +kernel
theorem dX12_set_4 : decode cX12_set 4 = .ok (.invokevirtual 188, 3) := by decide +kernel
theorem dX12_set_7 : decode cX12_set 7 = .ok (.ifCond .eq 12, 3) := by decide +kernel
theorem dX12_set_10 : decode cX12_set 10 = .ok (.iload_n 1, 1) := by decide +kernel
theorem dX12_set_11 : decode cX12_set 11 = .ok (.ifCond .lt 8, 3) := by decide +kernel
theorem dX12_set_14 : decode cX12_set 14 = .ok (.iload_n 1, 1) := by decide +kernel
theorem dX12_set_15 : decode cX12_set 15 = .ok (.iconst 4, 1) := by decide +kernel
theorem dX12_set_16 : decode cX12_set 16 = .ok (.if_icmp .lt 5, 3) := by decide +kernel
theorem dX12_set_19 : decode cX12_set 19 = .ok (.iconst 0, 1) := by decide +kernel
theorem dX12_set_20 : decode cX12_set 20 = .ok (.ireturn, 1) := by decide +kernel
theorem dX12_set_21 : decode cX12_set 21 = .ok (.iload_n 2, 1) := by decide +kernel
theorem dX12_set_22 : decode cX12_set 22 = .ok (.getstatic 203, 3) := by decide +kernel
theorem dX12_set_25 : decode cX12_set 25 = .ok (.iload_n 1, 1) := by decide +kernel
theorem dX12_set_26 : decode cX12_set 26 = .ok (.iaload, 1) := by decide +kernel
theorem dX12_set_27 : decode cX12_set 27 = .ok (.if_icmp .lt 24, 3) := by decide +kernel
theorem dX12_set_30 : decode cX12_set 30 = .ok (.iload_n 2, 1) := by decide +kernel
theorem dX12_set_31 : decode cX12_set 31 = .ok (.getstatic 206, 3) := by decide +kernel
theorem dX12_set_34 : decode cX12_set 34 = .ok (.iload_n 1, 1) := by decide +kernel
theorem dX12_set_35 : decode cX12_set 35 = .ok (.iaload, 1) := by decide +kernel
theorem dX12_set_36 : decode cX12_set 36 = .ok (.if_icmp .gt 15, 3) := by decide +kernel
theorem dX12_set_39 : decode cX12_set 39 = .ok (.iload_n 2, 1) := by decide +kernel
theorem dX12_set_40 : decode cX12_set 40 = .ok (.aload_n 0, 1) := by decide +kernel
theorem dX12_set_41 : decode cX12_set 41 = .ok (.getfield 35, 3) := by decide +kernel
theorem dX12_set_44 : decode cX12_set 44 = .ok (.iload_n 1, 1) := by decide +kernel
theorem dX12_set_45 : decode cX12_set 45 = .ok (.invokevirtual 209, 3) := by decide +kernel
theorem dX12_set_48 : decode cX12_set 48 = .ok (.if_icmp .ne 5, 3) := by decide +kernel
theorem dX12_set_51 : decode cX12_set 51 = .ok (.iconst 0, 1) := by decide +kernel
theorem dX12_set_52 : decode cX12_set 52 = .ok (.ireturn, 1) := by decide +kernel
theorem dX12_set_53 : decode cX12_set 53 = .ok (.aload_n 0, 1) := by decide +kernel
theorem dX12_set_54 : decode cX12_set 54 = .ok (.getfield 35, 3) := by decide +kernel
theorem dX12_set_57 : decode cX12_set 57 = .ok (.iload_n 1, 1) := by decide +kernel
theorem dX12_set_58 : decode cX12_set 58 = .ok (.iload_n 2, 1) := by decide +kernel
theorem dX12_set_59 : decode cX12_set 59 = .ok (.invokevirtual 212, 3) := by decide +kernel
theorem dX12_set_62 : decode cX12_set 62 = .ok (.iload_n 1, 1) := by decide +kernel
theorem dX12_set_63 : decode cX12_set 63 = .ok (.ifCond .eq 8, 3) := by decide +kernel
theorem dX12_set_66 : decode cX12_set 66 = .ok (.iload_n 1, 1) := by decide +kernel
theorem dX12_set_67 : decode cX12_set 67 = .ok (.iconst 1, 1) := by decide +kernel
theorem dX12_set_68 : decode cX12_set 68 = .ok (.if_icmp .ne 10, 3) := by decide +kernel
theorem dX12_set_71 : decode cX12_set 71 = .ok (.aload_n 0, 1) := by decide +kernel
theorem dX12_set_72 : decode cX12_set 72 = .ok (.getfield 101, 3) := by decide +kernel
theorem dX12_set_75 : decode cX12_set 75 = .ok (.invokevirtual 200, 3) := by decide +kernel
theorem dX12_set_78 : decode cX12_set 78 = .ok (.iconst 1, 1) := by decide +kernel
theorem dX12_set_79 : decode cX12_set 79 = .ok (.ireturn, 1) := by decide +kernel
def fX12_set (h : eg_H) (l0 : Nat) (l1 : Int32) (l2 : Int32) : Option (Int32 × eg_H) :=
  if eg_isO h 12 l0 then (
    (eg_gR h 12 3 l0).bind fun p1 =>
    (fX7_isTold h p1).bind fun ⟨v4, h3⟩ =>
    if v4 = 0 then
      (some ((0 : Int32), h3))
    else
      if l1 < 0 then
        (some ((0 : Int32), h3))
      else
        if l1 < (4 : Int32) then
          ((eg_tI 2 l1).bind fun v9 =>
          if l2 < v9 then
            (some ((0 : Int32), h3))
          else
            (eg_tI 3 l1).bind fun v12 =>
            if v12 < l2 then
              (some ((0 : Int32), h3))
            else
              (eg_gR h3 12 3 l0).bind fun p15 =>
              (fX7_told h3 p15 l1).bind fun ⟨v18, h17⟩ =>
              if l2 = v18 then
                (some ((0 : Int32), h17))
              else
                (eg_gR h17 12 3 l0).bind fun p21 =>
                (fX7_tell h17 p21 l1 l2).bind fun h23 =>
                if l1 = 0 then
                  ((eg_gR h23 12 16 l0).bind fun p26 =>
                  (fX0_forget h23 p26).bind fun h28 =>
                  some ((1 : Int32), h28))
                else
                  if l1 = (1 : Int32) then
                    ((eg_gR h23 12 16 l0).bind fun p31 =>
                    (fX0_forget h23 p31).bind fun h33 =>
                    some ((1 : Int32), h33))
                  else
                    some ((1 : Int32), h23))
        else
          some ((0 : Int32), h3)) else none
theorem fX12_set_O {h : eg_H} {l0 : Nat} {l1 : Int32} {l2 : Int32} {rE : Int32} {hE : eg_H} (hF : fX12_set h l0 l1 l2 = some (rE, hE)) : eg_isO h 12 l0 := (eg_ifn hF).1
set_option maxRecDepth 20000 in
theorem mX12_set {h : eg_H} {l0 : Nat} {l1 : Int32} {l2 : Int32} {rE : Int32} {hE : eg_H} (hF : fX12_set h l0 l1 l2 = some (rE, hE)) : eg_Met yX12_set cX12_set 3 (some .boolean) 2 [.ref l0, .int l1, .int l2] h (some (.int rE)) hE := by
  refine eg_enter rfl (Nat.le_of_ble_eq_true rfl) ?_
  show eg_AW (RX12, cX12_set, 3, 2, none, "set", (some .boolean)) (eg_Zm (some (.int rE)) hE h) (eg_nc hE) (eg_ns hE) h 0 [(0, .ref l0), (1, .int l1), (2, .int l2)] [] h
  replace hF := (eg_ifn hF).2
  refine eg_aload_n (i := 0) 0 dX12_set_0 rfl rfl ?_
  replace hF := eg_bind hF; obtain ⟨p1, e2, hF⟩ := hF
  refine eg_getR dX12_set_1 e2 (Nat.le_of_ble_eq_true rfl) (Nat.le_of_ble_eq_true rfl) rfl ew_359 ?_
  replace hF := eg_bind hF; obtain ⟨⟨v4, h3⟩, e5, hF⟩ := hF
  refine eg_callV (c := 7) (n := 0) [] dX12_set_4 (mX7_isTold e5) rfl (fX7_isTold_O e5) (Nat.le_of_ble_eq_true rfl) rfl ew_707 ew_708 ew_709 ew_104 ew_710 hy_X7_isTold rfl (Nat.le_of_ble_eq_true rfl) (Nat.le_of_ble_eq_true rfl) (Nat.le_of_ble_eq_true rfl) ?_
  refine eg_if_eq 19 dX12_set_7 rfl (fun c6 => ?_) (fun c6 => ?_)
  · replace hF := eg_it c6 hF
    refine eg_iconst (v := (0 : Int32)) dX12_set_19 (by decide) ?_
    exact eg_zretE dX12_set_20 (Or.inl rfl) hF
  · replace hF := eg_if c6 hF
    refine eg_iload_n (i := 1) 1 dX12_set_10 rfl rfl ?_
    refine eg_if_lt 19 dX12_set_11 rfl (fun c7 => ?_) (fun c7 => ?_)
    · replace hF := eg_it c7 hF
      refine eg_iconst (v := (0 : Int32)) dX12_set_19 (by decide) ?_
      exact eg_zretE dX12_set_20 (Or.inl rfl) hF
    · replace hF := eg_if c7 hF
      refine eg_iload_n (i := 1) 1 dX12_set_14 rfl rfl ?_
      refine eg_iconst (v := (4 : Int32)) dX12_set_15 (by decide) ?_
      refine eg_ic_lt 21 dX12_set_16 rfl (fun c8 => ?_) (fun c8 => ?_)
      · replace hF := eg_it c8 hF
        refine eg_iload_n (i := 2) 2 dX12_set_21 rfl rfl ?_
        refine eg_gets (k := 2) dX12_set_22 (Nat.le_of_ble_eq_true rfl) (Nat.le_of_ble_eq_true rfl) ew_715 ?_
        refine eg_iload_n (i := 1) 1 dX12_set_25 rfl rfl ?_
        replace hF := eg_bind hF; obtain ⟨v9, e10, hF⟩ := hF
        refine eg_tald dX12_set_26 (Nat.le_of_ble_eq_true rfl) (Nat.le_of_ble_eq_true rfl) e10 ?_
        refine eg_ic_lt 51 dX12_set_27 rfl (fun c11 => ?_) (fun c11 => ?_)
        · replace hF := eg_it c11 hF
          refine eg_iconst (v := (0 : Int32)) dX12_set_51 (by decide) ?_
          exact eg_zretE dX12_set_52 (Or.inl rfl) hF
        · replace hF := eg_if c11 hF
          refine eg_iload_n (i := 2) 2 dX12_set_30 rfl rfl ?_
          refine eg_gets (k := 3) dX12_set_31 (Nat.le_of_ble_eq_true rfl) (Nat.le_of_ble_eq_true rfl) ew_716 ?_
          refine eg_iload_n (i := 1) 1 dX12_set_34 rfl rfl ?_
          replace hF := eg_bind hF; obtain ⟨v12, e13, hF⟩ := hF
          refine eg_tald dX12_set_35 (Nat.le_of_ble_eq_true rfl) (Nat.le_of_ble_eq_true rfl) e13 ?_
          refine eg_ic_gt 51 dX12_set_36 rfl (fun c14 => ?_) (fun c14 => ?_)
          · replace hF := eg_it c14 hF
            refine eg_iconst (v := (0 : Int32)) dX12_set_51 (by decide) ?_
            exact eg_zretE dX12_set_52 (Or.inl rfl) hF
          · replace hF := eg_if c14 hF
            refine eg_iload_n (i := 2) 2 dX12_set_39 rfl rfl ?_
            refine eg_aload_n (i := 0) 0 dX12_set_40 rfl rfl ?_
            replace hF := eg_bind hF; obtain ⟨p15, e16, hF⟩ := hF
            refine eg_getR dX12_set_41 e16 (Nat.le_of_ble_eq_true rfl) (Nat.le_of_ble_eq_true rfl) rfl ew_359 ?_
            refine eg_iload_n (i := 1) 1 dX12_set_44 rfl rfl ?_
            replace hF := eg_bind hF; obtain ⟨⟨v18, h17⟩, e19, hF⟩ := hF
            refine eg_callV (c := 7) (n := 1) [.int l1] dX12_set_45 (mX7_told e19) rfl (fX7_told_O e19) (Nat.le_of_ble_eq_true rfl) rfl ew_717 ew_718 ew_719 ew_104 ew_720 hy_X7_told rfl (Nat.le_of_ble_eq_true rfl) (Nat.le_of_ble_eq_true rfl) (Nat.le_of_ble_eq_true rfl) ?_
            refine eg_ic_ne 53 dX12_set_48 rfl (fun c20 => ?_) (fun c20 => ?_)
            · replace hF := eg_it c20 hF
              refine eg_iconst (v := (0 : Int32)) dX12_set_51 (by decide) ?_
              exact eg_zretE dX12_set_52 (Or.inl rfl) hF
            · replace hF := eg_if c20 hF
              refine eg_aload_n (i := 0) 0 dX12_set_53 rfl rfl ?_
              replace hF := eg_bind hF; obtain ⟨p21, e22, hF⟩ := hF
              refine eg_getR dX12_set_54 e22 (Nat.le_of_ble_eq_true rfl) (Nat.le_of_ble_eq_true rfl) rfl ew_359 ?_
              refine eg_iload_n (i := 1) 1 dX12_set_57 rfl rfl ?_
              refine eg_iload_n (i := 2) 2 dX12_set_58 rfl rfl ?_
              replace hF := eg_bind hF; obtain ⟨h23, e24, hF⟩ := hF
              refine eg_callV (c := 7) (n := 2) [.int l1, .int l2] dX12_set_59 (mX7_tell e24) rfl (fX7_tell_O e24) (Nat.le_of_ble_eq_true rfl) rfl ew_721 ew_722 ew_723 ew_104 ew_724 hy_X7_tell rfl (Nat.le_of_ble_eq_true rfl) (Nat.le_of_ble_eq_true rfl) (Nat.le_of_ble_eq_true rfl) ?_
              refine eg_iload_n (i := 1) 1 dX12_set_62 rfl rfl ?_
              refine eg_if_eq 71 dX12_set_63 rfl (fun c25 => ?_) (fun c25 => ?_)
              · replace hF := eg_it c25 hF
                refine eg_aload_n (i := 0) 0 dX12_set_71 rfl rfl ?_
                replace hF := eg_bind hF; obtain ⟨p26, e27, hF⟩ := hF
                refine eg_getR dX12_set_72 e27 (Nat.le_of_ble_eq_true rfl) (Nat.le_of_ble_eq_true rfl) rfl ew_372 ?_
                replace hF := eg_bind hF; obtain ⟨h28, e29, hF⟩ := hF
                refine eg_callV (c := 0) (n := 0) [] dX12_set_75 (mX0_forget e29) rfl (fX0_forget_O e29) (Nat.le_of_ble_eq_true rfl) rfl ew_625 ew_626 ew_627 ew_107 ew_628 hy_X0_forget rfl (Nat.le_of_ble_eq_true rfl) (Nat.le_of_ble_eq_true rfl) (Nat.le_of_ble_eq_true rfl) ?_
                refine eg_iconst (v := (1 : Int32)) dX12_set_78 (by decide) ?_
                exact eg_zretE dX12_set_79 (Or.inr rfl) hF
              · replace hF := eg_if c25 hF
                refine eg_iload_n (i := 1) 1 dX12_set_66 rfl rfl ?_
                refine eg_iconst (v := (1 : Int32)) dX12_set_67 (by decide) ?_
                refine eg_ic_ne 78 dX12_set_68 rfl (fun c30 => ?_) (fun c30 => ?_)
                · replace hF := eg_it c30 hF
                  refine eg_aload_n (i := 0) 0 dX12_set_71 rfl rfl ?_
                  replace hF := eg_bind hF; obtain ⟨p31, e32, hF⟩ := hF
                  refine eg_getR dX12_set_72 e32 (Nat.le_of_ble_eq_true rfl) (Nat.le_of_ble_eq_true rfl) rfl ew_372 ?_
                  replace hF := eg_bind hF; obtain ⟨h33, e34, hF⟩ := hF
                  refine eg_callV (c := 0) (n := 0) [] dX12_set_75 (mX0_forget e34) rfl (fX0_forget_O e34) (Nat.le_of_ble_eq_true rfl) rfl ew_625 ew_626 ew_627 ew_107 ew_628 hy_X0_forget rfl (Nat.le_of_ble_eq_true rfl) (Nat.le_of_ble_eq_true rfl) (Nat.le_of_ble_eq_true rfl) ?_
                  refine eg_iconst (v := (1 : Int32)) dX12_set_78 (by decide) ?_
                  exact eg_zretE dX12_set_79 (Or.inr rfl) hF
                · replace hF := eg_if c30 hF
                  refine eg_iconst (v := (1 : Int32)) dX12_set_78 (by decide) ?_
                  exact eg_zretE dX12_set_79 (Or.inr rfl) hF
      · replace hF := eg_if c8 hF
        refine eg_iconst (v := (0 : Int32)) dX12_set_19 (by decide) ?_
        exact eg_zretE dX12_set_20 (Or.inl rfl) hF
theorem dX12_isEnd_0 : decode cX12_isEnd 0 = .ok (.iload_n 0, 1) := by decide +kernel
theorem dX12_isEnd_1 : decode cX12_isEnd 1 = .ok (.ifCond .eq 8, 3) := by decide +kernel
theorem dX12_isEnd_4 : decode cX12_isEnd 4 = .ok (.iload_n 0, 1) := by decide +kernel
theorem dX12_isEnd_5 : decode cX12_isEnd 5 = .ok (.iconst 1, 1) := by decide +kernel
theorem dX12_isEnd_6 : decode cX12_isEnd 6 = .ok (.if_icmp .ne 7, 3) := by decide +kernel
theorem dX12_isEnd_9 : decode cX12_isEnd 9 = .ok (.iconst 1, 1) := by decide +kernel
theorem dX12_isEnd_10 : decode cX12_isEnd 10 = .ok (.goto 4, 3) := by decide +kernel
theorem dX12_isEnd_13 : decode cX12_isEnd 13 = .ok (.iconst 0, 1) := by decide +kernel
theorem dX12_isEnd_14 : decode cX12_isEnd 14 = .ok (.ireturn, 1) := by decide +kernel
def fX12_isEnd (h : eg_H) (l0 : Int32) : Option (Int32 × eg_H) :=
  if l0 = 0 then
    (some ((1 : Int32), h))
  else
    if l0 = (1 : Int32) then
      (some ((1 : Int32), h))
    else
      some ((0 : Int32), h)
set_option maxRecDepth 20000 in
theorem mX12_isEnd {h : eg_H} {l0 : Int32} {rE : Int32} {hE : eg_H} (hF : fX12_isEnd h l0 = some (rE, hE)) : eg_Met yX12_isEnd cX12_isEnd 1 (some .boolean) 1 [.int l0] h (some (.int rE)) hE := by
  refine eg_enter rfl (Nat.le_of_ble_eq_true rfl) ?_
  show eg_AW (RX12, cX12_isEnd, 1, 1, none, "isEnd", (some .boolean)) (eg_Zm (some (.int rE)) hE h) (eg_nc hE) (eg_ns hE) h 0 [(0, .int l0)] [] h
  refine eg_iload_n (i := 0) 0 dX12_isEnd_0 rfl rfl ?_
  refine eg_if_eq 9 dX12_isEnd_1 rfl (fun c1 => ?_) (fun c1 => ?_)
  · replace hF := eg_it c1 hF
    refine eg_iconst (v := (1 : Int32)) dX12_isEnd_9 (by decide) ?_
    refine eg_goto 14 dX12_isEnd_10 rfl ?_
    exact eg_zretE dX12_isEnd_14 (Or.inr rfl) hF
  · replace hF := eg_if c1 hF
    refine eg_iload_n (i := 0) 0 dX12_isEnd_4 rfl rfl ?_
    refine eg_iconst (v := (1 : Int32)) dX12_isEnd_5 (by decide) ?_
    refine eg_ic_ne 13 dX12_isEnd_6 rfl (fun c2 => ?_) (fun c2 => ?_)
    · replace hF := eg_it c2 hF
      refine eg_iconst (v := (1 : Int32)) dX12_isEnd_9 (by decide) ?_
      refine eg_goto 14 dX12_isEnd_10 rfl ?_
      exact eg_zretE dX12_isEnd_14 (Or.inr rfl) hF
    · replace hF := eg_if c2 hF
      refine eg_iconst (v := (0 : Int32)) dX12_isEnd_13 (by decide) ?_
      exact eg_zretE dX12_isEnd_14 (Or.inl rfl) hF
theorem dX12_isWithin_0 : decode cX12_isWithin 0 = .ok (.iload_n 0, 1) := by decide +kernel
theorem dX12_isWithin_1 : decode cX12_isWithin 1 = .ok (.iload_n 1, 1) := by decide +kernel
theorem dX12_isWithin_2 : decode cX12_isWithin 2 = .ok (.ineg, 1) := by decide +kernel
theorem dX12_isWithin_3 : decode cX12_isWithin 3 = .ok (.if_icmp .lt 12, 3) := by decide +kernel
theorem dX12_isWithin_6 : decode cX12_isWithin 6 = .ok (.iload_n 0, 1) := by decide +kernel
theorem dX12_isWithin_7 : decode cX12_isWithin 7 = .ok (.iload_n 1, 1) := by decide +kernel
theorem dX12_isWithin_8 : decode cX12_isWithin 8 = .ok (.if_icmp .gt 7, 3) := by decide +kernel
theorem dX12_isWithin_11 : decode cX12_isWithin 11 = .ok (.iconst 1, 1) := by decide +kernel
theorem dX12_isWithin_12 : decode cX12_isWithin 12 = .ok (.goto 4, 3) := by decide +kernel
theorem dX12_isWithin_15 : decode cX12_isWithin 15 = .ok (.iconst 0, 1) := by decide +kernel
theorem dX12_isWithin_16 : decode cX12_isWithin 16 = .ok (.ireturn, 1) := by decide +kernel
def fX12_isWithin (h : eg_H) (l0 : Int32) (l1 : Int32) : Option (Int32 × eg_H) :=
  if l0 < (-l1) then
    (some ((0 : Int32), h))
  else
    if l1 < l0 then
      (some ((0 : Int32), h))
    else
      some ((1 : Int32), h)
set_option maxRecDepth 20000 in
theorem mX12_isWithin {h : eg_H} {l0 : Int32} {l1 : Int32} {rE : Int32} {hE : eg_H} (hF : fX12_isWithin h l0 l1 = some (rE, hE)) : eg_Met yX12_isWithin cX12_isWithin 2 (some .boolean) 1 [.int l0, .int l1] h (some (.int rE)) hE := by
  refine eg_enter rfl (Nat.le_of_ble_eq_true rfl) ?_
  show eg_AW (RX12, cX12_isWithin, 2, 1, none, "isWithin", (some .boolean)) (eg_Zm (some (.int rE)) hE h) (eg_nc hE) (eg_ns hE) h 0 [(0, .int l0), (1, .int l1)] [] h
  refine eg_iload_n (i := 0) 0 dX12_isWithin_0 rfl rfl ?_
  refine eg_iload_n (i := 1) 1 dX12_isWithin_1 rfl rfl ?_
  refine eg_ineg dX12_isWithin_2 ?_
  refine eg_ic_lt 15 dX12_isWithin_3 rfl (fun c1 => ?_) (fun c1 => ?_)
  · replace hF := eg_it c1 hF
    refine eg_iconst (v := (0 : Int32)) dX12_isWithin_15 (by decide) ?_
    exact eg_zretE dX12_isWithin_16 (Or.inl rfl) hF
  · replace hF := eg_if c1 hF
    refine eg_iload_n (i := 0) 0 dX12_isWithin_6 rfl rfl ?_
    refine eg_iload_n (i := 1) 1 dX12_isWithin_7 rfl rfl ?_
    refine eg_ic_gt 15 dX12_isWithin_8 rfl (fun c2 => ?_) (fun c2 => ?_)
    · replace hF := eg_it c2 hF
      refine eg_iconst (v := (0 : Int32)) dX12_isWithin_15 (by decide) ?_
      exact eg_zretE dX12_isWithin_16 (Or.inl rfl) hF
    · replace hF := eg_if c2 hF
      refine eg_iconst (v := (1 : Int32)) dX12_isWithin_11 (by decide) ?_
      refine eg_goto 16 dX12_isWithin_12 rfl ?_
      exact eg_zretE dX12_isWithin_16 (Or.inr rfl) hF
theorem dX12_off_0 : decode cX12_off 0 = .ok (.aload_n 0, 1) := by decide +kernel
theorem dX12_off_1 : decode cX12_off 1 = .ok (.getfield 35, 3) := by decide +kernel
theorem dX12_off_4 : decode cX12_off 4 = .ok (.iload_n 1, 1) := by decide +kernel
theorem dX12_off_5 : decode cX12_off 5 = .ok (.invokevirtual 167, 3) := by decide +kernel
theorem dX12_off_8 : decode cX12_off 8 = .ok (.ifCond .eq 19, 3) := by decide +kernel
theorem dX12_off_11 : decode cX12_off 11 = .ok (.iload_n 2, 1) := by decide +kernel
theorem dX12_off_12 : decode cX12_off 12 = .ok (.invokestatic 216, 3) := by decide +kernel
theorem dX12_off_15 : decode cX12_off 15 = .ok (.ifCond .eq 12, 3) := by decide +kernel
theorem dX12_off_18 : decode cX12_off 18 = .ok (.iload 4, 2) := by decide +kernel
theorem dX12_off_20 : decode cX12_off 20 = .ok (.iconst 5, 1) := by decide +kernel
theorem dX12_off_21 : decode cX12_off 21 = .ok (.invokestatic 219, 3) := by decide +kernel
theorem dX12_off_24 : decode cX12_off 24 = .ok (.ifCond .ne 6, 3) := by decide +kernel
theorem dX12_off_27 : decode cX12_off 27 = .ok (.ldc 223, 2) := by decide +kernel
theorem dX12_off_29 : decode cX12_off 29 = .ok (.ireturn, 1) := by decide +kernel
theorem dX12_off_30 : decode cX12_off 30 = .ok (.iload_n 3, 1) := by decide +kernel
theorem dX12_off_31 : decode cX12_off 31 = .ok (.ifCond .lt 33, 3) := by decide +kernel
theorem dX12_off_34 : decode cX12_off 34 = .ok (.iload_n 3, 1) := by decide +kernel
theorem dX12_off_35 : decode cX12_off 35 = .ok (.aload_n 0, 1) := by decide +kernel
theorem dX12_off_36 : decode cX12_off 36 = .ok (.getfield 35, 3) := by decide +kernel
theorem dX12_off_39 : decode cX12_off 39 = .ok (.iload_n 1, 1) := by decide +kernel
theorem dX12_off_40 : decode cX12_off 40 = .ok (.iconst 3, 1) := by decide +kernel
theorem dX12_off_41 : decode cX12_off 41 = .ok (.invokevirtual 178, 3) := by decide +kernel
theorem dX12_off_44 : decode cX12_off 44 = .ok (.if_icmp .gt 20, 3) := by decide +kernel
theorem dX12_off_47 : decode cX12_off 47 = .ok (.iload 5, 2) := by decide +kernel
theorem dX12_off_49 : decode cX12_off 49 = .ok (.aload_n 0, 1) := by decide +kernel
theorem dX12_off_50 : decode cX12_off 50 = .ok (.getfield 35, 3) := by decide +kernel
theorem dX12_off_53 : decode cX12_off 53 = .ok (.iload_n 1, 1) := by decide +kernel
theorem dX12_off_54 : decode cX12_off 54 = .ok (.iconst 0, 1) := by decide +kernel
theorem dX12_off_55 : decode cX12_off 55 = .ok (.invokevirtual 178, 3) := by decide +kernel
theorem dX12_off_58 : decode cX12_off 58 = .ok (.invokestatic 219, 3) := by decide +kernel
theorem dX12_off_61 : decode cX12_off 61 = .ok (.ifCond .ne 6, 3) := by decide +kernel
theorem dX12_off_64 : decode cX12_off 64 = .ok (.ldc 223, 2) := by decide +kernel
theorem dX12_off_66 : decode cX12_off 66 = .ok (.ireturn, 1) := by decide +kernel
theorem dX12_off_67 : decode cX12_off 67 = .ok (.iload 4, 2) := by decide +kernel
theorem dX12_off_69 : decode cX12_off 69 = .ok (.iload 5, 2) := by decide +kernel
theorem dX12_off_71 : decode cX12_off 71 = .ok (.iadd, 1) := by decide +kernel
theorem dX12_off_72 : decode cX12_off 72 = .ok (.aload_n 0, 1) := by decide +kernel
theorem dX12_off_73 : decode cX12_off 73 = .ok (.getfield 35, 3) := by decide +kernel
theorem dX12_off_76 : decode cX12_off 76 = .ok (.iload_n 2, 1) := by decide +kernel
theorem dX12_off_77 : decode cX12_off 77 = .ok (.aload_n 0, 1) := by decide +kernel
theorem dX12_off_78 : decode cX12_off 78 = .ok (.getfield 35, 3) := by decide +kernel
theorem dX12_off_81 : decode cX12_off 81 = .ok (.iconst 0, 1) := by decide +kernel
theorem dX12_off_82 : decode cX12_off 82 = .ok (.invokevirtual 209, 3) := by decide +kernel
theorem dX12_off_85 : decode cX12_off 85 = .ok (.invokevirtual 224, 3) := by decide +kernel
theorem dX12_off_88 : decode cX12_off 88 = .ok (.iload_n 3, 1) := by decide +kernel
theorem dX12_off_89 : decode cX12_off 89 = .ok (.imul, 1) := by decide +kernel
theorem dX12_off_90 : decode cX12_off 90 = .ok (.iconst 4, 1) := by decide +kernel
theorem dX12_off_91 : decode cX12_off 91 = .ok (.idiv, 1) := by decide +kernel
theorem dX12_off_92 : decode cX12_off 92 = .ok (.iadd, 1) := by decide +kernel
theorem dX12_off_93 : decode cX12_off 93 = .ok (.ireturn, 1) := by decide +kernel
def fX12_off (h : eg_H) (l0 : Nat) (l1 : Int32) (l2 : Int32) (l3 : Int32) (l4 : Int32) (l5 : Int32) : Option (Int32 × eg_H) :=
  if eg_isO h 12 l0 then (
    (eg_gR h 12 3 l0).bind fun p1 =>
    (fX7_isPerson h p1 l1).bind fun ⟨v4, h3⟩ =>
    if v4 = 0 then
      (some ((-1000000 : Int32), h3))
    else
      (fX12_isEnd h3 l2).bind fun ⟨v8, h7⟩ =>
      if v8 = 0 then
        (some ((-1000000 : Int32), h7))
      else
        (fX12_isWithin h7 l4 (5 : Int32)).bind fun ⟨v12, h11⟩ =>
        if v12 = 0 then
          (some ((-1000000 : Int32), h11))
        else
          if l3 < 0 then
            (some ((-1000000 : Int32), h11))
          else
            (eg_gR h11 12 3 l0).bind fun p16 =>
            (fX7_ofPerson h11 p16 l1 (3 : Int32)).bind fun ⟨v19, h18⟩ =>
            if v19 < l3 then
              (some ((-1000000 : Int32), h18))
            else
              (eg_gR h18 12 3 l0).bind fun p22 =>
              (fX7_ofPerson h18 p22 l1 (0 : Int32)).bind fun ⟨v25, h24⟩ =>
              (fX12_isWithin h24 l5 v25).bind fun ⟨v28, h27⟩ =>
              if v28 = 0 then
                (some ((-1000000 : Int32), h27))
              else
                (eg_gR h27 12 3 l0).bind fun p31 =>
                (eg_gR h27 12 3 l0).bind fun p33 =>
                (fX7_told h27 p33 (0 : Int32)).bind fun ⟨v36, h35⟩ =>
                (fX7_blows h35 p31 l2 v36).bind fun ⟨v39, h38⟩ =>
                some (((l4 + l5) + ((v39 * l3) / (4 : Int32))), h38)) else none
theorem fX12_off_O {h : eg_H} {l0 : Nat} {l1 : Int32} {l2 : Int32} {l3 : Int32} {l4 : Int32} {l5 : Int32} {rE : Int32} {hE : eg_H} (hF : fX12_off h l0 l1 l2 l3 l4 l5 = some (rE, hE)) : eg_isO h 12 l0 := (eg_ifn hF).1
set_option maxRecDepth 20000 in
theorem mX12_off {h : eg_H} {l0 : Nat} {l1 : Int32} {l2 : Int32} {l3 : Int32} {l4 : Int32} {l5 : Int32} {rE : Int32} {hE : eg_H} (hF : fX12_off h l0 l1 l2 l3 l4 l5 = some (rE, hE)) : eg_Met yX12_off cX12_off 6 (some .int) 2 [.ref l0, .int l1, .int l2, .int l3, .int l4, .int l5] h (some (.int rE)) hE := by
  refine eg_enter rfl (Nat.le_of_ble_eq_true rfl) ?_
  show eg_AW (RX12, cX12_off, 6, 2, none, "off", (some .int)) (eg_Zm (some (.int rE)) hE h) (eg_nc hE) (eg_ns hE) h 0 [(0, .ref l0), (1, .int l1), (2, .int l2), (3, .int l3), (4, .int l4), (5, .int l5)] [] h
  replace hF := (eg_ifn hF).2
  refine eg_aload_n (i := 0) 0 dX12_off_0 rfl rfl ?_
  replace hF := eg_bind hF; obtain ⟨p1, e2, hF⟩ := hF
  refine eg_getR dX12_off_1 e2 (Nat.le_of_ble_eq_true rfl) (Nat.le_of_ble_eq_true rfl) rfl ew_359 ?_
  refine eg_iload_n (i := 1) 1 dX12_off_4 rfl rfl ?_
  replace hF := eg_bind hF; obtain ⟨⟨v4, h3⟩, e5, hF⟩ := hF
  refine eg_callV (c := 7) (n := 1) [.int l1] dX12_off_5 (mX7_isPerson e5) rfl (fX7_isPerson_O e5) (Nat.le_of_ble_eq_true rfl) rfl ew_729 ew_730 ew_731 ew_104 ew_732 hy_X7_isPerson rfl (Nat.le_of_ble_eq_true rfl) (Nat.le_of_ble_eq_true rfl) (Nat.le_of_ble_eq_true rfl) ?_
  refine eg_if_eq 27 dX12_off_8 rfl (fun c6 => ?_) (fun c6 => ?_)
  · replace hF := eg_it c6 hF
    refine eg_ldc (v := (-1000000 : Int32)) dX12_off_27 ew_739 ?_
    exact eg_iretE dX12_off_29 hF
  · replace hF := eg_if c6 hF
    refine eg_iload_n (i := 2) 2 dX12_off_11 rfl rfl ?_
    replace hF := eg_bind hF; obtain ⟨⟨v8, h7⟩, e9, hF⟩ := hF
    refine eg_callS (n := 1) [.int l2] dX12_off_12 (mX12_isEnd e9) rfl ew_733 ew_734 ew_100 ew_735 hy_X12_isEnd.2 rfl (Nat.le_of_ble_eq_true rfl) (Nat.le_of_ble_eq_true rfl) (Nat.le_of_ble_eq_true rfl) ?_
    refine eg_if_eq 27 dX12_off_15 rfl (fun c10 => ?_) (fun c10 => ?_)
    · replace hF := eg_it c10 hF
      refine eg_ldc (v := (-1000000 : Int32)) dX12_off_27 ew_739 ?_
      exact eg_iretE dX12_off_29 hF
    · replace hF := eg_if c10 hF
      refine eg_iload (i := 4) 4 dX12_off_18 rfl ?_
      refine eg_iconst (v := (5 : Int32)) dX12_off_20 (by decide) ?_
      replace hF := eg_bind hF; obtain ⟨⟨v12, h11⟩, e13, hF⟩ := hF
      refine eg_callS (n := 2) [.int l4, .int (5 : Int32)] dX12_off_21 (mX12_isWithin e13) rfl ew_736 ew_737 ew_100 ew_738 hy_X12_isWithin.2 rfl (Nat.le_of_ble_eq_true rfl) (Nat.le_of_ble_eq_true rfl) (Nat.le_of_ble_eq_true rfl) ?_
      refine eg_if_ne 30 dX12_off_24 rfl (fun c14 => ?_) (fun c14 => ?_)
      · replace hF := eg_it c14 hF
        refine eg_ldc (v := (-1000000 : Int32)) dX12_off_27 ew_739 ?_
        exact eg_iretE dX12_off_29 hF
      · replace hF := eg_if c14 hF
        refine eg_iload_n (i := 3) 3 dX12_off_30 rfl rfl ?_
        refine eg_if_lt 64 dX12_off_31 rfl (fun c15 => ?_) (fun c15 => ?_)
        · replace hF := eg_it c15 hF
          refine eg_ldc (v := (-1000000 : Int32)) dX12_off_64 ew_739 ?_
          exact eg_iretE dX12_off_66 hF
        · replace hF := eg_if c15 hF
          refine eg_iload_n (i := 3) 3 dX12_off_34 rfl rfl ?_
          refine eg_aload_n (i := 0) 0 dX12_off_35 rfl rfl ?_
          replace hF := eg_bind hF; obtain ⟨p16, e17, hF⟩ := hF
          refine eg_getR dX12_off_36 e17 (Nat.le_of_ble_eq_true rfl) (Nat.le_of_ble_eq_true rfl) rfl ew_359 ?_
          refine eg_iload_n (i := 1) 1 dX12_off_39 rfl rfl ?_
          refine eg_iconst (v := (3 : Int32)) dX12_off_40 (by decide) ?_
          replace hF := eg_bind hF; obtain ⟨⟨v19, h18⟩, e20, hF⟩ := hF
          refine eg_callV (c := 7) (n := 2) [.int l1, .int (3 : Int32)] dX12_off_41 (mX7_ofPerson e20) rfl (fX7_ofPerson_O e20) (Nat.le_of_ble_eq_true rfl) rfl ew_740 ew_741 ew_742 ew_104 ew_743 hy_X7_ofPerson rfl (Nat.le_of_ble_eq_true rfl) (Nat.le_of_ble_eq_true rfl) (Nat.le_of_ble_eq_true rfl) ?_
          refine eg_ic_gt 64 dX12_off_44 rfl (fun c21 => ?_) (fun c21 => ?_)
          · replace hF := eg_it c21 hF
            refine eg_ldc (v := (-1000000 : Int32)) dX12_off_64 ew_739 ?_
            exact eg_iretE dX12_off_66 hF
          · replace hF := eg_if c21 hF
            refine eg_iload (i := 5) 5 dX12_off_47 rfl ?_
            refine eg_aload_n (i := 0) 0 dX12_off_49 rfl rfl ?_
            replace hF := eg_bind hF; obtain ⟨p22, e23, hF⟩ := hF
            refine eg_getR dX12_off_50 e23 (Nat.le_of_ble_eq_true rfl) (Nat.le_of_ble_eq_true rfl) rfl ew_359 ?_
            refine eg_iload_n (i := 1) 1 dX12_off_53 rfl rfl ?_
            refine eg_iconst (v := (0 : Int32)) dX12_off_54 (by decide) ?_
            replace hF := eg_bind hF; obtain ⟨⟨v25, h24⟩, e26, hF⟩ := hF
            refine eg_callV (c := 7) (n := 2) [.int l1, .int (0 : Int32)] dX12_off_55 (mX7_ofPerson e26) rfl (fX7_ofPerson_O e26) (Nat.le_of_ble_eq_true rfl) rfl ew_740 ew_741 ew_742 ew_104 ew_743 hy_X7_ofPerson rfl (Nat.le_of_ble_eq_true rfl) (Nat.le_of_ble_eq_true rfl) (Nat.le_of_ble_eq_true rfl) ?_
            replace hF := eg_bind hF; obtain ⟨⟨v28, h27⟩, e29, hF⟩ := hF
            refine eg_callS (n := 2) [.int l5, .int v25] dX12_off_58 (mX12_isWithin e29) rfl ew_736 ew_737 ew_100 ew_738 hy_X12_isWithin.2 rfl (Nat.le_of_ble_eq_true rfl) (Nat.le_of_ble_eq_true rfl) (Nat.le_of_ble_eq_true rfl) ?_
            refine eg_if_ne 67 dX12_off_61 rfl (fun c30 => ?_) (fun c30 => ?_)
            · replace hF := eg_it c30 hF
              refine eg_ldc (v := (-1000000 : Int32)) dX12_off_64 ew_739 ?_
              exact eg_iretE dX12_off_66 hF
            · replace hF := eg_if c30 hF
              refine eg_iload (i := 4) 4 dX12_off_67 rfl ?_
              refine eg_iload (i := 5) 5 dX12_off_69 rfl ?_
              refine eg_iadd dX12_off_71 ?_
              refine eg_aload_n (i := 0) 0 dX12_off_72 rfl rfl ?_
              replace hF := eg_bind hF; obtain ⟨p31, e32, hF⟩ := hF
              refine eg_getR dX12_off_73 e32 (Nat.le_of_ble_eq_true rfl) (Nat.le_of_ble_eq_true rfl) rfl ew_359 ?_
              refine eg_iload_n (i := 2) 2 dX12_off_76 rfl rfl ?_
              refine eg_aload_n (i := 0) 0 dX12_off_77 rfl rfl ?_
              replace hF := eg_bind hF; obtain ⟨p33, e34, hF⟩ := hF
              refine eg_getR dX12_off_78 e34 (Nat.le_of_ble_eq_true rfl) (Nat.le_of_ble_eq_true rfl) rfl ew_359 ?_
              refine eg_iconst (v := (0 : Int32)) dX12_off_81 (by decide) ?_
              replace hF := eg_bind hF; obtain ⟨⟨v36, h35⟩, e37, hF⟩ := hF
              refine eg_callV (c := 7) (n := 1) [.int (0 : Int32)] dX12_off_82 (mX7_told e37) rfl (fX7_told_O e37) (Nat.le_of_ble_eq_true rfl) rfl ew_717 ew_718 ew_719 ew_104 ew_720 hy_X7_told rfl (Nat.le_of_ble_eq_true rfl) (Nat.le_of_ble_eq_true rfl) (Nat.le_of_ble_eq_true rfl) ?_
              replace hF := eg_bind hF; obtain ⟨⟨v39, h38⟩, e40, hF⟩ := hF
              refine eg_callV (c := 7) (n := 2) [.int l2, .int v36] dX12_off_85 (mX7_blows e40) rfl (fX7_blows_O e40) (Nat.le_of_ble_eq_true rfl) rfl ew_744 ew_745 ew_746 ew_104 ew_747 hy_X7_blows rfl (Nat.le_of_ble_eq_true rfl) (Nat.le_of_ble_eq_true rfl) (Nat.le_of_ble_eq_true rfl) ?_
              refine eg_iload_n (i := 3) 3 dX12_off_88 rfl rfl ?_
              refine eg_imul dX12_off_89 ?_
              refine eg_iconst (v := (4 : Int32)) dX12_off_90 (by decide) ?_
              refine eg_idiv dX12_off_91 (by decide) ?_
              refine eg_iadd dX12_off_92 ?_
              exact eg_iretE dX12_off_93 hF
theorem dX12_isYards_0 : decode cX12_isYards 0 = .ok (.iload_n 0, 1) := by decide +kernel
theorem dX12_isYards_1 : decode cX12_isYards 1 = .ok (.iconst 1, 1) := by decide +kernel
theorem dX12_isYards_2 : decode cX12_isYards 2 = .ok (.if_icmp .lt 13, 3) := by decide +kernel
theorem dX12_isYards_5 : decode cX12_isYards 5 = .ok (.iload_n 0, 1) := by decide +kernel
theorem dX12_isYards_6 : decode cX12_isYards 6 = .ok (.bipush 60, 2) := by decide +kernel
theorem dX12_isYards_8 : decode cX12_isYards 8 = .ok (.if_icmp .gt 7, 3) := by decide +kernel
theorem dX12_isYards_11 : decode cX12_isYards 11 = .ok (.iconst 1, 1) := by decide +kernel
theorem dX12_isYards_12 : decode cX12_isYards 12 = .ok (.goto 4, 3) := by decide +kernel
theorem dX12_isYards_15 : decode cX12_isYards 15 = .ok (.iconst 0, 1) := by decide +kernel
theorem dX12_isYards_16 : decode cX12_isYards 16 = .ok (.ireturn, 1) := by decide +kernel
def fX12_isYards (h : eg_H) (l0 : Int32) : Option (Int32 × eg_H) :=
  if l0 < (1 : Int32) then
    (some ((0 : Int32), h))
  else
    if (60 : Int32) < l0 then
      (some ((0 : Int32), h))
    else
      some ((1 : Int32), h)
set_option maxRecDepth 20000 in
theorem mX12_isYards {h : eg_H} {l0 : Int32} {rE : Int32} {hE : eg_H} (hF : fX12_isYards h l0 = some (rE, hE)) : eg_Met yX12_isYards cX12_isYards 1 (some .boolean) 1 [.int l0] h (some (.int rE)) hE := by
  refine eg_enter rfl (Nat.le_of_ble_eq_true rfl) ?_
  show eg_AW (RX12, cX12_isYards, 1, 1, none, "isYards", (some .boolean)) (eg_Zm (some (.int rE)) hE h) (eg_nc hE) (eg_ns hE) h 0 [(0, .int l0)] [] h
  refine eg_iload_n (i := 0) 0 dX12_isYards_0 rfl rfl ?_
  refine eg_iconst (v := (1 : Int32)) dX12_isYards_1 (by decide) ?_
  refine eg_ic_lt 15 dX12_isYards_2 rfl (fun c1 => ?_) (fun c1 => ?_)
  · replace hF := eg_it c1 hF
    refine eg_iconst (v := (0 : Int32)) dX12_isYards_15 (by decide) ?_
    exact eg_zretE dX12_isYards_16 (Or.inl rfl) hF
  · replace hF := eg_if c1 hF
    refine eg_iload_n (i := 0) 0 dX12_isYards_5 rfl rfl ?_
    refine eg_bipush (v := (60 : Int32)) dX12_isYards_6 (by decide) ?_
    refine eg_ic_gt 15 dX12_isYards_8 rfl (fun c2 => ?_) (fun c2 => ?_)
    · replace hF := eg_it c2 hF
      refine eg_iconst (v := (0 : Int32)) dX12_isYards_15 (by decide) ?_
      exact eg_zretE dX12_isYards_16 (Or.inl rfl) hF
    · replace hF := eg_if c2 hF
      refine eg_iconst (v := (1 : Int32)) dX12_isYards_11 (by decide) ?_
      refine eg_goto 16 dX12_isYards_12 rfl ?_
      exact eg_zretE dX12_isYards_16 (Or.inr rfl) hF
theorem dX12_force_0 : decode cX12_force 0 = .ok (.aload_n 0, 1) := by decide +kernel
theorem dX12_force_1 : decode cX12_force 1 = .ok (.getfield 35, 3) := by decide +kernel
theorem dX12_force_4 : decode cX12_force 4 = .ok (.iload_n 1, 1) := by decide +kernel
theorem dX12_force_5 : decode cX12_force 5 = .ok (.invokevirtual 167, 3) := by decide +kernel
theorem dX12_force_8 : decode cX12_force 8 = .ok (.ifCond .eq 17, 3) := by decide +kernel
theorem dX12_force_11 : decode cX12_force 11 = .ok (.iload_n 2, 1) := by decide +kernel
theorem dX12_force_12 : decode cX12_force 12 = .ok (.invokestatic 216, 3) := by decide +kernel
theorem dX12_force_15 : decode cX12_force 15 = .ok (.ifCond .eq 10, 3) := by decide +kernel
theorem dX12_force_18 : decode cX12_force 18 = .ok (.iload_n 3, 1) := by decide +kernel
theorem dX12_force_19 : decode cX12_force 19 = .ok (.invokestatic 227, 3) := by decide +kernel
theorem dX12_force_22 : decode cX12_force 22 = .ok (.ifCond .ne 6, 3) := by decide +kernel
theorem dX12_force_25 : decode cX12_force 25 = .ok (.ldc 223, 2) := by decide +kernel
theorem dX12_force_27 : decode cX12_force 27 = .ok (.ireturn, 1) := by decide +kernel
theorem dX12_force_28 : decode cX12_force 28 = .ok (.iload 4, 2) := by decide +kernel
theorem dX12_force_30 : decode cX12_force 30 = .ok (.ifCond .lt 20, 3) := by decide +kernel
theorem dX12_force_33 : decode cX12_force 33 = .ok (.iload 4, 2) := by decide +kernel
theorem dX12_force_35 : decode cX12_force 35 = .ok (.bipush 9, 2) := by decide +kernel
theorem dX12_force_37 : decode cX12_force 37 = .ok (.if_icmp .gt 13, 3) := by decide +kernel
theorem dX12_force_40 : decode cX12_force 40 = .ok (.iload 5, 2) := by decide +kernel
theorem dX12_force_42 : decode cX12_force 42 = .ok (.bipush 99, 2) := by decide +kernel
theorem dX12_force_44 : decode cX12_force 44 = .ok (.invokestatic 219, 3) := by decide +kernel
theorem dX12_force_47 : decode cX12_force 47 = .ok (.ifCond .ne 6, 3) := by decide +kernel
theorem dX12_force_50 : decode cX12_force 50 = .ok (.ldc 223, 2) := by decide +kernel
theorem dX12_force_52 : decode cX12_force 52 = .ok (.ireturn, 1) := by decide +kernel
theorem dX12_force_53 : decode cX12_force 53 = .ok (.aload_n 0, 1) := by decide +kernel
theorem dX12_force_54 : decode cX12_force 54 = .ok (.getfield 92, 3) := by decide +kernel
theorem dX12_force_57 : decode cX12_force 57 = .ok (.iload_n 1, 1) := by decide +kernel
theorem dX12_force_58 : decode cX12_force 58 = .ok (.iload_n 2, 1) := by decide +kernel
theorem dX12_force_59 : decode cX12_force 59 = .ok (.invokevirtual 230, 3) := by decide +kernel
theorem dX12_force_62 : decode cX12_force 62 = .ok (.aload_n 0, 1) := by decide +kernel
theorem dX12_force_63 : decode cX12_force 63 = .ok (.getfield 92, 3) := by decide +kernel
theorem dX12_force_66 : decode cX12_force 66 = .ok (.aload_n 0, 1) := by decide +kernel
theorem dX12_force_67 : decode cX12_force 67 = .ok (.aload_n 0, 1) := by decide +kernel
theorem dX12_force_68 : decode cX12_force 68 = .ok (.getfield 49, 3) := by decide +kernel
theorem dX12_force_71 : decode cX12_force 71 = .ok (.invokevirtual 192, 3) := by decide +kernel
theorem dX12_force_74 : decode cX12_force 74 = .ok (.iload_n 3, 1) := by decide +kernel
theorem dX12_force_75 : decode cX12_force 75 = .ok (.iload 4, 2) := by decide +kernel
theorem dX12_force_77 : decode cX12_force 77 = .ok (.iload 5, 2) := by decide +kernel
theorem dX12_force_79 : decode cX12_force 79 = .ok (.invokevirtual 233, 3) := by decide +kernel
theorem dX12_force_82 : decode cX12_force 82 = .ok (.ireturn, 1) := by decide +kernel
def fX12_force (h : eg_H) (l0 : Nat) (l1 : Int32) (l2 : Int32) (l3 : Int32) (l4 : Int32) (l5 : Int32) : Option (Int32 × eg_H) :=
  if eg_isO h 12 l0 then (
    (eg_gR h 12 3 l0).bind fun p1 =>
    (fX7_isPerson h p1 l1).bind fun ⟨v4, h3⟩ =>
    if v4 = 0 then
      (some ((-1000000 : Int32), h3))
    else
      (fX12_isEnd h3 l2).bind fun ⟨v8, h7⟩ =>
      if v8 = 0 then
        (some ((-1000000 : Int32), h7))
      else
        (fX12_isYards h7 l3).bind fun ⟨v12, h11⟩ =>
        if v12 = 0 then
          (some ((-1000000 : Int32), h11))
        else
          if l4 < 0 then
            (some ((-1000000 : Int32), h11))
          else
            if (9 : Int32) < l4 then
              (some ((-1000000 : Int32), h11))
            else
              (fX12_isWithin h11 l5 (99 : Int32)).bind fun ⟨v18, h17⟩ =>
              if v18 = 0 then
                (some ((-1000000 : Int32), h17))
              else
                (eg_gR h17 12 15 l0).bind fun p21 =>
                (fX11_receive h17 p21 l1 l2).bind fun h23 =>
                (eg_gR h23 12 15 l0).bind fun p25 =>
                (eg_gI h23 12 6 l0).bind fun v27 =>
                (fX12_lawAt h23 l0 v27).bind fun ⟨q30, h29⟩ =>
                (fX11_forceBy h29 p25 q30 l3 l4 l5).bind fun ⟨v33, h32⟩ =>
                some (v33, h32)) else none
theorem fX12_force_O {h : eg_H} {l0 : Nat} {l1 : Int32} {l2 : Int32} {l3 : Int32} {l4 : Int32} {l5 : Int32} {rE : Int32} {hE : eg_H} (hF : fX12_force h l0 l1 l2 l3 l4 l5 = some (rE, hE)) : eg_isO h 12 l0 := (eg_ifn hF).1
set_option maxRecDepth 20000 in
theorem mX12_force {h : eg_H} {l0 : Nat} {l1 : Int32} {l2 : Int32} {l3 : Int32} {l4 : Int32} {l5 : Int32} {rE : Int32} {hE : eg_H} (hF : fX12_force h l0 l1 l2 l3 l4 l5 = some (rE, hE)) : eg_Met yX12_force cX12_force 6 (some .int) 3 [.ref l0, .int l1, .int l2, .int l3, .int l4, .int l5] h (some (.int rE)) hE := by
  refine eg_enter rfl (Nat.le_of_ble_eq_true rfl) ?_
  show eg_AW (RX12, cX12_force, 6, 3, none, "force", (some .int)) (eg_Zm (some (.int rE)) hE h) (eg_nc hE) (eg_ns hE) h 0 [(0, .ref l0), (1, .int l1), (2, .int l2), (3, .int l3), (4, .int l4), (5, .int l5)] [] h
  replace hF := (eg_ifn hF).2
  refine eg_aload_n (i := 0) 0 dX12_force_0 rfl rfl ?_
  replace hF := eg_bind hF; obtain ⟨p1, e2, hF⟩ := hF
  refine eg_getR dX12_force_1 e2 (Nat.le_of_ble_eq_true rfl) (Nat.le_of_ble_eq_true rfl) rfl ew_359 ?_
  refine eg_iload_n (i := 1) 1 dX12_force_4 rfl rfl ?_
  replace hF := eg_bind hF; obtain ⟨⟨v4, h3⟩, e5, hF⟩ := hF
  refine eg_callV (c := 7) (n := 1) [.int l1] dX12_force_5 (mX7_isPerson e5) rfl (fX7_isPerson_O e5) (Nat.le_of_ble_eq_true rfl) rfl ew_729 ew_730 ew_731 ew_104 ew_732 hy_X7_isPerson rfl (Nat.le_of_ble_eq_true rfl) (Nat.le_of_ble_eq_true rfl) (Nat.le_of_ble_eq_true rfl) ?_
  refine eg_if_eq 25 dX12_force_8 rfl (fun c6 => ?_) (fun c6 => ?_)
  · replace hF := eg_it c6 hF
    refine eg_ldc (v := (-1000000 : Int32)) dX12_force_25 ew_739 ?_
    exact eg_iretE dX12_force_27 hF
  · replace hF := eg_if c6 hF
    refine eg_iload_n (i := 2) 2 dX12_force_11 rfl rfl ?_
    replace hF := eg_bind hF; obtain ⟨⟨v8, h7⟩, e9, hF⟩ := hF
    refine eg_callS (n := 1) [.int l2] dX12_force_12 (mX12_isEnd e9) rfl ew_733 ew_734 ew_100 ew_735 hy_X12_isEnd.2 rfl (Nat.le_of_ble_eq_true rfl) (Nat.le_of_ble_eq_true rfl) (Nat.le_of_ble_eq_true rfl) ?_
    refine eg_if_eq 25 dX12_force_15 rfl (fun c10 => ?_) (fun c10 => ?_)
    · replace hF := eg_it c10 hF
      refine eg_ldc (v := (-1000000 : Int32)) dX12_force_25 ew_739 ?_
      exact eg_iretE dX12_force_27 hF
    · replace hF := eg_if c10 hF
      refine eg_iload_n (i := 3) 3 dX12_force_18 rfl rfl ?_
      replace hF := eg_bind hF; obtain ⟨⟨v12, h11⟩, e13, hF⟩ := hF
      refine eg_callS (n := 1) [.int l3] dX12_force_19 (mX12_isYards e13) rfl ew_752 ew_753 ew_100 ew_754 hy_X12_isYards.2 rfl (Nat.le_of_ble_eq_true rfl) (Nat.le_of_ble_eq_true rfl) (Nat.le_of_ble_eq_true rfl) ?_
      refine eg_if_ne 28 dX12_force_22 rfl (fun c14 => ?_) (fun c14 => ?_)
      · replace hF := eg_it c14 hF
        refine eg_ldc (v := (-1000000 : Int32)) dX12_force_25 ew_739 ?_
        exact eg_iretE dX12_force_27 hF
      · replace hF := eg_if c14 hF
        refine eg_iload (i := 4) 4 dX12_force_28 rfl ?_
        refine eg_if_lt 50 dX12_force_30 rfl (fun c15 => ?_) (fun c15 => ?_)
        · replace hF := eg_it c15 hF
          refine eg_ldc (v := (-1000000 : Int32)) dX12_force_50 ew_739 ?_
          exact eg_iretE dX12_force_52 hF
        · replace hF := eg_if c15 hF
          refine eg_iload (i := 4) 4 dX12_force_33 rfl ?_
          refine eg_bipush (v := (9 : Int32)) dX12_force_35 (by decide) ?_
          refine eg_ic_gt 50 dX12_force_37 rfl (fun c16 => ?_) (fun c16 => ?_)
          · replace hF := eg_it c16 hF
            refine eg_ldc (v := (-1000000 : Int32)) dX12_force_50 ew_739 ?_
            exact eg_iretE dX12_force_52 hF
          · replace hF := eg_if c16 hF
            refine eg_iload (i := 5) 5 dX12_force_40 rfl ?_
            refine eg_bipush (v := (99 : Int32)) dX12_force_42 (by decide) ?_
            replace hF := eg_bind hF; obtain ⟨⟨v18, h17⟩, e19, hF⟩ := hF
            refine eg_callS (n := 2) [.int l5, .int (99 : Int32)] dX12_force_44 (mX12_isWithin e19) rfl ew_736 ew_737 ew_100 ew_738 hy_X12_isWithin.2 rfl (Nat.le_of_ble_eq_true rfl) (Nat.le_of_ble_eq_true rfl) (Nat.le_of_ble_eq_true rfl) ?_
            refine eg_if_ne 53 dX12_force_47 rfl (fun c20 => ?_) (fun c20 => ?_)
            · replace hF := eg_it c20 hF
              refine eg_ldc (v := (-1000000 : Int32)) dX12_force_50 ew_739 ?_
              exact eg_iretE dX12_force_52 hF
            · replace hF := eg_if c20 hF
              refine eg_aload_n (i := 0) 0 dX12_force_53 rfl rfl ?_
              replace hF := eg_bind hF; obtain ⟨p21, e22, hF⟩ := hF
              refine eg_getR dX12_force_54 e22 (Nat.le_of_ble_eq_true rfl) (Nat.le_of_ble_eq_true rfl) rfl ew_371 ?_
              refine eg_iload_n (i := 1) 1 dX12_force_57 rfl rfl ?_
              refine eg_iload_n (i := 2) 2 dX12_force_58 rfl rfl ?_
              replace hF := eg_bind hF; obtain ⟨h23, e24, hF⟩ := hF
              refine eg_callV (c := 11) (n := 2) [.int l1, .int l2] dX12_force_59 (mX11_receive e24) rfl (fX11_receive_O e24) (Nat.le_of_ble_eq_true rfl) rfl ew_755 ew_756 ew_757 ew_106 ew_758 hy_X11_receive rfl (Nat.le_of_ble_eq_true rfl) (Nat.le_of_ble_eq_true rfl) (Nat.le_of_ble_eq_true rfl) ?_
              refine eg_aload_n (i := 0) 0 dX12_force_62 rfl rfl ?_
              replace hF := eg_bind hF; obtain ⟨p25, e26, hF⟩ := hF
              refine eg_getR dX12_force_63 e26 (Nat.le_of_ble_eq_true rfl) (Nat.le_of_ble_eq_true rfl) rfl ew_371 ?_
              refine eg_aload_n (i := 0) 0 dX12_force_66 rfl rfl ?_
              refine eg_aload_n (i := 0) 0 dX12_force_67 rfl rfl ?_
              replace hF := eg_bind hF; obtain ⟨v27, e28, hF⟩ := hF
              refine eg_getI dX12_force_68 e28 (Nat.le_of_ble_eq_true rfl) (Nat.le_of_ble_eq_true rfl) rfl ew_362 ?_
              replace hF := eg_bind hF; obtain ⟨⟨q30, h29⟩, e31, hF⟩ := hF
              refine eg_callV (c := 12) (n := 1) [.int v27] dX12_force_71 (mX12_lawAt e31) rfl (fX12_lawAt_O e31) (Nat.le_of_ble_eq_true rfl) rfl ew_617 ew_619 ew_20 ew_100 ew_620 hy_X12_lawAt rfl (Nat.le_of_ble_eq_true rfl) (Nat.le_of_ble_eq_true rfl) (Nat.le_of_ble_eq_true rfl) ?_
              refine eg_iload_n (i := 3) 3 dX12_force_74 rfl rfl ?_
              refine eg_iload (i := 4) 4 dX12_force_75 rfl ?_
              refine eg_iload (i := 5) 5 dX12_force_77 rfl ?_
              replace hF := eg_bind hF; obtain ⟨⟨v33, h32⟩, e34, hF⟩ := hF
              refine eg_callV (c := 11) (n := 4) [va_rf q30, .int l3, .int l4, .int l5] dX12_force_79 (mX11_forceBy e34) rfl (fX11_forceBy_O e34) (Nat.le_of_ble_eq_true rfl) rfl ew_762 ew_763 ew_764 ew_106 ew_765 hy_X11_forceBy rfl (Nat.le_of_ble_eq_true rfl) (Nat.le_of_ble_eq_true rfl) (Nat.le_of_ble_eq_true rfl) ?_
              exact eg_iretE dX12_force_82 hF
theorem dX12_isCourse_0 : decode cX12_isCourse 0 = .ok (.aload_n 0, 1) := by decide +kernel
theorem dX12_isCourse_1 : decode cX12_isCourse 1 = .ok (.getfield 35, 3) := by decide +kernel
theorem dX12_isCourse_4 : decode cX12_isCourse 4 = .ok (.iload_n 1, 1) := by decide +kernel
theorem dX12_isCourse_5 : decode cX12_isCourse 5 = .ok (.invokevirtual 284, 3) := by decide +kernel
theorem dX12_isCourse_8 : decode cX12_isCourse 8 = .ok (.ifCond .eq 18, 3) := by decide +kernel
theorem dX12_isCourse_11 : decode cX12_isCourse 11 = .ok (.aload_n 0, 1) := by decide +kernel
theorem dX12_isCourse_12 : decode cX12_isCourse 12 = .ok (.getfield 35, 3) := by decide +kernel
theorem dX12_isCourse_15 : decode cX12_isCourse 15 = .ok (.iload_n 2, 1) := by decide +kernel
theorem dX12_isCourse_16 : decode cX12_isCourse 16 = .ok (.invokevirtual 301, 3) := by decide +kernel
theorem dX12_isCourse_19 : decode cX12_isCourse 19 = .ok (.ifCond .eq 7, 3) := by decide +kernel
theorem dX12_isCourse_22 : decode cX12_isCourse 22 = .ok (.iconst 1, 1) := by decide +kernel
theorem dX12_isCourse_23 : decode cX12_isCourse 23 = .ok (.goto 4, 3) := by decide +kernel
theorem dX12_isCourse_26 : decode cX12_isCourse 26 = .ok (.iconst 0, 1) := by decide +kernel
theorem dX12_isCourse_27 : decode cX12_isCourse 27 = .ok (.ireturn, 1) := by decide +kernel
def fX12_isCourse (h : eg_H) (l0 : Nat) (l1 : Int32) (l2 : Int32) : Option (Int32 × eg_H) :=
  if eg_isO h 12 l0 then (
    (eg_gR h 12 3 l0).bind fun p1 =>
    (fX7_isPair h p1 l1).bind fun ⟨v4, h3⟩ =>
    if v4 = 0 then
      (some ((0 : Int32), h3))
    else
      (eg_gR h3 12 3 l0).bind fun p7 =>
      (fX7_isEggEnd h3 p7 l2).bind fun ⟨v10, h9⟩ =>
      if v10 = 0 then
        (some ((0 : Int32), h9))
      else
        some ((1 : Int32), h9)) else none
theorem fX12_isCourse_O {h : eg_H} {l0 : Nat} {l1 : Int32} {l2 : Int32} {rE : Int32} {hE : eg_H} (hF : fX12_isCourse h l0 l1 l2 = some (rE, hE)) : eg_isO h 12 l0 := (eg_ifn hF).1
set_option maxRecDepth 20000 in
theorem mX12_isCourse {h : eg_H} {l0 : Nat} {l1 : Int32} {l2 : Int32} {rE : Int32} {hE : eg_H} (hF : fX12_isCourse h l0 l1 l2 = some (rE, hE)) : eg_Met yX12_isCourse cX12_isCourse 3 (some .boolean) 2 [.ref l0, .int l1, .int l2] h (some (.int rE)) hE := by
  refine eg_enter rfl (Nat.le_of_ble_eq_true rfl) ?_
  show eg_AW (RX12, cX12_isCourse, 3, 2, none, "isCourse", (some .boolean)) (eg_Zm (some (.int rE)) hE h) (eg_nc hE) (eg_ns hE) h 0 [(0, .ref l0), (1, .int l1), (2, .int l2)] [] h
  replace hF := (eg_ifn hF).2
  refine eg_aload_n (i := 0) 0 dX12_isCourse_0 rfl rfl ?_
  replace hF := eg_bind hF; obtain ⟨p1, e2, hF⟩ := hF
  refine eg_getR dX12_isCourse_1 e2 (Nat.le_of_ble_eq_true rfl) (Nat.le_of_ble_eq_true rfl) rfl ew_359 ?_
  refine eg_iload_n (i := 1) 1 dX12_isCourse_4 rfl rfl ?_
  replace hF := eg_bind hF; obtain ⟨⟨v4, h3⟩, e5, hF⟩ := hF
  refine eg_callV (c := 7) (n := 1) [.int l1] dX12_isCourse_5 (mX7_isPair e5) rfl (fX7_isPair_O e5) (Nat.le_of_ble_eq_true rfl) rfl ew_790 ew_791 ew_792 ew_104 ew_793 hy_X7_isPair rfl (Nat.le_of_ble_eq_true rfl) (Nat.le_of_ble_eq_true rfl) (Nat.le_of_ble_eq_true rfl) ?_
  refine eg_if_eq 26 dX12_isCourse_8 rfl (fun c6 => ?_) (fun c6 => ?_)
  · replace hF := eg_it c6 hF
    refine eg_iconst (v := (0 : Int32)) dX12_isCourse_26 (by decide) ?_
    exact eg_zretE dX12_isCourse_27 (Or.inl rfl) hF
  · replace hF := eg_if c6 hF
    refine eg_aload_n (i := 0) 0 dX12_isCourse_11 rfl rfl ?_
    replace hF := eg_bind hF; obtain ⟨p7, e8, hF⟩ := hF
    refine eg_getR dX12_isCourse_12 e8 (Nat.le_of_ble_eq_true rfl) (Nat.le_of_ble_eq_true rfl) rfl ew_359 ?_
    refine eg_iload_n (i := 2) 2 dX12_isCourse_15 rfl rfl ?_
    replace hF := eg_bind hF; obtain ⟨⟨v10, h9⟩, e11, hF⟩ := hF
    refine eg_callV (c := 7) (n := 1) [.int l2] dX12_isCourse_16 (mX7_isEggEnd e11) rfl (fX7_isEggEnd_O e11) (Nat.le_of_ble_eq_true rfl) rfl ew_794 ew_795 ew_796 ew_104 ew_797 hy_X7_isEggEnd rfl (Nat.le_of_ble_eq_true rfl) (Nat.le_of_ble_eq_true rfl) (Nat.le_of_ble_eq_true rfl) ?_
    refine eg_if_eq 26 dX12_isCourse_19 rfl (fun c12 => ?_) (fun c12 => ?_)
    · replace hF := eg_it c12 hF
      refine eg_iconst (v := (0 : Int32)) dX12_isCourse_26 (by decide) ?_
      exact eg_zretE dX12_isCourse_27 (Or.inl rfl) hF
    · replace hF := eg_if c12 hF
      refine eg_iconst (v := (1 : Int32)) dX12_isCourse_22 (by decide) ?_
      refine eg_goto 27 dX12_isCourse_23 rfl ?_
      exact eg_zretE dX12_isCourse_27 (Or.inr rfl) hF
theorem dX12_isThrow_0 : decode cX12_isThrow 0 = .ok (.aload_n 0, 1) := by decide +kernel
theorem dX12_isThrow_1 : decode cX12_isThrow 1 = .ok (.iload_n 1, 1) := by decide +kernel
theorem dX12_isThrow_2 : decode cX12_isThrow 2 = .ok (.iload_n 2, 1) := by decide +kernel
theorem dX12_isThrow_3 : decode cX12_isThrow 3 = .ok (.invokevirtual 269, 3) := by decide +kernel
theorem dX12_isThrow_6 : decode cX12_isThrow 6 = .ok (.ifCond .eq 14, 3) := by decide +kernel
theorem dX12_isThrow_9 : decode cX12_isThrow 9 = .ok (.iload_n 3, 1) := by decide +kernel
theorem dX12_isThrow_10 : decode cX12_isThrow 10 = .ok (.invokestatic 227, 3) := by decide +kernel
theorem dX12_isThrow_13 : decode cX12_isThrow 13 = .ok (.ifCond .eq 7, 3) := by decide +kernel
theorem dX12_isThrow_16 : decode cX12_isThrow 16 = .ok (.iconst 1, 1) := by decide +kernel
theorem dX12_isThrow_17 : decode cX12_isThrow 17 = .ok (.goto 4, 3) := by decide +kernel
theorem dX12_isThrow_20 : decode cX12_isThrow 20 = .ok (.iconst 0, 1) := by decide +kernel
theorem dX12_isThrow_21 : decode cX12_isThrow 21 = .ok (.ireturn, 1) := by decide +kernel
def fX12_isThrow (h : eg_H) (l0 : Nat) (l1 : Int32) (l2 : Int32) (l3 : Int32) : Option (Int32 × eg_H) :=
  if eg_isO h 12 l0 then (
    (fX12_isCourse h l0 l1 l2).bind fun ⟨v2, h1⟩ =>
    if v2 = 0 then
      (some ((0 : Int32), h1))
    else
      (fX12_isYards h1 l3).bind fun ⟨v6, h5⟩ =>
      if v6 = 0 then
        (some ((0 : Int32), h5))
      else
        some ((1 : Int32), h5)) else none
theorem fX12_isThrow_O {h : eg_H} {l0 : Nat} {l1 : Int32} {l2 : Int32} {l3 : Int32} {rE : Int32} {hE : eg_H} (hF : fX12_isThrow h l0 l1 l2 l3 = some (rE, hE)) : eg_isO h 12 l0 := (eg_ifn hF).1
set_option maxRecDepth 20000 in
theorem mX12_isThrow {h : eg_H} {l0 : Nat} {l1 : Int32} {l2 : Int32} {l3 : Int32} {rE : Int32} {hE : eg_H} (hF : fX12_isThrow h l0 l1 l2 l3 = some (rE, hE)) : eg_Met yX12_isThrow cX12_isThrow 4 (some .boolean) 3 [.ref l0, .int l1, .int l2, .int l3] h (some (.int rE)) hE := by
  refine eg_enter rfl (Nat.le_of_ble_eq_true rfl) ?_
  show eg_AW (RX12, cX12_isThrow, 4, 3, none, "isThrow", (some .boolean)) (eg_Zm (some (.int rE)) hE h) (eg_nc hE) (eg_ns hE) h 0 [(0, .ref l0), (1, .int l1), (2, .int l2), (3, .int l3)] [] h
  replace hF := (eg_ifn hF).2
  refine eg_aload_n (i := 0) 0 dX12_isThrow_0 rfl rfl ?_
  refine eg_iload_n (i := 1) 1 dX12_isThrow_1 rfl rfl ?_
  refine eg_iload_n (i := 2) 2 dX12_isThrow_2 rfl rfl ?_
  replace hF := eg_bind hF; obtain ⟨⟨v2, h1⟩, e3, hF⟩ := hF
  refine eg_callV (c := 12) (n := 2) [.int l1, .int l2] dX12_isThrow_3 (mX12_isCourse e3) rfl (fX12_isCourse_O e3) (Nat.le_of_ble_eq_true rfl) rfl ew_786 ew_788 ew_24 ew_100 ew_789 hy_X12_isCourse rfl (Nat.le_of_ble_eq_true rfl) (Nat.le_of_ble_eq_true rfl) (Nat.le_of_ble_eq_true rfl) ?_
  refine eg_if_eq 20 dX12_isThrow_6 rfl (fun c4 => ?_) (fun c4 => ?_)
  · replace hF := eg_it c4 hF
    refine eg_iconst (v := (0 : Int32)) dX12_isThrow_20 (by decide) ?_
    exact eg_zretE dX12_isThrow_21 (Or.inl rfl) hF
  · replace hF := eg_if c4 hF
    refine eg_iload_n (i := 3) 3 dX12_isThrow_9 rfl rfl ?_
    replace hF := eg_bind hF; obtain ⟨⟨v6, h5⟩, e7, hF⟩ := hF
    refine eg_callS (n := 1) [.int l3] dX12_isThrow_10 (mX12_isYards e7) rfl ew_752 ew_753 ew_100 ew_754 hy_X12_isYards.2 rfl (Nat.le_of_ble_eq_true rfl) (Nat.le_of_ble_eq_true rfl) (Nat.le_of_ble_eq_true rfl) ?_
    refine eg_if_eq 20 dX12_isThrow_13 rfl (fun c8 => ?_) (fun c8 => ?_)
    · replace hF := eg_it c8 hF
      refine eg_iconst (v := (0 : Int32)) dX12_isThrow_20 (by decide) ?_
      exact eg_zretE dX12_isThrow_21 (Or.inl rfl) hF
    · replace hF := eg_if c8 hF
      refine eg_iconst (v := (1 : Int32)) dX12_isThrow_16 (by decide) ?_
      refine eg_goto 21 dX12_isThrow_17 rfl ?_
      exact eg_zretE dX12_isThrow_21 (Or.inr rfl) hF
