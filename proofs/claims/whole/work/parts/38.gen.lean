theorem dX13_isPerson_0 : decode cX13_isPerson 0 = .ok (.iload_n 1, 1) := by decide +kernel
theorem dX13_isPerson_1 : decode cX13_isPerson 1 = .ok (.ifCond .lt 15, 3) := by decide +kernel
theorem dX13_isPerson_4 : decode cX13_isPerson 4 = .ok (.iload_n 1, 1) := by decide +kernel
theorem dX13_isPerson_5 : decode cX13_isPerson 5 = .ok (.aload_n 0, 1) := by decide +kernel
theorem dX13_isPerson_6 : decode cX13_isPerson 6 = .ok (.getfield 335, 3) := by decide +kernel
theorem dX13_isPerson_9 : decode cX13_isPerson 9 = .ok (.if_icmp .ge 7, 3) := by decide +kernel
theorem dX13_isPerson_12 : decode cX13_isPerson 12 = .ok (.iconst 1, 1) := by decide +kernel
theorem dX13_isPerson_13 : decode cX13_isPerson 13 = .ok (.goto 4, 3) := by decide +kernel
theorem dX13_isPerson_16 : decode cX13_isPerson 16 = .ok (.iconst 0, 1) := by decide +kernel
theorem dX13_isPerson_17 : decode cX13_isPerson 17 = .ok (.ireturn, 1) := by decide +kernel
def fX13_isPerson (h : eg_H) (l0 : Nat) (l1 : Int32) : Option (Int32 × eg_H) :=
  if eg_isO h 13 l0 then (
    if l1 < 0 then
      (some ((0 : Int32), h))
    else
      (eg_gI h 13 24 l0).bind fun v2 =>
      if v2 ≤ l1 then
        (some ((0 : Int32), h))
      else
        some ((1 : Int32), h)) else none
theorem fX13_isPerson_O {h : eg_H} {l0 : Nat} {l1 : Int32} {rE : Int32} {hE : eg_H} (hF : fX13_isPerson h l0 l1 = some (rE, hE)) : eg_isO h 13 l0 := (eg_ifn hF).1
set_option maxRecDepth 20000 in
theorem mX13_isPerson {h : eg_H} {l0 : Nat} {l1 : Int32} {rE : Int32} {hE : eg_H} (hF : fX13_isPerson h l0 l1 = some (rE, hE)) : eg_Met yX13_isPerson cX13_isPerson 2 (some .boolean) 1 [.ref l0, .int l1] h (some (.int rE)) hE := by
  refine eg_enter rfl (Nat.le_of_ble_eq_true rfl) ?_
  show eg_AW (RX13, cX13_isPerson, 2, 1, none, "isPerson", (some .boolean)) (eg_Zm (some (.int rE)) hE h) (eg_nc hE) (eg_ns hE) h 0 [(0, .ref l0), (1, .int l1)] [] h
  replace hF := (eg_ifn hF).2
  refine eg_iload_n (i := 1) 1 dX13_isPerson_0 rfl rfl ?_
  refine eg_if_lt 16 dX13_isPerson_1 rfl (fun c1 => ?_) (fun c1 => ?_)
  · replace hF := eg_it c1 hF
    refine eg_iconst (v := (0 : Int32)) dX13_isPerson_16 (by decide) ?_
    exact eg_zretE dX13_isPerson_17 (Or.inl rfl) hF
  · replace hF := eg_if c1 hF
    refine eg_iload_n (i := 1) 1 dX13_isPerson_4 rfl rfl ?_
    refine eg_aload_n (i := 0) 0 dX13_isPerson_5 rfl rfl ?_
    replace hF := eg_bind hF; obtain ⟨v2, e3, hF⟩ := hF
    refine eg_getI dX13_isPerson_6 e3 (Nat.le_of_ble_eq_true rfl) (Nat.le_of_ble_eq_true rfl) rfl ew_1458 ?_
    refine eg_ic_ge 16 dX13_isPerson_9 rfl (fun c4 => ?_) (fun c4 => ?_)
    · replace hF := eg_it c4 hF
      refine eg_iconst (v := (0 : Int32)) dX13_isPerson_16 (by decide) ?_
      exact eg_zretE dX13_isPerson_17 (Or.inl rfl) hF
    · replace hF := eg_if c4 hF
      refine eg_iconst (v := (1 : Int32)) dX13_isPerson_12 (by decide) ?_
      refine eg_goto 17 dX13_isPerson_13 rfl ?_
      exact eg_zretE dX13_isPerson_17 (Or.inr rfl) hF
theorem dX13_isEgg_0 : decode cX13_isEgg 0 = .ok (.iload_n 1, 1) := by decide +kernel
theorem dX13_isEgg_1 : decode cX13_isEgg 1 = .ok (.ifCond .lt 15, 3) := by decide +kernel
theorem dX13_isEgg_4 : decode cX13_isEgg 4 = .ok (.iload_n 1, 1) := by decide +kernel
theorem dX13_isEgg_5 : decode cX13_isEgg 5 = .ok (.aload_n 0, 1) := by decide +kernel
theorem dX13_isEgg_6 : decode cX13_isEgg 6 = .ok (.getfield 338, 3) := by decide +kernel
theorem dX13_isEgg_9 : decode cX13_isEgg 9 = .ok (.if_icmp .ge 7, 3) := by decide +kernel
theorem dX13_isEgg_12 : decode cX13_isEgg 12 = .ok (.iconst 1, 1) := by decide +kernel
theorem dX13_isEgg_13 : decode cX13_isEgg 13 = .ok (.goto 4, 3) := by decide +kernel
theorem dX13_isEgg_16 : decode cX13_isEgg 16 = .ok (.iconst 0, 1) := by decide +kernel
theorem dX13_isEgg_17 : decode cX13_isEgg 17 = .ok (.ireturn, 1) := by decide +kernel
def fX13_isEgg (h : eg_H) (l0 : Nat) (l1 : Int32) : Option (Int32 × eg_H) :=
  if eg_isO h 13 l0 then (
    if l1 < 0 then
      (some ((0 : Int32), h))
    else
      (eg_gI h 13 26 l0).bind fun v2 =>
      if v2 ≤ l1 then
        (some ((0 : Int32), h))
      else
        some ((1 : Int32), h)) else none
theorem fX13_isEgg_O {h : eg_H} {l0 : Nat} {l1 : Int32} {rE : Int32} {hE : eg_H} (hF : fX13_isEgg h l0 l1 = some (rE, hE)) : eg_isO h 13 l0 := (eg_ifn hF).1
set_option maxRecDepth 20000 in
theorem mX13_isEgg {h : eg_H} {l0 : Nat} {l1 : Int32} {rE : Int32} {hE : eg_H} (hF : fX13_isEgg h l0 l1 = some (rE, hE)) : eg_Met yX13_isEgg cX13_isEgg 2 (some .boolean) 1 [.ref l0, .int l1] h (some (.int rE)) hE := by
  refine eg_enter rfl (Nat.le_of_ble_eq_true rfl) ?_
  show eg_AW (RX13, cX13_isEgg, 2, 1, none, "isEgg", (some .boolean)) (eg_Zm (some (.int rE)) hE h) (eg_nc hE) (eg_ns hE) h 0 [(0, .ref l0), (1, .int l1)] [] h
  replace hF := (eg_ifn hF).2
  refine eg_iload_n (i := 1) 1 dX13_isEgg_0 rfl rfl ?_
  refine eg_if_lt 16 dX13_isEgg_1 rfl (fun c1 => ?_) (fun c1 => ?_)
  · replace hF := eg_it c1 hF
    refine eg_iconst (v := (0 : Int32)) dX13_isEgg_16 (by decide) ?_
    exact eg_zretE dX13_isEgg_17 (Or.inl rfl) hF
  · replace hF := eg_if c1 hF
    refine eg_iload_n (i := 1) 1 dX13_isEgg_4 rfl rfl ?_
    refine eg_aload_n (i := 0) 0 dX13_isEgg_5 rfl rfl ?_
    replace hF := eg_bind hF; obtain ⟨v2, e3, hF⟩ := hF
    refine eg_getI dX13_isEgg_6 e3 (Nat.le_of_ble_eq_true rfl) (Nat.le_of_ble_eq_true rfl) rfl ew_1460 ?_
    refine eg_ic_ge 16 dX13_isEgg_9 rfl (fun c4 => ?_) (fun c4 => ?_)
    · replace hF := eg_it c4 hF
      refine eg_iconst (v := (0 : Int32)) dX13_isEgg_16 (by decide) ?_
      exact eg_zretE dX13_isEgg_17 (Or.inl rfl) hF
    · replace hF := eg_if c4 hF
      refine eg_iconst (v := (1 : Int32)) dX13_isEgg_12 (by decide) ?_
      refine eg_goto 17 dX13_isEgg_13 rfl ?_
      exact eg_zretE dX13_isEgg_17 (Or.inr rfl) hF
theorem dX13_isTwo_0 : decode cX13_isTwo 0 = .ok (.iload_n 1, 1) := by decide +kernel
theorem dX13_isTwo_1 : decode cX13_isTwo 1 = .ok (.ifCond .lt 40, 3) := by decide +kernel
theorem dX13_isTwo_4 : decode cX13_isTwo 4 = .ok (.aload_n 0, 1) := by decide +kernel
theorem dX13_isTwo_5 : decode cX13_isTwo 5 = .ok (.iload_n 1, 1) := by decide +kernel
theorem dX13_isTwo_6 : decode cX13_isTwo 6 = .ok (.bipush 10, 2) := by decide +kernel
theorem dX13_isTwo_8 : decode cX13_isTwo 8 = .ok (.idiv, 1) := by decide +kernel
theorem dX13_isTwo_9 : decode cX13_isTwo 9 = .ok (.invokevirtual 353, 3) := by decide +kernel
theorem dX13_isTwo_12 : decode cX13_isTwo 12 = .ok (.ifCond .eq 29, 3) := by decide +kernel
theorem dX13_isTwo_15 : decode cX13_isTwo 15 = .ok (.aload_n 0, 1) := by decide +kernel
theorem dX13_isTwo_16 : decode cX13_isTwo 16 = .ok (.iload_n 1, 1) := by decide +kernel
theorem dX13_isTwo_17 : decode cX13_isTwo 17 = .ok (.bipush 10, 2) := by decide +kernel
theorem dX13_isTwo_19 : decode cX13_isTwo 19 = .ok (.irem, 1) := by decide +kernel
theorem dX13_isTwo_20 : decode cX13_isTwo 20 = .ok (.invokevirtual 353, 3) := by decide +kernel
theorem dX13_isTwo_23 : decode cX13_isTwo 23 = .ok (.ifCond .eq 18, 3) := by decide +kernel
theorem dX13_isTwo_26 : decode cX13_isTwo 26 = .ok (.iload_n 1, 1) := by decide +kernel
theorem dX13_isTwo_27 : decode cX13_isTwo 27 = .ok (.bipush 10, 2) := by decide +kernel
theorem dX13_isTwo_29 : decode cX13_isTwo 29 = .ok (.idiv, 1) := by decide +kernel
theorem dX13_isTwo_30 : decode cX13_isTwo 30 = .ok (.iload_n 1, 1) := by decide +kernel
theorem dX13_isTwo_31 : decode cX13_isTwo 31 = .ok (.bipush 10, 2) := by decide +kernel
theorem dX13_isTwo_33 : decode cX13_isTwo 33 = .ok (.irem, 1) := by decide +kernel
theorem dX13_isTwo_34 : decode cX13_isTwo 34 = .ok (.if_icmp .eq 7, 3) := by decide +kernel
theorem dX13_isTwo_37 : decode cX13_isTwo 37 = .ok (.iconst 1, 1) := by decide +kernel
theorem dX13_isTwo_38 : decode cX13_isTwo 38 = .ok (.goto 4, 3) := by decide +kernel
theorem dX13_isTwo_41 : decode cX13_isTwo 41 = .ok (.iconst 0, 1) := by decide +kernel
theorem dX13_isTwo_42 : decode cX13_isTwo 42 = .ok (.ireturn, 1) := by decide +kernel
def fX13_isTwo (h : eg_H) (l0 : Nat) (l1 : Int32) : Option (Int32 × eg_H) :=
  if eg_isO h 13 l0 then (
    if l1 < 0 then
      (some ((0 : Int32), h))
    else
      (fX13_isPerson h l0 (l1 / (10 : Int32))).bind fun ⟨v3, h2⟩ =>
      if v3 = 0 then
        (some ((0 : Int32), h2))
      else
        (fX13_isPerson h2 l0 (l1 % (10 : Int32))).bind fun ⟨v7, h6⟩ =>
        if v7 = 0 then
          (some ((0 : Int32), h6))
        else
          if (l1 / (10 : Int32)) = (l1 % (10 : Int32)) then
            (some ((0 : Int32), h6))
          else
            some ((1 : Int32), h6)) else none
theorem fX13_isTwo_O {h : eg_H} {l0 : Nat} {l1 : Int32} {rE : Int32} {hE : eg_H} (hF : fX13_isTwo h l0 l1 = some (rE, hE)) : eg_isO h 13 l0 := (eg_ifn hF).1
set_option maxRecDepth 20000 in
theorem mX13_isTwo {h : eg_H} {l0 : Nat} {l1 : Int32} {rE : Int32} {hE : eg_H} (hF : fX13_isTwo h l0 l1 = some (rE, hE)) : eg_Met yX13_isTwo cX13_isTwo 2 (some .boolean) 2 [.ref l0, .int l1] h (some (.int rE)) hE := by
  refine eg_enter rfl (Nat.le_of_ble_eq_true rfl) ?_
  show eg_AW (RX13, cX13_isTwo, 2, 2, none, "isTwo", (some .boolean)) (eg_Zm (some (.int rE)) hE h) (eg_nc hE) (eg_ns hE) h 0 [(0, .ref l0), (1, .int l1)] [] h
  replace hF := (eg_ifn hF).2
  refine eg_iload_n (i := 1) 1 dX13_isTwo_0 rfl rfl ?_
  refine eg_if_lt 41 dX13_isTwo_1 rfl (fun c1 => ?_) (fun c1 => ?_)
  · replace hF := eg_it c1 hF
    refine eg_iconst (v := (0 : Int32)) dX13_isTwo_41 (by decide) ?_
    exact eg_zretE dX13_isTwo_42 (Or.inl rfl) hF
  · replace hF := eg_if c1 hF
    refine eg_aload_n (i := 0) 0 dX13_isTwo_4 rfl rfl ?_
    refine eg_iload_n (i := 1) 1 dX13_isTwo_5 rfl rfl ?_
    refine eg_bipush (v := (10 : Int32)) dX13_isTwo_6 (by decide) ?_
    refine eg_idiv dX13_isTwo_8 (by decide) ?_
    replace hF := eg_bind hF; obtain ⟨⟨v3, h2⟩, e4, hF⟩ := hF
    refine eg_callV (c := 13) (n := 1) [.int (l1 / (10 : Int32))] dX13_isTwo_9 (mX13_isPerson e4) rfl (fX13_isPerson_O e4) (Nat.le_of_ble_eq_true rfl) rfl ew_1872 ew_1874 ew_71 ew_110 ew_1875 hy_X13_isPerson rfl (Nat.le_of_ble_eq_true rfl) (Nat.le_of_ble_eq_true rfl) (Nat.le_of_ble_eq_true rfl) ?_
    refine eg_if_eq 41 dX13_isTwo_12 rfl (fun c5 => ?_) (fun c5 => ?_)
    · replace hF := eg_it c5 hF
      refine eg_iconst (v := (0 : Int32)) dX13_isTwo_41 (by decide) ?_
      exact eg_zretE dX13_isTwo_42 (Or.inl rfl) hF
    · replace hF := eg_if c5 hF
      refine eg_aload_n (i := 0) 0 dX13_isTwo_15 rfl rfl ?_
      refine eg_iload_n (i := 1) 1 dX13_isTwo_16 rfl rfl ?_
      refine eg_bipush (v := (10 : Int32)) dX13_isTwo_17 (by decide) ?_
      refine eg_irem dX13_isTwo_19 (by decide) ?_
      replace hF := eg_bind hF; obtain ⟨⟨v7, h6⟩, e8, hF⟩ := hF
      refine eg_callV (c := 13) (n := 1) [.int (l1 % (10 : Int32))] dX13_isTwo_20 (mX13_isPerson e8) rfl (fX13_isPerson_O e8) (Nat.le_of_ble_eq_true rfl) rfl ew_1872 ew_1874 ew_71 ew_110 ew_1875 hy_X13_isPerson rfl (Nat.le_of_ble_eq_true rfl) (Nat.le_of_ble_eq_true rfl) (Nat.le_of_ble_eq_true rfl) ?_
      refine eg_if_eq 41 dX13_isTwo_23 rfl (fun c9 => ?_) (fun c9 => ?_)
      · replace hF := eg_it c9 hF
        refine eg_iconst (v := (0 : Int32)) dX13_isTwo_41 (by decide) ?_
        exact eg_zretE dX13_isTwo_42 (Or.inl rfl) hF
      · replace hF := eg_if c9 hF
        refine eg_iload_n (i := 1) 1 dX13_isTwo_26 rfl rfl ?_
        refine eg_bipush (v := (10 : Int32)) dX13_isTwo_27 (by decide) ?_
        refine eg_idiv dX13_isTwo_29 (by decide) ?_
        refine eg_iload_n (i := 1) 1 dX13_isTwo_30 rfl rfl ?_
        refine eg_bipush (v := (10 : Int32)) dX13_isTwo_31 (by decide) ?_
        refine eg_irem dX13_isTwo_33 (by decide) ?_
        refine eg_ic_eq 41 dX13_isTwo_34 rfl (fun c10 => ?_) (fun c10 => ?_)
        · replace hF := eg_it c10 hF
          refine eg_iconst (v := (0 : Int32)) dX13_isTwo_41 (by decide) ?_
          exact eg_zretE dX13_isTwo_42 (Or.inl rfl) hF
        · replace hF := eg_if c10 hF
          refine eg_iconst (v := (1 : Int32)) dX13_isTwo_37 (by decide) ?_
          refine eg_goto 42 dX13_isTwo_38 rfl ?_
          exact eg_zretE dX13_isTwo_42 (Or.inr rfl) hF
theorem dX13_isFrom_0 : decode cX13_isFrom 0 = .ok (.iload_n 1, 1) := by decide +kernel
theorem dX13_isFrom_1 : decode cX13_isFrom 1 = .ok (.ifCond .lt 26, 3) := by decide +kernel
theorem dX13_isFrom_4 : decode cX13_isFrom 4 = .ok (.aload_n 0, 1) := by decide +kernel
theorem dX13_isFrom_5 : decode cX13_isFrom 5 = .ok (.iload_n 1, 1) := by decide +kernel
theorem dX13_isFrom_6 : decode cX13_isFrom 6 = .ok (.bipush 10, 2) := by decide +kernel
theorem dX13_isFrom_8 : decode cX13_isFrom 8 = .ok (.idiv, 1) := by decide +kernel
theorem dX13_isFrom_9 : decode cX13_isFrom 9 = .ok (.invokevirtual 356, 3) := by decide +kernel
theorem dX13_isFrom_12 : decode cX13_isFrom 12 = .ok (.ifCond .eq 15, 3) := by decide +kernel
theorem dX13_isFrom_15 : decode cX13_isFrom 15 = .ok (.iload_n 1, 1) := by decide +kernel
theorem dX13_isFrom_16 : decode cX13_isFrom 16 = .ok (.bipush 10, 2) := by decide +kernel
theorem dX13_isFrom_18 : decode cX13_isFrom 18 = .ok (.irem, 1) := by decide +kernel
theorem dX13_isFrom_19 : decode cX13_isFrom 19 = .ok (.iconst 2, 1) := by decide +kernel
theorem dX13_isFrom_20 : decode cX13_isFrom 20 = .ok (.if_icmp .ge 7, 3) := by decide +kernel
theorem dX13_isFrom_23 : decode cX13_isFrom 23 = .ok (.iconst 1, 1) := by decide +kernel
theorem dX13_isFrom_24 : decode cX13_isFrom 24 = .ok (.goto 4, 3) := by decide +kernel
theorem dX13_isFrom_27 : decode cX13_isFrom 27 = .ok (.iconst 0, 1) := by decide +kernel
theorem dX13_isFrom_28 : decode cX13_isFrom 28 = .ok (.ireturn, 1) := by decide +kernel
def fX13_isFrom (h : eg_H) (l0 : Nat) (l1 : Int32) : Option (Int32 × eg_H) :=
  if eg_isO h 13 l0 then (
    if l1 < 0 then
      (some ((0 : Int32), h))
    else
      (fX13_isEgg h l0 (l1 / (10 : Int32))).bind fun ⟨v3, h2⟩ =>
      if v3 = 0 then
        (some ((0 : Int32), h2))
      else
        if (2 : Int32) ≤ (l1 % (10 : Int32)) then
          (some ((0 : Int32), h2))
        else
          some ((1 : Int32), h2)) else none
theorem fX13_isFrom_O {h : eg_H} {l0 : Nat} {l1 : Int32} {rE : Int32} {hE : eg_H} (hF : fX13_isFrom h l0 l1 = some (rE, hE)) : eg_isO h 13 l0 := (eg_ifn hF).1
set_option maxRecDepth 20000 in
theorem mX13_isFrom {h : eg_H} {l0 : Nat} {l1 : Int32} {rE : Int32} {hE : eg_H} (hF : fX13_isFrom h l0 l1 = some (rE, hE)) : eg_Met yX13_isFrom cX13_isFrom 2 (some .boolean) 2 [.ref l0, .int l1] h (some (.int rE)) hE := by
  refine eg_enter rfl (Nat.le_of_ble_eq_true rfl) ?_
  show eg_AW (RX13, cX13_isFrom, 2, 2, none, "isFrom", (some .boolean)) (eg_Zm (some (.int rE)) hE h) (eg_nc hE) (eg_ns hE) h 0 [(0, .ref l0), (1, .int l1)] [] h
  replace hF := (eg_ifn hF).2
  refine eg_iload_n (i := 1) 1 dX13_isFrom_0 rfl rfl ?_
  refine eg_if_lt 27 dX13_isFrom_1 rfl (fun c1 => ?_) (fun c1 => ?_)
  · replace hF := eg_it c1 hF
    refine eg_iconst (v := (0 : Int32)) dX13_isFrom_27 (by decide) ?_
    exact eg_zretE dX13_isFrom_28 (Or.inl rfl) hF
  · replace hF := eg_if c1 hF
    refine eg_aload_n (i := 0) 0 dX13_isFrom_4 rfl rfl ?_
    refine eg_iload_n (i := 1) 1 dX13_isFrom_5 rfl rfl ?_
    refine eg_bipush (v := (10 : Int32)) dX13_isFrom_6 (by decide) ?_
    refine eg_idiv dX13_isFrom_8 (by decide) ?_
    replace hF := eg_bind hF; obtain ⟨⟨v3, h2⟩, e4, hF⟩ := hF
    refine eg_callV (c := 13) (n := 1) [.int (l1 / (10 : Int32))] dX13_isFrom_9 (mX13_isEgg e4) rfl (fX13_isEgg_O e4) (Nat.le_of_ble_eq_true rfl) rfl ew_1881 ew_1883 ew_72 ew_110 ew_1884 hy_X13_isEgg rfl (Nat.le_of_ble_eq_true rfl) (Nat.le_of_ble_eq_true rfl) (Nat.le_of_ble_eq_true rfl) ?_
    refine eg_if_eq 27 dX13_isFrom_12 rfl (fun c5 => ?_) (fun c5 => ?_)
    · replace hF := eg_it c5 hF
      refine eg_iconst (v := (0 : Int32)) dX13_isFrom_27 (by decide) ?_
      exact eg_zretE dX13_isFrom_28 (Or.inl rfl) hF
    · replace hF := eg_if c5 hF
      refine eg_iload_n (i := 1) 1 dX13_isFrom_15 rfl rfl ?_
      refine eg_bipush (v := (10 : Int32)) dX13_isFrom_16 (by decide) ?_
      refine eg_irem dX13_isFrom_18 (by decide) ?_
      refine eg_iconst (v := (2 : Int32)) dX13_isFrom_19 (by decide) ?_
      refine eg_ic_ge 27 dX13_isFrom_20 rfl (fun c6 => ?_) (fun c6 => ?_)
      · replace hF := eg_it c6 hF
        refine eg_iconst (v := (0 : Int32)) dX13_isFrom_27 (by decide) ?_
        exact eg_zretE dX13_isFrom_28 (Or.inl rfl) hF
      · replace hF := eg_if c6 hF
        refine eg_iconst (v := (1 : Int32)) dX13_isFrom_23 (by decide) ?_
        refine eg_goto 28 dX13_isFrom_24 rfl ?_
        exact eg_zretE dX13_isFrom_28 (Or.inr rfl) hF
theorem dX13_person_0 : decode cX13_person 0 = .ok (.aload_n 0, 1) := by decide +kernel
theorem dX13_person_1 : decode cX13_person 1 = .ok (.aload_n 0, 1) := by decide +kernel
theorem dX13_person_2 : decode cX13_person 2 = .ok (.iload_n 1, 1) := by decide +kernel
theorem dX13_person_3 : decode cX13_person 3 = .ok (.invokevirtual 353, 3) := by decide +kernel
theorem dX13_person_6 : decode cX13_person 6 = .ok (.ifCond .eq 19, 3) := by decide +kernel
theorem dX13_person_9 : decode cX13_person 9 = .ok (.iload_n 2, 1) := by decide +kernel
theorem dX13_person_10 : decode cX13_person 10 = .ok (.i2l, 1) := by decide +kernel
theorem dX13_person_11 : decode cX13_person 11 = .ok (.lconst 0, 1) := by decide +kernel
theorem dX13_person_12 : decode cX13_person 12 = .ok (.ldc2_w 359, 3) := by decide +kernel
theorem dX13_person_15 : decode cX13_person 15 = .ok (.invokestatic 269, 3) := by decide +kernel
theorem dX13_person_18 : decode cX13_person 18 = .ok (.ifCond .eq 7, 3) := by decide +kernel
theorem dX13_person_21 : decode cX13_person 21 = .ok (.iconst 0, 1) := by decide +kernel
theorem dX13_person_22 : decode cX13_person 22 = .ok (.goto 4, 3) := by decide +kernel
theorem dX13_person_25 : decode cX13_person 25 = .ok (.iconst 1, 1) := by decide +kernel
theorem dX13_person_26 : decode cX13_person 26 = .ok (.putfield 148, 3) := by decide +kernel
theorem dX13_person_29 : decode cX13_person 29 = .ok (.aload_n 0, 1) := by decide +kernel
theorem dX13_person_30 : decode cX13_person 30 = .ok (.getfield 148, 3) := by decide +kernel
theorem dX13_person_33 : decode cX13_person 33 = .ok (.ifCond .le 7, 3) := by decide +kernel
theorem dX13_person_36 : decode cX13_person 36 = .ok (.iconst 0, 1) := by decide +kernel
theorem dX13_person_37 : decode cX13_person 37 = .ok (.goto 13, 3) := by decide +kernel
theorem dX13_person_40 : decode cX13_person 40 = .ok (.aload_n 0, 1) := by decide +kernel
theorem dX13_person_41 : decode cX13_person 41 = .ok (.getfield 43, 3) := by decide +kernel
theorem dX13_person_44 : decode cX13_person 44 = .ok (.iconst 4, 1) := by decide +kernel
theorem dX13_person_45 : decode cX13_person 45 = .ok (.iload_n 1, 1) := by decide +kernel
theorem dX13_person_46 : decode cX13_person 46 = .ok (.imul, 1) := by decide +kernel
theorem dX13_person_47 : decode cX13_person 47 = .ok (.iload_n 2, 1) := by decide +kernel
theorem dX13_person_48 : decode cX13_person 48 = .ok (.iadd, 1) := by decide +kernel
theorem dX13_person_49 : decode cX13_person 49 = .ok (.iaload, 1) := by decide +kernel
theorem dX13_person_50 : decode cX13_person 50 = .ok (.ireturn, 1) := by decide +kernel
def fX13_person_j26 (h : eg_H) (l0 : Nat) (l1 : Int32) (l2 : Int32) (s0 : Nat) (s1 : Int32) : Option (Int32 × eg_H) :=
  (eg_pI h 13 0 s0 s1).bind fun h1 =>
  (eg_gI h1 13 0 l0).bind fun v3 =>
  if v3 ≤ 0 then
    ((eg_gR h1 13 20 l0).bind fun p6 =>
    (eg_aI h1 100 p6 (((4 : Int32) * l1) + l2)).bind fun v8 =>
    some (v8, h1))
  else
    some ((0 : Int32), h1)
set_option maxRecDepth 20000 in
theorem fX13_person_j26_ok {h0 : eg_H} (h : eg_H) (l0 : Nat) (l1 : Int32) (l2 : Int32) (s0 : Nat) (s1 : Int32) {rE : Int32} {hE : eg_H} (hF : fX13_person_j26 h l0 l1 l2 s0 s1 = some (rE, hE)) : eg_AW (RX13, cX13_person, 3, 2, none, "person", (some .int)) (eg_Zm (some (.int rE)) hE h0) (eg_nc hE) (eg_ns hE) h0 26 [(0, .ref l0), (1, .int l1), (2, .int l2)] [.int s1, .ref s0] h := by
  replace hF := eg_bind hF; obtain ⟨h1, e2, hF⟩ := hF
  refine eg_putI dX13_person_26 e2 (Nat.le_of_ble_eq_true rfl) (Nat.le_of_ble_eq_true rfl) rfl ew_1434 (Or.inl rfl) ?_
  refine eg_aload_n (i := 0) 0 dX13_person_29 rfl rfl ?_
  replace hF := eg_bind hF; obtain ⟨v3, e4, hF⟩ := hF
  refine eg_getI dX13_person_30 e4 (Nat.le_of_ble_eq_true rfl) (Nat.le_of_ble_eq_true rfl) rfl ew_1434 ?_
  refine eg_if_le 40 dX13_person_33 rfl (fun c5 => ?_) (fun c5 => ?_)
  · replace hF := eg_it c5 hF
    refine eg_aload_n (i := 0) 0 dX13_person_40 rfl rfl ?_
    replace hF := eg_bind hF; obtain ⟨p6, e7, hF⟩ := hF
    refine eg_getR dX13_person_41 e7 (Nat.le_of_ble_eq_true rfl) (Nat.le_of_ble_eq_true rfl) rfl ew_1454 ?_
    refine eg_iconst (v := (4 : Int32)) dX13_person_44 (by decide) ?_
    refine eg_iload_n (i := 1) 1 dX13_person_45 rfl rfl ?_
    refine eg_imul dX13_person_46 ?_
    refine eg_iload_n (i := 2) 2 dX13_person_47 rfl rfl ?_
    refine eg_iadd dX13_person_48 ?_
    replace hF := eg_bind hF; obtain ⟨v8, e9, hF⟩ := hF
    refine eg_iald dX13_person_49 e9 ?_
    exact eg_iretE dX13_person_50 hF
  · replace hF := eg_if c5 hF
    refine eg_iconst (v := (0 : Int32)) dX13_person_36 (by decide) ?_
    refine eg_goto 50 dX13_person_37 rfl ?_
    exact eg_iretE dX13_person_50 hF
def fX13_person_j25 (h : eg_H) (l0 : Nat) (l1 : Int32) (l2 : Int32) (s0 : Nat) : Option (Int32 × eg_H) :=
  fX13_person_j26 h l0 l1 l2 s0 (1 : Int32)
set_option maxRecDepth 20000 in
theorem fX13_person_j25_ok {h0 : eg_H} (h : eg_H) (l0 : Nat) (l1 : Int32) (l2 : Int32) (s0 : Nat) {rE : Int32} {hE : eg_H} (hF : fX13_person_j25 h l0 l1 l2 s0 = some (rE, hE)) : eg_AW (RX13, cX13_person, 3, 2, none, "person", (some .int)) (eg_Zm (some (.int rE)) hE h0) (eg_nc hE) (eg_ns hE) h0 25 [(0, .ref l0), (1, .int l1), (2, .int l2)] [.ref s0] h := by
  refine eg_iconst (v := (1 : Int32)) dX13_person_25 (by decide) ?_
  exact (fX13_person_j26_ok h l0 l1 l2 s0 (1 : Int32) hF)
def fX13_person (h : eg_H) (l0 : Nat) (l1 : Int32) (l2 : Int32) : Option (Int32 × eg_H) :=
  if eg_isO h 13 l0 then (
    (fX13_isPerson h l0 l1).bind fun ⟨v2, h1⟩ =>
    if v2 = 0 then
      (fX13_person_j25 h1 l0 l1 l2 l0)
    else
      (fX13_isIn h1 l2.toInt64 (0 : Int64) (3 : Int64)).bind fun ⟨v6, h5⟩ =>
      if v6 = 0 then
        (fX13_person_j25 h5 l0 l1 l2 l0)
      else
        fX13_person_j26 h5 l0 l1 l2 l0 (0 : Int32)) else none
theorem fX13_person_O {h : eg_H} {l0 : Nat} {l1 : Int32} {l2 : Int32} {rE : Int32} {hE : eg_H} (hF : fX13_person h l0 l1 l2 = some (rE, hE)) : eg_isO h 13 l0 := (eg_ifn hF).1
set_option maxRecDepth 20000 in
theorem mX13_person {h : eg_H} {l0 : Nat} {l1 : Int32} {l2 : Int32} {rE : Int32} {hE : eg_H} (hF : fX13_person h l0 l1 l2 = some (rE, hE)) : eg_Met yX13_person cX13_person 3 (some .int) 2 [.ref l0, .int l1, .int l2] h (some (.int rE)) hE := by
  refine eg_enter rfl (Nat.le_of_ble_eq_true rfl) ?_
  show eg_AW (RX13, cX13_person, 3, 2, none, "person", (some .int)) (eg_Zm (some (.int rE)) hE h) (eg_nc hE) (eg_ns hE) h 0 [(0, .ref l0), (1, .int l1), (2, .int l2)] [] h
  replace hF := (eg_ifn hF).2
  refine eg_aload_n (i := 0) 0 dX13_person_0 rfl rfl ?_
  refine eg_aload_n (i := 0) 0 dX13_person_1 rfl rfl ?_
  refine eg_iload_n (i := 1) 1 dX13_person_2 rfl rfl ?_
  replace hF := eg_bind hF; obtain ⟨⟨v2, h1⟩, e3, hF⟩ := hF
  refine eg_callV (c := 13) (n := 1) [.int l1] dX13_person_3 (mX13_isPerson e3) rfl (fX13_isPerson_O e3) (Nat.le_of_ble_eq_true rfl) rfl ew_1872 ew_1874 ew_71 ew_110 ew_1875 hy_X13_isPerson rfl (Nat.le_of_ble_eq_true rfl) (Nat.le_of_ble_eq_true rfl) (Nat.le_of_ble_eq_true rfl) ?_
  refine eg_if_eq 25 dX13_person_6 rfl (fun c4 => ?_) (fun c4 => ?_)
  · replace hF := eg_it c4 hF
    exact (fX13_person_j25_ok h1 l0 l1 l2 l0 hF)
  · replace hF := eg_if c4 hF
    refine eg_iload_n (i := 2) 2 dX13_person_9 rfl rfl ?_
    refine eg_i2l dX13_person_10 ?_
    refine eg_lconst (v := (0 : Int64)) dX13_person_11 (by decide) ?_
    refine eg_ldc2 (v := (3 : Int64)) dX13_person_12 ew_1876 ?_
    replace hF := eg_bind hF; obtain ⟨⟨v6, h5⟩, e7, hF⟩ := hF
    refine eg_callS (n := 3) [.long l2.toInt64, .long (0 : Int64), .long (3 : Int64)] dX13_person_15 (mX13_isIn e7) rfl ew_1697 ew_1698 ew_110 ew_1699 hy_X13_isIn.2 rfl (Nat.le_of_ble_eq_true rfl) (Nat.le_of_ble_eq_true rfl) (Nat.le_of_ble_eq_true rfl) ?_
    refine eg_if_eq 25 dX13_person_18 rfl (fun c8 => ?_) (fun c8 => ?_)
    · replace hF := eg_it c8 hF
      exact (fX13_person_j25_ok h5 l0 l1 l2 l0 hF)
    · replace hF := eg_if c8 hF
      refine eg_iconst (v := (0 : Int32)) dX13_person_21 (by decide) ?_
      refine eg_goto 26 dX13_person_22 rfl ?_
      exact (fX13_person_j26_ok h5 l0 l1 l2 l0 (0 : Int32) hF)
theorem dX13_egg_0 : decode cX13_egg 0 = .ok (.aload_n 0, 1) := by decide +kernel
theorem dX13_egg_1 : decode cX13_egg 1 = .ok (.iconst 0, 1) := by decide +kernel
theorem dX13_egg_2 : decode cX13_egg 2 = .ok (.putfield 148, 3) := by decide +kernel
theorem dX13_egg_5 : decode cX13_egg 5 = .ok (.aload_n 0, 1) := by decide +kernel
theorem dX13_egg_6 : decode cX13_egg 6 = .ok (.iload_n 1, 1) := by decide +kernel
theorem dX13_egg_7 : decode cX13_egg 7 = .ok (.invokevirtual 356, 3) := by decide +kernel
theorem dX13_egg_10 : decode cX13_egg 10 = .ok (.ifCond .eq 26, 3) := by decide +kernel
theorem dX13_egg_13 : decode cX13_egg 13 = .ok (.iload_n 2, 1) := by decide +kernel
theorem dX13_egg_14 : decode cX13_egg 14 = .ok (.i2l, 1) := by decide +kernel
theorem dX13_egg_15 : decode cX13_egg 15 = .ok (.lconst 0, 1) := by decide +kernel
theorem dX13_egg_16 : decode cX13_egg 16 = .ok (.lconst 1, 1) := by decide +kernel
theorem dX13_egg_17 : decode cX13_egg 17 = .ok (.invokestatic 269, 3) := by decide +kernel
theorem dX13_egg_20 : decode cX13_egg 20 = .ok (.ifCond .eq 16, 3) := by decide +kernel
theorem dX13_egg_23 : decode cX13_egg 23 = .ok (.aload_n 0, 1) := by decide +kernel
theorem dX13_egg_24 : decode cX13_egg 24 = .ok (.getfield 49, 3) := by decide +kernel
theorem dX13_egg_27 : decode cX13_egg 27 = .ok (.iconst 2, 1) := by decide +kernel
theorem dX13_egg_28 : decode cX13_egg 28 = .ok (.iload_n 1, 1) := by decide +kernel
theorem dX13_egg_29 : decode cX13_egg 29 = .ok (.imul, 1) := by decide +kernel
theorem dX13_egg_30 : decode cX13_egg 30 = .ok (.iload_n 2, 1) := by decide +kernel
theorem dX13_egg_31 : decode cX13_egg 31 = .ok (.iadd, 1) := by decide +kernel
theorem dX13_egg_32 : decode cX13_egg 32 = .ok (.iaload, 1) := by decide +kernel
theorem dX13_egg_33 : decode cX13_egg 33 = .ok (.goto 4, 3) := by decide +kernel
theorem dX13_egg_36 : decode cX13_egg 36 = .ok (.iconst (-1), 1) := by decide +kernel
theorem dX13_egg_37 : decode cX13_egg 37 = .ok (.ireturn, 1) := by decide +kernel
def fX13_egg (h : eg_H) (l0 : Nat) (l1 : Int32) (l2 : Int32) : Option (Int32 × eg_H) :=
  if eg_isO h 13 l0 then (
    (eg_pI h 13 0 l0 (0 : Int32)).bind fun h1 =>
    (fX13_isEgg h1 l0 l1).bind fun ⟨v4, h3⟩ =>
    if v4 = 0 then
      (some ((-1 : Int32), h3))
    else
      (fX13_isIn h3 l2.toInt64 (0 : Int64) (1 : Int64)).bind fun ⟨v8, h7⟩ =>
      if v8 = 0 then
        (some ((-1 : Int32), h7))
      else
        (eg_gR h7 13 22 l0).bind fun p11 =>
        (eg_aI h7 100 p11 (((2 : Int32) * l1) + l2)).bind fun v13 =>
        some (v13, h7)) else none
theorem fX13_egg_O {h : eg_H} {l0 : Nat} {l1 : Int32} {l2 : Int32} {rE : Int32} {hE : eg_H} (hF : fX13_egg h l0 l1 l2 = some (rE, hE)) : eg_isO h 13 l0 := (eg_ifn hF).1
set_option maxRecDepth 20000 in
theorem mX13_egg {h : eg_H} {l0 : Nat} {l1 : Int32} {l2 : Int32} {rE : Int32} {hE : eg_H} (hF : fX13_egg h l0 l1 l2 = some (rE, hE)) : eg_Met yX13_egg cX13_egg 3 (some .int) 2 [.ref l0, .int l1, .int l2] h (some (.int rE)) hE := by
  refine eg_enter rfl (Nat.le_of_ble_eq_true rfl) ?_
  show eg_AW (RX13, cX13_egg, 3, 2, none, "egg", (some .int)) (eg_Zm (some (.int rE)) hE h) (eg_nc hE) (eg_ns hE) h 0 [(0, .ref l0), (1, .int l1), (2, .int l2)] [] h
  replace hF := (eg_ifn hF).2
  refine eg_aload_n (i := 0) 0 dX13_egg_0 rfl rfl ?_
  refine eg_iconst (v := (0 : Int32)) dX13_egg_1 (by decide) ?_
  replace hF := eg_bind hF; obtain ⟨h1, e2, hF⟩ := hF
  refine eg_putI dX13_egg_2 e2 (Nat.le_of_ble_eq_true rfl) (Nat.le_of_ble_eq_true rfl) rfl ew_1434 (Or.inl rfl) ?_
  refine eg_aload_n (i := 0) 0 dX13_egg_5 rfl rfl ?_
  refine eg_iload_n (i := 1) 1 dX13_egg_6 rfl rfl ?_
  replace hF := eg_bind hF; obtain ⟨⟨v4, h3⟩, e5, hF⟩ := hF
  refine eg_callV (c := 13) (n := 1) [.int l1] dX13_egg_7 (mX13_isEgg e5) rfl (fX13_isEgg_O e5) (Nat.le_of_ble_eq_true rfl) rfl ew_1881 ew_1883 ew_72 ew_110 ew_1884 hy_X13_isEgg rfl (Nat.le_of_ble_eq_true rfl) (Nat.le_of_ble_eq_true rfl) (Nat.le_of_ble_eq_true rfl) ?_
  refine eg_if_eq 36 dX13_egg_10 rfl (fun c6 => ?_) (fun c6 => ?_)
  · replace hF := eg_it c6 hF
    refine eg_iconst (v := (-1 : Int32)) dX13_egg_36 (by decide) ?_
    exact eg_iretE dX13_egg_37 hF
  · replace hF := eg_if c6 hF
    refine eg_iload_n (i := 2) 2 dX13_egg_13 rfl rfl ?_
    refine eg_i2l dX13_egg_14 ?_
    refine eg_lconst (v := (0 : Int64)) dX13_egg_15 (by decide) ?_
    refine eg_lconst (v := (1 : Int64)) dX13_egg_16 (by decide) ?_
    replace hF := eg_bind hF; obtain ⟨⟨v8, h7⟩, e9, hF⟩ := hF
    refine eg_callS (n := 3) [.long l2.toInt64, .long (0 : Int64), .long (1 : Int64)] dX13_egg_17 (mX13_isIn e9) rfl ew_1697 ew_1698 ew_110 ew_1699 hy_X13_isIn.2 rfl (Nat.le_of_ble_eq_true rfl) (Nat.le_of_ble_eq_true rfl) (Nat.le_of_ble_eq_true rfl) ?_
    refine eg_if_eq 36 dX13_egg_20 rfl (fun c10 => ?_) (fun c10 => ?_)
    · replace hF := eg_it c10 hF
      refine eg_iconst (v := (-1 : Int32)) dX13_egg_36 (by decide) ?_
      exact eg_iretE dX13_egg_37 hF
    · replace hF := eg_if c10 hF
      refine eg_aload_n (i := 0) 0 dX13_egg_23 rfl rfl ?_
      replace hF := eg_bind hF; obtain ⟨p11, e12, hF⟩ := hF
      refine eg_getR dX13_egg_24 e12 (Nat.le_of_ble_eq_true rfl) (Nat.le_of_ble_eq_true rfl) rfl ew_1456 ?_
      refine eg_iconst (v := (2 : Int32)) dX13_egg_27 (by decide) ?_
      refine eg_iload_n (i := 1) 1 dX13_egg_28 rfl rfl ?_
      refine eg_imul dX13_egg_29 ?_
      refine eg_iload_n (i := 2) 2 dX13_egg_30 rfl rfl ?_
      refine eg_iadd dX13_egg_31 ?_
      replace hF := eg_bind hF; obtain ⟨v13, e14, hF⟩ := hF
      refine eg_iald dX13_egg_32 e14 ?_
      refine eg_goto 37 dX13_egg_33 rfl ?_
      exact eg_iretE dX13_egg_37 hF
theorem dX13_law_0 : decode cX13_law 0 = .ok (.aload_n 0, 1) := by decide +kernel
theorem dX13_law_1 : decode cX13_law 1 = .ok (.iconst 0, 1) := by decide +kernel
theorem dX13_law_2 : decode cX13_law 2 = .ok (.putfield 148, 3) := by decide +kernel
theorem dX13_law_5 : decode cX13_law 5 = .ok (.aload_n 0, 1) := by decide +kernel
theorem dX13_law_6 : decode cX13_law 6 = .ok (.getfield 335, 3) := by decide +kernel
theorem dX13_law_9 : decode cX13_law 9 = .ok (.ifCond .eq 24, 3) := by decide +kernel
theorem dX13_law_12 : decode cX13_law 12 = .ok (.iload_n 1, 1) := by decide +kernel
theorem dX13_law_13 : decode cX13_law 13 = .ok (.iconst (-1), 1) := by decide +kernel
theorem dX13_law_14 : decode cX13_law 14 = .ok (.if_icmp .eq 21, 3) := by decide +kernel
theorem dX13_law_17 : decode cX13_law 17 = .ok (.iload_n 1, 1) := by decide +kernel
theorem dX13_law_18 : decode cX13_law 18 = .ok (.i2l, 1) := by decide +kernel
theorem dX13_law_19 : decode cX13_law 19 = .ok (.lconst 0, 1) := by decide +kernel
theorem dX13_law_20 : decode cX13_law 20 = .ok (.aload_n 0, 1) := by decide +kernel
theorem dX13_law_21 : decode cX13_law 21 = .ok (.getfield 327, 3) := by decide +kernel
theorem dX13_law_24 : decode cX13_law 24 = .ok (.iconst 1, 1) := by decide +kernel
theorem dX13_law_25 : decode cX13_law 25 = .ok (.isub, 1) := by decide +kernel
theorem dX13_law_26 : decode cX13_law 26 = .ok (.i2l, 1) := by decide +kernel
theorem dX13_law_27 : decode cX13_law 27 = .ok (.invokestatic 269, 3) := by decide +kernel
theorem dX13_law_30 : decode cX13_law 30 = .ok (.ifCond .ne 5, 3) := by decide +kernel
theorem dX13_law_33 : decode cX13_law 33 = .ok (.iconst 0, 1) := by decide +kernel
theorem dX13_law_34 : decode cX13_law 34 = .ok (.ireturn, 1) := by decide +kernel
theorem dX13_law_35 : decode cX13_law 35 = .ok (.aload_n 0, 1) := by decide +kernel
theorem dX13_law_36 : decode cX13_law 36 = .ok (.iload_n 1, 1) := by decide +kernel
theorem dX13_law_37 : decode cX13_law 37 = .ok (.putfield 64, 3) := by decide +kernel
theorem dX13_law_40 : decode cX13_law 40 = .ok (.iconst 1, 1) := by decide +kernel
theorem dX13_law_41 : decode cX13_law 41 = .ok (.ireturn, 1) := by decide +kernel
def fX13_law (h : eg_H) (l0 : Nat) (l1 : Int32) : Option (Int32 × eg_H) :=
  if eg_isO h 13 l0 then (
    (eg_pI h 13 0 l0 (0 : Int32)).bind fun h1 =>
    (eg_gI h1 13 24 l0).bind fun v3 =>
    if v3 = 0 then
      (some ((0 : Int32), h1))
    else
      if l1 = (-1 : Int32) then
        ((eg_pI h1 13 34 l0 l1).bind fun h7 =>
        some ((1 : Int32), h7))
      else
        (eg_gI h1 13 7 l0).bind fun v9 =>
        (fX13_isIn h1 l1.toInt64 (0 : Int64) ((v9 - (1 : Int32)).toInt64)).bind fun ⟨v12, h11⟩ =>
        if v12 = 0 then
          (some ((0 : Int32), h11))
        else
          (eg_pI h11 13 34 l0 l1).bind fun h15 =>
          some ((1 : Int32), h15)) else none
theorem fX13_law_O {h : eg_H} {l0 : Nat} {l1 : Int32} {rE : Int32} {hE : eg_H} (hF : fX13_law h l0 l1 = some (rE, hE)) : eg_isO h 13 l0 := (eg_ifn hF).1
set_option maxRecDepth 20000 in
theorem mX13_law {h : eg_H} {l0 : Nat} {l1 : Int32} {rE : Int32} {hE : eg_H} (hF : fX13_law h l0 l1 = some (rE, hE)) : eg_Met yX13_law cX13_law 2 (some .boolean) 2 [.ref l0, .int l1] h (some (.int rE)) hE := by
  refine eg_enter rfl (Nat.le_of_ble_eq_true rfl) ?_
  show eg_AW (RX13, cX13_law, 2, 2, none, "law", (some .boolean)) (eg_Zm (some (.int rE)) hE h) (eg_nc hE) (eg_ns hE) h 0 [(0, .ref l0), (1, .int l1)] [] h
  replace hF := (eg_ifn hF).2
  refine eg_aload_n (i := 0) 0 dX13_law_0 rfl rfl ?_
  refine eg_iconst (v := (0 : Int32)) dX13_law_1 (by decide) ?_
  replace hF := eg_bind hF; obtain ⟨h1, e2, hF⟩ := hF
  refine eg_putI dX13_law_2 e2 (Nat.le_of_ble_eq_true rfl) (Nat.le_of_ble_eq_true rfl) rfl ew_1434 (Or.inl rfl) ?_
  refine eg_aload_n (i := 0) 0 dX13_law_5 rfl rfl ?_
  replace hF := eg_bind hF; obtain ⟨v3, e4, hF⟩ := hF
  refine eg_getI dX13_law_6 e4 (Nat.le_of_ble_eq_true rfl) (Nat.le_of_ble_eq_true rfl) rfl ew_1458 ?_
  refine eg_if_eq 33 dX13_law_9 rfl (fun c5 => ?_) (fun c5 => ?_)
  · replace hF := eg_it c5 hF
    refine eg_iconst (v := (0 : Int32)) dX13_law_33 (by decide) ?_
    exact eg_zretE dX13_law_34 (Or.inl rfl) hF
  · replace hF := eg_if c5 hF
    refine eg_iload_n (i := 1) 1 dX13_law_12 rfl rfl ?_
    refine eg_iconst (v := (-1 : Int32)) dX13_law_13 (by decide) ?_
    refine eg_ic_eq 35 dX13_law_14 rfl (fun c6 => ?_) (fun c6 => ?_)
    · replace hF := eg_it c6 hF
      refine eg_aload_n (i := 0) 0 dX13_law_35 rfl rfl ?_
      refine eg_iload_n (i := 1) 1 dX13_law_36 rfl rfl ?_
      replace hF := eg_bind hF; obtain ⟨h7, e8, hF⟩ := hF
      refine eg_putI dX13_law_37 e8 (Nat.le_of_ble_eq_true rfl) (Nat.le_of_ble_eq_true rfl) rfl ew_1468 (Or.inl rfl) ?_
      refine eg_iconst (v := (1 : Int32)) dX13_law_40 (by decide) ?_
      exact eg_zretE dX13_law_41 (Or.inr rfl) hF
    · replace hF := eg_if c6 hF
      refine eg_iload_n (i := 1) 1 dX13_law_17 rfl rfl ?_
      refine eg_i2l dX13_law_18 ?_
      refine eg_lconst (v := (0 : Int64)) dX13_law_19 (by decide) ?_
      refine eg_aload_n (i := 0) 0 dX13_law_20 rfl rfl ?_
      replace hF := eg_bind hF; obtain ⟨v9, e10, hF⟩ := hF
      refine eg_getI dX13_law_21 e10 (Nat.le_of_ble_eq_true rfl) (Nat.le_of_ble_eq_true rfl) rfl ew_1441 ?_
      refine eg_iconst (v := (1 : Int32)) dX13_law_24 (by decide) ?_
      refine eg_isub dX13_law_25 ?_
      refine eg_i2l dX13_law_26 ?_
      replace hF := eg_bind hF; obtain ⟨⟨v12, h11⟩, e13, hF⟩ := hF
      refine eg_callS (n := 3) [.long l1.toInt64, .long (0 : Int64), .long ((v9 - (1 : Int32)).toInt64)] dX13_law_27 (mX13_isIn e13) rfl ew_1697 ew_1698 ew_110 ew_1699 hy_X13_isIn.2 rfl (Nat.le_of_ble_eq_true rfl) (Nat.le_of_ble_eq_true rfl) (Nat.le_of_ble_eq_true rfl) ?_
      refine eg_if_ne 35 dX13_law_30 rfl (fun c14 => ?_) (fun c14 => ?_)
      · replace hF := eg_it c14 hF
        refine eg_iconst (v := (0 : Int32)) dX13_law_33 (by decide) ?_
        exact eg_zretE dX13_law_34 (Or.inl rfl) hF
      · replace hF := eg_if c14 hF
        refine eg_aload_n (i := 0) 0 dX13_law_35 rfl rfl ?_
        refine eg_iload_n (i := 1) 1 dX13_law_36 rfl rfl ?_
        replace hF := eg_bind hF; obtain ⟨h15, e16, hF⟩ := hF
        refine eg_putI dX13_law_37 e16 (Nat.le_of_ble_eq_true rfl) (Nat.le_of_ble_eq_true rfl) rfl ew_1468 (Or.inl rfl) ?_
        refine eg_iconst (v := (1 : Int32)) dX13_law_40 (by decide) ?_
        exact eg_zretE dX13_law_41 (Or.inr rfl) hF
theorem dX13_set_0 : decode cX13_set 0 = .ok (.aload_n 0, 1) := by decide +kernel
theorem dX13_set_1 : decode cX13_set 1 = .ok (.iconst 0, 1) := by decide +kernel
theorem dX13_set_2 : decode cX13_set 2 = .ok (.putfield 148, 3) := by decide +kernel
theorem dX13_set_5 : decode cX13_set 5 = .ok (.aload_n 0, 1) := by decide +kernel
theorem dX13_set_6 : decode cX13_set 6 = .ok (.getfield 335, 3) := by decide +kernel
theorem dX13_set_9 : decode cX13_set 9 = .ok (.ifCond .eq 47, 3) := by decide +kernel
theorem dX13_set_12 : decode cX13_set 12 = .ok (.iload_n 1, 1) := by decide +kernel
theorem dX13_set_13 : decode cX13_set 13 = .ok (.i2l, 1) := by decide +kernel
theorem dX13_set_14 : decode cX13_set 14 = .ok (.lconst 0, 1) := by decide +kernel
theorem dX13_set_15 : decode cX13_set 15 = .ok (.ldc2_w 359, 3) := by decide +kernel
theorem dX13_set_18 : decode cX13_set 18 = .ok (.invokestatic 269, 3) := by decide +kernel
theorem dX13_set_21 : decode cX13_set 21 = .ok (.ifCond .eq 35, 3) := by decide +kernel
theorem dX13_set_24 : decode cX13_set 24 = .ok (.iload_n 2, 1) := by decide +kernel
theorem dX13_set_25 : decode cX13_set 25 = .ok (.i2l, 1) := by decide +kernel
theorem dX13_set_26 : decode cX13_set 26 = .ok (.bipush 109, 2) := by decide +kernel
theorem dX13_set_28 : decode cX13_set 28 = .ok (.iload_n 1, 1) := by decide +kernel
theorem dX13_set_29 : decode cX13_set 29 = .ok (.invokestatic 300, 3) := by decide +kernel
theorem dX13_set_32 : decode cX13_set 32 = .ok (.i2l, 1) := by decide +kernel
theorem dX13_set_33 : decode cX13_set 33 = .ok (.bipush 109, 2) := by decide +kernel
theorem dX13_set_35 : decode cX13_set 35 = .ok (.iload_n 1, 1) := by decide +kernel
theorem dX13_set_36 : decode cX13_set 36 = .ok (.invokestatic 303, 3) := by decide +kernel
theorem dX13_set_39 : decode cX13_set 39 = .ok (.i2l, 1) := by decide +kernel
theorem dX13_set_40 : decode cX13_set 40 = .ok (.invokestatic 269, 3) := by decide +kernel
theorem dX13_set_43 : decode cX13_set 43 = .ok (.ifCond .eq 13, 3) := by decide +kernel
theorem dX13_set_46 : decode cX13_set 46 = .ok (.aload_n 0, 1) := by decide +kernel
theorem dX13_set_47 : decode cX13_set 47 = .ok (.getfield 37, 3) := by decide +kernel
theorem dX13_set_50 : decode cX13_set 50 = .ok (.iload_n 1, 1) := by decide +kernel
theorem dX13_set_51 : decode cX13_set 51 = .ok (.iaload, 1) := by decide +kernel
theorem dX13_set_52 : decode cX13_set 52 = .ok (.iload_n 2, 1) := by decide +kernel
theorem dX13_set_53 : decode cX13_set 53 = .ok (.if_icmp .ne 5, 3) := by decide +kernel
theorem dX13_set_56 : decode cX13_set 56 = .ok (.iconst 0, 1) := by decide +kernel
theorem dX13_set_57 : decode cX13_set 57 = .ok (.ireturn, 1) := by decide +kernel
theorem dX13_set_58 : decode cX13_set 58 = .ok (.aload_n 0, 1) := by decide +kernel
theorem dX13_set_59 : decode cX13_set 59 = .ok (.getfield 37, 3) := by decide +kernel
theorem dX13_set_62 : decode cX13_set 62 = .ok (.iload_n 1, 1) := by decide +kernel
theorem dX13_set_63 : decode cX13_set 63 = .ok (.iload_n 2, 1) := by decide +kernel
theorem dX13_set_64 : decode cX13_set 64 = .ok (.iastore, 1) := by decide +kernel
theorem dX13_set_65 : decode cX13_set 65 = .ok (.iconst 1, 1) := by decide +kernel
theorem dX13_set_66 : decode cX13_set 66 = .ok (.ireturn, 1) := by decide +kernel
def fX13_set (h : eg_H) (l0 : Nat) (l1 : Int32) (l2 : Int32) : Option (Int32 × eg_H) :=
  if eg_isO h 13 l0 then (
    (eg_pI h 13 0 l0 (0 : Int32)).bind fun h1 =>
    (eg_gI h1 13 24 l0).bind fun v3 =>
    if v3 = 0 then
      (some ((0 : Int32), h1))
    else
      (fX13_isIn h1 l1.toInt64 (0 : Int64) (3 : Int64)).bind fun ⟨v7, h6⟩ =>
      if v7 = 0 then
        (some ((0 : Int32), h6))
      else
        (fX13_leastOf h6 (109 : Int32) l1).bind fun ⟨v11, h10⟩ =>
        (fX13_mostOf h10 (109 : Int32) l1).bind fun ⟨v14, h13⟩ =>
        (fX13_isIn h13 l2.toInt64 v11.toInt64 v14.toInt64).bind fun ⟨v17, h16⟩ =>
        if v17 = 0 then
          (some ((0 : Int32), h16))
        else
          (eg_gR h16 13 18 l0).bind fun p20 =>
          (eg_aI h16 100 p20 l1).bind fun v22 =>
          if v22 = l2 then
            (some ((0 : Int32), h16))
          else
            (eg_gR h16 13 18 l0).bind fun p25 =>
            (eg_wI h16 100 p25 l1 l2).bind fun h27 =>
            some ((1 : Int32), h27)) else none
theorem fX13_set_O {h : eg_H} {l0 : Nat} {l1 : Int32} {l2 : Int32} {rE : Int32} {hE : eg_H} (hF : fX13_set h l0 l1 l2 = some (rE, hE)) : eg_isO h 13 l0 := (eg_ifn hF).1
set_option maxRecDepth 20000 in
theorem mX13_set {h : eg_H} {l0 : Nat} {l1 : Int32} {l2 : Int32} {rE : Int32} {hE : eg_H} (hF : fX13_set h l0 l1 l2 = some (rE, hE)) : eg_Met yX13_set cX13_set 3 (some .boolean) 2 [.ref l0, .int l1, .int l2] h (some (.int rE)) hE := by
  refine eg_enter rfl (Nat.le_of_ble_eq_true rfl) ?_
  show eg_AW (RX13, cX13_set, 3, 2, none, "set", (some .boolean)) (eg_Zm (some (.int rE)) hE h) (eg_nc hE) (eg_ns hE) h 0 [(0, .ref l0), (1, .int l1), (2, .int l2)] [] h
  replace hF := (eg_ifn hF).2
  refine eg_aload_n (i := 0) 0 dX13_set_0 rfl rfl ?_
  refine eg_iconst (v := (0 : Int32)) dX13_set_1 (by decide) ?_
  replace hF := eg_bind hF; obtain ⟨h1, e2, hF⟩ := hF
  refine eg_putI dX13_set_2 e2 (Nat.le_of_ble_eq_true rfl) (Nat.le_of_ble_eq_true rfl) rfl ew_1434 (Or.inl rfl) ?_
  refine eg_aload_n (i := 0) 0 dX13_set_5 rfl rfl ?_
  replace hF := eg_bind hF; obtain ⟨v3, e4, hF⟩ := hF
  refine eg_getI dX13_set_6 e4 (Nat.le_of_ble_eq_true rfl) (Nat.le_of_ble_eq_true rfl) rfl ew_1458 ?_
  refine eg_if_eq 56 dX13_set_9 rfl (fun c5 => ?_) (fun c5 => ?_)
  · replace hF := eg_it c5 hF
    refine eg_iconst (v := (0 : Int32)) dX13_set_56 (by decide) ?_
    exact eg_zretE dX13_set_57 (Or.inl rfl) hF
  · replace hF := eg_if c5 hF
    refine eg_iload_n (i := 1) 1 dX13_set_12 rfl rfl ?_
    refine eg_i2l dX13_set_13 ?_
    refine eg_lconst (v := (0 : Int64)) dX13_set_14 (by decide) ?_
    refine eg_ldc2 (v := (3 : Int64)) dX13_set_15 ew_1876 ?_
    replace hF := eg_bind hF; obtain ⟨⟨v7, h6⟩, e8, hF⟩ := hF
    refine eg_callS (n := 3) [.long l1.toInt64, .long (0 : Int64), .long (3 : Int64)] dX13_set_18 (mX13_isIn e8) rfl ew_1697 ew_1698 ew_110 ew_1699 hy_X13_isIn.2 rfl (Nat.le_of_ble_eq_true rfl) (Nat.le_of_ble_eq_true rfl) (Nat.le_of_ble_eq_true rfl) ?_
    refine eg_if_eq 56 dX13_set_21 rfl (fun c9 => ?_) (fun c9 => ?_)
    · replace hF := eg_it c9 hF
      refine eg_iconst (v := (0 : Int32)) dX13_set_56 (by decide) ?_
      exact eg_zretE dX13_set_57 (Or.inl rfl) hF
    · replace hF := eg_if c9 hF
      refine eg_iload_n (i := 2) 2 dX13_set_24 rfl rfl ?_
      refine eg_i2l dX13_set_25 ?_
      refine eg_bipush (v := (109 : Int32)) dX13_set_26 (by decide) ?_
      refine eg_iload_n (i := 1) 1 dX13_set_28 rfl rfl ?_
      replace hF := eg_bind hF; obtain ⟨⟨v11, h10⟩, e12, hF⟩ := hF
      refine eg_callS (n := 2) [.int (109 : Int32), .int l1] dX13_set_29 (mX13_leastOf e12) rfl ew_1780 ew_1781 ew_110 ew_1782 hy_X13_leastOf.2 rfl (Nat.le_of_ble_eq_true rfl) (Nat.le_of_ble_eq_true rfl) (Nat.le_of_ble_eq_true rfl) ?_
      refine eg_i2l dX13_set_32 ?_
      refine eg_bipush (v := (109 : Int32)) dX13_set_33 (by decide) ?_
      refine eg_iload_n (i := 1) 1 dX13_set_35 rfl rfl ?_
      replace hF := eg_bind hF; obtain ⟨⟨v14, h13⟩, e15, hF⟩ := hF
      refine eg_callS (n := 2) [.int (109 : Int32), .int l1] dX13_set_36 (mX13_mostOf e15) rfl ew_1783 ew_1784 ew_110 ew_1785 hy_X13_mostOf.2 rfl (Nat.le_of_ble_eq_true rfl) (Nat.le_of_ble_eq_true rfl) (Nat.le_of_ble_eq_true rfl) ?_
      refine eg_i2l dX13_set_39 ?_
      replace hF := eg_bind hF; obtain ⟨⟨v17, h16⟩, e18, hF⟩ := hF
      refine eg_callS (n := 3) [.long l2.toInt64, .long v11.toInt64, .long v14.toInt64] dX13_set_40 (mX13_isIn e18) rfl ew_1697 ew_1698 ew_110 ew_1699 hy_X13_isIn.2 rfl (Nat.le_of_ble_eq_true rfl) (Nat.le_of_ble_eq_true rfl) (Nat.le_of_ble_eq_true rfl) ?_
      refine eg_if_eq 56 dX13_set_43 rfl (fun c19 => ?_) (fun c19 => ?_)
      · replace hF := eg_it c19 hF
        refine eg_iconst (v := (0 : Int32)) dX13_set_56 (by decide) ?_
        exact eg_zretE dX13_set_57 (Or.inl rfl) hF
      · replace hF := eg_if c19 hF
        refine eg_aload_n (i := 0) 0 dX13_set_46 rfl rfl ?_
        replace hF := eg_bind hF; obtain ⟨p20, e21, hF⟩ := hF
        refine eg_getR dX13_set_47 e21 (Nat.le_of_ble_eq_true rfl) (Nat.le_of_ble_eq_true rfl) rfl ew_1452 ?_
        refine eg_iload_n (i := 1) 1 dX13_set_50 rfl rfl ?_
        replace hF := eg_bind hF; obtain ⟨v22, e23, hF⟩ := hF
        refine eg_iald dX13_set_51 e23 ?_
        refine eg_iload_n (i := 2) 2 dX13_set_52 rfl rfl ?_
        refine eg_ic_ne 58 dX13_set_53 rfl (fun c24 => ?_) (fun c24 => ?_)
        · replace hF := eg_it c24 hF
          refine eg_iconst (v := (0 : Int32)) dX13_set_56 (by decide) ?_
          exact eg_zretE dX13_set_57 (Or.inl rfl) hF
        · replace hF := eg_if c24 hF
          refine eg_aload_n (i := 0) 0 dX13_set_58 rfl rfl ?_
          replace hF := eg_bind hF; obtain ⟨p25, e26, hF⟩ := hF
          refine eg_getR dX13_set_59 e26 (Nat.le_of_ble_eq_true rfl) (Nat.le_of_ble_eq_true rfl) rfl ew_1452 ?_
          refine eg_iload_n (i := 1) 1 dX13_set_62 rfl rfl ?_
          refine eg_iload_n (i := 2) 2 dX13_set_63 rfl rfl ?_
          replace hF := eg_bind hF; obtain ⟨h27, e28, hF⟩ := hF
          refine eg_iast dX13_set_64 e28 ?_
          refine eg_iconst (v := (1 : Int32)) dX13_set_65 (by decide) ?_
          exact eg_zretE dX13_set_66 (Or.inr rfl) hF
theorem dX13_blows_0 : decode cX13_blows 0 = .ok (.iload_n 1, 1) := by decide +kernel
theorem dX13_blows_1 : decode cX13_blows 1 = .ok (.aload_n 0, 1) := by decide +kernel
theorem dX13_blows_2 : decode cX13_blows 2 = .ok (.getfield 37, 3) := by decide +kernel
theorem dX13_blows_5 : decode cX13_blows 5 = .ok (.iconst 1, 1) := by decide +kernel
theorem dX13_blows_6 : decode cX13_blows 6 = .ok (.iaload, 1) := by decide +kernel
theorem dX13_blows_7 : decode cX13_blows 7 = .ok (.if_icmp .ne 12, 3) := by decide +kernel
theorem dX13_blows_10 : decode cX13_blows 10 = .ok (.aload_n 0, 1) := by decide +kernel
theorem dX13_blows_11 : decode cX13_blows 11 = .ok (.getfield 37, 3) := by decide +kernel
theorem dX13_blows_14 : decode cX13_blows 14 = .ok (.iconst 0, 1) := by decide +kernel
theorem dX13_blows_15 : decode cX13_blows 15 = .ok (.iaload, 1) := by decide +kernel
theorem dX13_blows_16 : decode cX13_blows 16 = .ok (.goto 10, 3) := by decide +kernel
theorem dX13_blows_19 : decode cX13_blows 19 = .ok (.aload_n 0, 1) := by decide +kernel
theorem dX13_blows_20 : decode cX13_blows 20 = .ok (.getfield 37, 3) := by decide +kernel
theorem dX13_blows_23 : decode cX13_blows 23 = .ok (.iconst 0, 1) := by decide +kernel
theorem dX13_blows_24 : decode cX13_blows 24 = .ok (.iaload, 1) := by decide +kernel
theorem dX13_blows_25 : decode cX13_blows 25 = .ok (.ineg, 1) := by decide +kernel
theorem dX13_blows_26 : decode cX13_blows 26 = .ok (.ireturn, 1) := by decide +kernel
def fX13_blows (h : eg_H) (l0 : Nat) (l1 : Int32) : Option (Int32 × eg_H) :=
  if eg_isO h 13 l0 then (
    (eg_gR h 13 18 l0).bind fun p1 =>
    (eg_aI h 100 p1 (1 : Int32)).bind fun v3 =>
    if l1 = v3 then
      ((eg_gR h 13 18 l0).bind fun p6 =>
      (eg_aI h 100 p6 (0 : Int32)).bind fun v8 =>
      some (v8, h))
    else
      (eg_gR h 13 18 l0).bind fun p10 =>
      (eg_aI h 100 p10 (0 : Int32)).bind fun v12 =>
      some ((-v12), h)) else none
theorem fX13_blows_O {h : eg_H} {l0 : Nat} {l1 : Int32} {rE : Int32} {hE : eg_H} (hF : fX13_blows h l0 l1 = some (rE, hE)) : eg_isO h 13 l0 := (eg_ifn hF).1
set_option maxRecDepth 20000 in
theorem mX13_blows {h : eg_H} {l0 : Nat} {l1 : Int32} {rE : Int32} {hE : eg_H} (hF : fX13_blows h l0 l1 = some (rE, hE)) : eg_Met yX13_blows cX13_blows 2 (some .int) 1 [.ref l0, .int l1] h (some (.int rE)) hE := by
  refine eg_enter rfl (Nat.le_of_ble_eq_true rfl) ?_
  show eg_AW (RX13, cX13_blows, 2, 1, none, "blows", (some .int)) (eg_Zm (some (.int rE)) hE h) (eg_nc hE) (eg_ns hE) h 0 [(0, .ref l0), (1, .int l1)] [] h
  replace hF := (eg_ifn hF).2
  refine eg_iload_n (i := 1) 1 dX13_blows_0 rfl rfl ?_
  refine eg_aload_n (i := 0) 0 dX13_blows_1 rfl rfl ?_
  replace hF := eg_bind hF; obtain ⟨p1, e2, hF⟩ := hF
  refine eg_getR dX13_blows_2 e2 (Nat.le_of_ble_eq_true rfl) (Nat.le_of_ble_eq_true rfl) rfl ew_1452 ?_
  refine eg_iconst (v := (1 : Int32)) dX13_blows_5 (by decide) ?_
  replace hF := eg_bind hF; obtain ⟨v3, e4, hF⟩ := hF
  refine eg_iald dX13_blows_6 e4 ?_
  refine eg_ic_ne 19 dX13_blows_7 rfl (fun c5 => ?_) (fun c5 => ?_)
  · replace hF := eg_it c5 hF
    refine eg_aload_n (i := 0) 0 dX13_blows_10 rfl rfl ?_
    replace hF := eg_bind hF; obtain ⟨p6, e7, hF⟩ := hF
    refine eg_getR dX13_blows_11 e7 (Nat.le_of_ble_eq_true rfl) (Nat.le_of_ble_eq_true rfl) rfl ew_1452 ?_
    refine eg_iconst (v := (0 : Int32)) dX13_blows_14 (by decide) ?_
    replace hF := eg_bind hF; obtain ⟨v8, e9, hF⟩ := hF
    refine eg_iald dX13_blows_15 e9 ?_
    refine eg_goto 26 dX13_blows_16 rfl ?_
    exact eg_iretE dX13_blows_26 hF
  · replace hF := eg_if c5 hF
    refine eg_aload_n (i := 0) 0 dX13_blows_19 rfl rfl ?_
    replace hF := eg_bind hF; obtain ⟨p10, e11, hF⟩ := hF
    refine eg_getR dX13_blows_20 e11 (Nat.le_of_ble_eq_true rfl) (Nat.le_of_ble_eq_true rfl) rfl ew_1452 ?_
    refine eg_iconst (v := (0 : Int32)) dX13_blows_23 (by decide) ?_
    replace hF := eg_bind hF; obtain ⟨v12, e13, hF⟩ := hF
    refine eg_iald dX13_blows_24 e13 ?_
    refine eg_ineg dX13_blows_25 ?_
    exact eg_iretE dX13_blows_26 hF
theorem dX13_offOf_0 : decode cX13_offOf 0 = .ok (.iload_n 3, 1) := by decide +kernel
theorem dX13_offOf_1 : decode cX13_offOf 1 = .ok (.iload 4, 2) := by decide +kernel
theorem dX13_offOf_3 : decode cX13_offOf 3 = .ok (.iadd, 1) := by decide +kernel
theorem dX13_offOf_4 : decode cX13_offOf 4 = .ok (.aload_n 0, 1) := by decide +kernel
theorem dX13_offOf_5 : decode cX13_offOf 5 = .ok (.iload_n 1, 1) := by decide +kernel
theorem dX13_offOf_6 : decode cX13_offOf 6 = .ok (.invokevirtual 361, 3) := by decide +kernel
theorem dX13_offOf_9 : decode cX13_offOf 9 = .ok (.iload_n 2, 1) := by decide +kernel
theorem dX13_offOf_10 : decode cX13_offOf 10 = .ok (.imul, 1) := by decide +kernel
theorem dX13_offOf_11 : decode cX13_offOf 11 = .ok (.iconst 4, 1) := by decide +kernel
theorem dX13_offOf_12 : decode cX13_offOf 12 = .ok (.idiv, 1) := by decide +kernel
theorem dX13_offOf_13 : decode cX13_offOf 13 = .ok (.iadd, 1) := by decide +kernel
theorem dX13_offOf_14 : decode cX13_offOf 14 = .ok (.ireturn, 1) := by decide +kernel
def fX13_offOf (h : eg_H) (l0 : Nat) (l1 : Int32) (l2 : Int32) (l3 : Int32) (l4 : Int32) : Option (Int32 × eg_H) :=
  if eg_isO h 13 l0 then (
    (fX13_blows h l0 l1).bind fun ⟨v2, h1⟩ =>
    some (((l3 + l4) + ((v2 * l2) / (4 : Int32))), h1)) else none
theorem fX13_offOf_O {h : eg_H} {l0 : Nat} {l1 : Int32} {l2 : Int32} {l3 : Int32} {l4 : Int32} {rE : Int32} {hE : eg_H} (hF : fX13_offOf h l0 l1 l2 l3 l4 = some (rE, hE)) : eg_isO h 13 l0 := (eg_ifn hF).1
set_option maxRecDepth 20000 in
theorem mX13_offOf {h : eg_H} {l0 : Nat} {l1 : Int32} {l2 : Int32} {l3 : Int32} {l4 : Int32} {rE : Int32} {hE : eg_H} (hF : fX13_offOf h l0 l1 l2 l3 l4 = some (rE, hE)) : eg_Met yX13_offOf cX13_offOf 5 (some .int) 2 [.ref l0, .int l1, .int l2, .int l3, .int l4] h (some (.int rE)) hE := by
  refine eg_enter rfl (Nat.le_of_ble_eq_true rfl) ?_
  show eg_AW (RX13, cX13_offOf, 5, 2, none, "offOf", (some .int)) (eg_Zm (some (.int rE)) hE h) (eg_nc hE) (eg_ns hE) h 0 [(0, .ref l0), (1, .int l1), (2, .int l2), (3, .int l3), (4, .int l4)] [] h
  replace hF := (eg_ifn hF).2
  refine eg_iload_n (i := 3) 3 dX13_offOf_0 rfl rfl ?_
  refine eg_iload (i := 4) 4 dX13_offOf_1 rfl ?_
  refine eg_iadd dX13_offOf_3 ?_
  refine eg_aload_n (i := 0) 0 dX13_offOf_4 rfl rfl ?_
  refine eg_iload_n (i := 1) 1 dX13_offOf_5 rfl rfl ?_
  replace hF := eg_bind hF; obtain ⟨⟨v2, h1⟩, e3, hF⟩ := hF
  refine eg_callV (c := 13) (n := 1) [.int l1] dX13_offOf_6 (mX13_blows e3) rfl (fX13_blows_O e3) (Nat.le_of_ble_eq_true rfl) rfl ew_1904 ew_1906 ew_74 ew_110 ew_1907 hy_X13_blows rfl (Nat.le_of_ble_eq_true rfl) (Nat.le_of_ble_eq_true rfl) (Nat.le_of_ble_eq_true rfl) ?_
  refine eg_iload_n (i := 2) 2 dX13_offOf_9 rfl rfl ?_
  refine eg_imul dX13_offOf_10 ?_
  refine eg_iconst (v := (4 : Int32)) dX13_offOf_11 (by decide) ?_
  refine eg_idiv dX13_offOf_12 (by decide) ?_
  refine eg_iadd dX13_offOf_13 ?_
  exact eg_iretE dX13_offOf_14 hF
theorem dX13_off_0 : decode cX13_off 0 = .ok (.aload_n 0, 1) := by decide +kernel
theorem dX13_off_1 : decode cX13_off 1 = .ok (.iconst 0, 1) := by decide +kernel
theorem dX13_off_2 : decode cX13_off 2 = .ok (.putfield 148, 3) := by decide +kernel
theorem dX13_off_5 : decode cX13_off 5 = .ok (.aload_n 0, 1) := by decide +kernel
theorem dX13_off_6 : decode cX13_off 6 = .ok (.iload_n 1, 1) := by decide +kernel
theorem dX13_off_7 : decode cX13_off 7 = .ok (.invokevirtual 353, 3) := by decide +kernel
theorem dX13_off_10 : decode cX13_off 10 = .ok (.ifCond .eq 76, 3) := by decide +kernel
theorem dX13_off_13 : decode cX13_off 13 = .ok (.iload_n 2, 1) := by decide +kernel
theorem dX13_off_14 : decode cX13_off 14 = .ok (.i2l, 1) := by decide +kernel
theorem dX13_off_15 : decode cX13_off 15 = .ok (.lconst 0, 1) := by decide +kernel
theorem dX13_off_16 : decode cX13_off 16 = .ok (.lconst 1, 1) := by decide +kernel
theorem dX13_off_17 : decode cX13_off 17 = .ok (.invokestatic 269, 3) := by decide +kernel
theorem dX13_off_20 : decode cX13_off 20 = .ok (.ifCond .eq 66, 3) := by decide +kernel
theorem dX13_off_23 : decode cX13_off 23 = .ok (.iload_n 3, 1) := by decide +kernel
theorem dX13_off_24 : decode cX13_off 24 = .ok (.i2l, 1) := by decide +kernel
theorem dX13_off_25 : decode cX13_off 25 = .ok (.lconst 0, 1) := by decide +kernel
theorem dX13_off_26 : decode cX13_off 26 = .ok (.aload_n 0, 1) := by decide +kernel
theorem dX13_off_27 : decode cX13_off 27 = .ok (.getfield 43, 3) := by decide +kernel
theorem dX13_off_30 : decode cX13_off 30 = .ok (.iconst 4, 1) := by decide +kernel
theorem dX13_off_31 : decode cX13_off 31 = .ok (.iload_n 1, 1) := by decide +kernel
theorem dX13_off_32 : decode cX13_off 32 = .ok (.imul, 1) := by decide +kernel
theorem dX13_off_33 : decode cX13_off 33 = .ok (.iconst 3, 1) := by decide +kernel
theorem dX13_off_34 : decode cX13_off 34 = .ok (.iadd, 1) := by decide +kernel
theorem dX13_off_35 : decode cX13_off 35 = .ok (.iaload, 1) := by decide +kernel
theorem dX13_off_36 : decode cX13_off 36 = .ok (.i2l, 1) := by decide +kernel
theorem dX13_off_37 : decode cX13_off 37 = .ok (.invokestatic 269, 3) := by decide +kernel
theorem dX13_off_40 : decode cX13_off 40 = .ok (.ifCond .eq 46, 3) := by decide +kernel
theorem dX13_off_43 : decode cX13_off 43 = .ok (.iload 4, 2) := by decide +kernel
theorem dX13_off_45 : decode cX13_off 45 = .ok (.i2l, 1) := by decide +kernel
theorem dX13_off_46 : decode cX13_off 46 = .ok (.ldc2_w 364, 3) := by decide +kernel
theorem dX13_off_49 : decode cX13_off 49 = .ok (.ldc2_w 366, 3) := by decide +kernel
theorem dX13_off_52 : decode cX13_off 52 = .ok (.invokestatic 269, 3) := by decide +kernel
theorem dX13_off_55 : decode cX13_off 55 = .ok (.ifCond .eq 31, 3) := by decide +kernel
theorem dX13_off_58 : decode cX13_off 58 = .ok (.iload 5, 2) := by decide +kernel
theorem dX13_off_60 : decode cX13_off 60 = .ok (.i2l, 1) := by decide +kernel
theorem dX13_off_61 : decode cX13_off 61 = .ok (.aload_n 0, 1) := by decide +kernel
theorem dX13_off_62 : decode cX13_off 62 = .ok (.getfield 43, 3) := by decide +kernel
theorem dX13_off_65 : decode cX13_off 65 = .ok (.iconst 4, 1) := by decide +kernel
theorem dX13_off_66 : decode cX13_off 66 = .ok (.iload_n 1, 1) := by decide +kernel
theorem dX13_off_67 : decode cX13_off 67 = .ok (.imul, 1) := by decide +kernel
theorem dX13_off_68 : decode cX13_off 68 = .ok (.iaload, 1) := by decide +kernel
theorem dX13_off_69 : decode cX13_off 69 = .ok (.ineg, 1) := by decide +kernel
theorem dX13_off_70 : decode cX13_off 70 = .ok (.i2l, 1) := by decide +kernel
theorem dX13_off_71 : decode cX13_off 71 = .ok (.aload_n 0, 1) := by decide +kernel
theorem dX13_off_72 : decode cX13_off 72 = .ok (.getfield 43, 3) := by decide +kernel
theorem dX13_off_75 : decode cX13_off 75 = .ok (.iconst 4, 1) := by decide +kernel
theorem dX13_off_76 : decode cX13_off 76 = .ok (.iload_n 1, 1) := by decide +kernel
theorem dX13_off_77 : decode cX13_off 77 = .ok (.imul, 1) := by decide +kernel
theorem dX13_off_78 : decode cX13_off 78 = .ok (.iaload, 1) := by decide +kernel
theorem dX13_off_79 : decode cX13_off 79 = .ok (.i2l, 1) := by decide +kernel
theorem dX13_off_80 : decode cX13_off 80 = .ok (.invokestatic 269, 3) := by decide +kernel
theorem dX13_off_83 : decode cX13_off 83 = .ok (.ifCond .ne 7, 3) := by decide +kernel
theorem dX13_off_86 : decode cX13_off 86 = .ok (.ldc_w 368, 3) := by decide +kernel
theorem dX13_off_89 : decode cX13_off 89 = .ok (.ireturn, 1) := by decide +kernel
theorem dX13_off_90 : decode cX13_off 90 = .ok (.aload_n 0, 1) := by decide +kernel
theorem dX13_off_91 : decode cX13_off 91 = .ok (.iload_n 2, 1) := by decide +kernel
theorem dX13_off_92 : decode cX13_off 92 = .ok (.iload_n 3, 1) := by decide +kernel
theorem dX13_off_93 : decode cX13_off 93 = .ok (.iload 4, 2) := by decide +kernel
theorem dX13_off_95 : decode cX13_off 95 = .ok (.iload 5, 2) := by decide +kernel
theorem dX13_off_97 : decode cX13_off 97 = .ok (.invokevirtual 369, 3) := by decide +kernel
theorem dX13_off_100 : decode cX13_off 100 = .ok (.ireturn, 1) := by decide +kernel
def fX13_off (h : eg_H) (l0 : Nat) (l1 : Int32) (l2 : Int32) (l3 : Int32) (l4 : Int32) (l5 : Int32) : Option (Int32 × eg_H) :=
  if eg_isO h 13 l0 then (
    (eg_pI h 13 0 l0 (0 : Int32)).bind fun h1 =>
    (fX13_isPerson h1 l0 l1).bind fun ⟨v4, h3⟩ =>
    if v4 = 0 then
      (some ((-1000000 : Int32), h3))
    else
      (fX13_isIn h3 l2.toInt64 (0 : Int64) (1 : Int64)).bind fun ⟨v8, h7⟩ =>
      if v8 = 0 then
        (some ((-1000000 : Int32), h7))
      else
        (eg_gR h7 13 20 l0).bind fun p11 =>
        (eg_aI h7 100 p11 (((4 : Int32) * l1) + (3 : Int32))).bind fun v13 =>
        (fX13_isIn h7 l3.toInt64 (0 : Int64) v13.toInt64).bind fun ⟨v16, h15⟩ =>
        if v16 = 0 then
          (some ((-1000000 : Int32), h15))
        else
          (fX13_isIn h15 l4.toInt64 (-5 : Int64) (5 : Int64)).bind fun ⟨v20, h19⟩ =>
          if v20 = 0 then
            (some ((-1000000 : Int32), h19))
          else
            (eg_gR h19 13 20 l0).bind fun p23 =>
            (eg_aI h19 100 p23 ((4 : Int32) * l1)).bind fun v25 =>
            (eg_gR h19 13 20 l0).bind fun p27 =>
            (eg_aI h19 100 p27 ((4 : Int32) * l1)).bind fun v29 =>
            (fX13_isIn h19 l5.toInt64 ((-v25).toInt64) v29.toInt64).bind fun ⟨v32, h31⟩ =>
            if v32 = 0 then
              (some ((-1000000 : Int32), h31))
            else
              (fX13_offOf h31 l0 l2 l3 l4 l5).bind fun ⟨v36, h35⟩ =>
              some (v36, h35)) else none
theorem fX13_off_O {h : eg_H} {l0 : Nat} {l1 : Int32} {l2 : Int32} {l3 : Int32} {l4 : Int32} {l5 : Int32} {rE : Int32} {hE : eg_H} (hF : fX13_off h l0 l1 l2 l3 l4 l5 = some (rE, hE)) : eg_isO h 13 l0 := (eg_ifn hF).1
set_option maxRecDepth 20000 in
theorem mX13_off {h : eg_H} {l0 : Nat} {l1 : Int32} {l2 : Int32} {l3 : Int32} {l4 : Int32} {l5 : Int32} {rE : Int32} {hE : eg_H} (hF : fX13_off h l0 l1 l2 l3 l4 l5 = some (rE, hE)) : eg_Met yX13_off cX13_off 6 (some .int) 3 [.ref l0, .int l1, .int l2, .int l3, .int l4, .int l5] h (some (.int rE)) hE := by
  refine eg_enter rfl (Nat.le_of_ble_eq_true rfl) ?_
  show eg_AW (RX13, cX13_off, 6, 3, none, "off", (some .int)) (eg_Zm (some (.int rE)) hE h) (eg_nc hE) (eg_ns hE) h 0 [(0, .ref l0), (1, .int l1), (2, .int l2), (3, .int l3), (4, .int l4), (5, .int l5)] [] h
  replace hF := (eg_ifn hF).2
  refine eg_aload_n (i := 0) 0 dX13_off_0 rfl rfl ?_
  refine eg_iconst (v := (0 : Int32)) dX13_off_1 (by decide) ?_
  replace hF := eg_bind hF; obtain ⟨h1, e2, hF⟩ := hF
  refine eg_putI dX13_off_2 e2 (Nat.le_of_ble_eq_true rfl) (Nat.le_of_ble_eq_true rfl) rfl ew_1434 (Or.inl rfl) ?_
  refine eg_aload_n (i := 0) 0 dX13_off_5 rfl rfl ?_
  refine eg_iload_n (i := 1) 1 dX13_off_6 rfl rfl ?_
  replace hF := eg_bind hF; obtain ⟨⟨v4, h3⟩, e5, hF⟩ := hF
  refine eg_callV (c := 13) (n := 1) [.int l1] dX13_off_7 (mX13_isPerson e5) rfl (fX13_isPerson_O e5) (Nat.le_of_ble_eq_true rfl) rfl ew_1872 ew_1874 ew_71 ew_110 ew_1875 hy_X13_isPerson rfl (Nat.le_of_ble_eq_true rfl) (Nat.le_of_ble_eq_true rfl) (Nat.le_of_ble_eq_true rfl) ?_
  refine eg_if_eq 86 dX13_off_10 rfl (fun c6 => ?_) (fun c6 => ?_)
  · replace hF := eg_it c6 hF
    refine eg_ldcw (v := (-1000000 : Int32)) dX13_off_86 ew_1899 ?_
    exact eg_iretE dX13_off_89 hF
  · replace hF := eg_if c6 hF
    refine eg_iload_n (i := 2) 2 dX13_off_13 rfl rfl ?_
    refine eg_i2l dX13_off_14 ?_
    refine eg_lconst (v := (0 : Int64)) dX13_off_15 (by decide) ?_
    refine eg_lconst (v := (1 : Int64)) dX13_off_16 (by decide) ?_
    replace hF := eg_bind hF; obtain ⟨⟨v8, h7⟩, e9, hF⟩ := hF
    refine eg_callS (n := 3) [.long l2.toInt64, .long (0 : Int64), .long (1 : Int64)] dX13_off_17 (mX13_isIn e9) rfl ew_1697 ew_1698 ew_110 ew_1699 hy_X13_isIn.2 rfl (Nat.le_of_ble_eq_true rfl) (Nat.le_of_ble_eq_true rfl) (Nat.le_of_ble_eq_true rfl) ?_
    refine eg_if_eq 86 dX13_off_20 rfl (fun c10 => ?_) (fun c10 => ?_)
    · replace hF := eg_it c10 hF
      refine eg_ldcw (v := (-1000000 : Int32)) dX13_off_86 ew_1899 ?_
      exact eg_iretE dX13_off_89 hF
    · replace hF := eg_if c10 hF
      refine eg_iload_n (i := 3) 3 dX13_off_23 rfl rfl ?_
      refine eg_i2l dX13_off_24 ?_
      refine eg_lconst (v := (0 : Int64)) dX13_off_25 (by decide) ?_
      refine eg_aload_n (i := 0) 0 dX13_off_26 rfl rfl ?_
      replace hF := eg_bind hF; obtain ⟨p11, e12, hF⟩ := hF
      refine eg_getR dX13_off_27 e12 (Nat.le_of_ble_eq_true rfl) (Nat.le_of_ble_eq_true rfl) rfl ew_1454 ?_
      refine eg_iconst (v := (4 : Int32)) dX13_off_30 (by decide) ?_
      refine eg_iload_n (i := 1) 1 dX13_off_31 rfl rfl ?_
      refine eg_imul dX13_off_32 ?_
      refine eg_iconst (v := (3 : Int32)) dX13_off_33 (by decide) ?_
      refine eg_iadd dX13_off_34 ?_
      replace hF := eg_bind hF; obtain ⟨v13, e14, hF⟩ := hF
      refine eg_iald dX13_off_35 e14 ?_
      refine eg_i2l dX13_off_36 ?_
      replace hF := eg_bind hF; obtain ⟨⟨v16, h15⟩, e17, hF⟩ := hF
      refine eg_callS (n := 3) [.long l3.toInt64, .long (0 : Int64), .long v13.toInt64] dX13_off_37 (mX13_isIn e17) rfl ew_1697 ew_1698 ew_110 ew_1699 hy_X13_isIn.2 rfl (Nat.le_of_ble_eq_true rfl) (Nat.le_of_ble_eq_true rfl) (Nat.le_of_ble_eq_true rfl) ?_
      refine eg_if_eq 86 dX13_off_40 rfl (fun c18 => ?_) (fun c18 => ?_)
      · replace hF := eg_it c18 hF
        refine eg_ldcw (v := (-1000000 : Int32)) dX13_off_86 ew_1899 ?_
        exact eg_iretE dX13_off_89 hF
      · replace hF := eg_if c18 hF
        refine eg_iload (i := 4) 4 dX13_off_43 rfl ?_
        refine eg_i2l dX13_off_45 ?_
        refine eg_ldc2 (v := (-5 : Int64)) dX13_off_46 ew_1897 ?_
        refine eg_ldc2 (v := (5 : Int64)) dX13_off_49 ew_1898 ?_
        replace hF := eg_bind hF; obtain ⟨⟨v20, h19⟩, e21, hF⟩ := hF
        refine eg_callS (n := 3) [.long l4.toInt64, .long (-5 : Int64), .long (5 : Int64)] dX13_off_52 (mX13_isIn e21) rfl ew_1697 ew_1698 ew_110 ew_1699 hy_X13_isIn.2 rfl (Nat.le_of_ble_eq_true rfl) (Nat.le_of_ble_eq_true rfl) (Nat.le_of_ble_eq_true rfl) ?_
        refine eg_if_eq 86 dX13_off_55 rfl (fun c22 => ?_) (fun c22 => ?_)
        · replace hF := eg_it c22 hF
          refine eg_ldcw (v := (-1000000 : Int32)) dX13_off_86 ew_1899 ?_
          exact eg_iretE dX13_off_89 hF
        · replace hF := eg_if c22 hF
          refine eg_iload (i := 5) 5 dX13_off_58 rfl ?_
          refine eg_i2l dX13_off_60 ?_
          refine eg_aload_n (i := 0) 0 dX13_off_61 rfl rfl ?_
          replace hF := eg_bind hF; obtain ⟨p23, e24, hF⟩ := hF
          refine eg_getR dX13_off_62 e24 (Nat.le_of_ble_eq_true rfl) (Nat.le_of_ble_eq_true rfl) rfl ew_1454 ?_
          refine eg_iconst (v := (4 : Int32)) dX13_off_65 (by decide) ?_
          refine eg_iload_n (i := 1) 1 dX13_off_66 rfl rfl ?_
          refine eg_imul dX13_off_67 ?_
          replace hF := eg_bind hF; obtain ⟨v25, e26, hF⟩ := hF
          refine eg_iald dX13_off_68 e26 ?_
          refine eg_ineg dX13_off_69 ?_
          refine eg_i2l dX13_off_70 ?_
          refine eg_aload_n (i := 0) 0 dX13_off_71 rfl rfl ?_
          replace hF := eg_bind hF; obtain ⟨p27, e28, hF⟩ := hF
          refine eg_getR dX13_off_72 e28 (Nat.le_of_ble_eq_true rfl) (Nat.le_of_ble_eq_true rfl) rfl ew_1454 ?_
          refine eg_iconst (v := (4 : Int32)) dX13_off_75 (by decide) ?_
          refine eg_iload_n (i := 1) 1 dX13_off_76 rfl rfl ?_
          refine eg_imul dX13_off_77 ?_
          replace hF := eg_bind hF; obtain ⟨v29, e30, hF⟩ := hF
          refine eg_iald dX13_off_78 e30 ?_
          refine eg_i2l dX13_off_79 ?_
          replace hF := eg_bind hF; obtain ⟨⟨v32, h31⟩, e33, hF⟩ := hF
          refine eg_callS (n := 3) [.long l5.toInt64, .long ((-v25).toInt64), .long v29.toInt64] dX13_off_80 (mX13_isIn e33) rfl ew_1697 ew_1698 ew_110 ew_1699 hy_X13_isIn.2 rfl (Nat.le_of_ble_eq_true rfl) (Nat.le_of_ble_eq_true rfl) (Nat.le_of_ble_eq_true rfl) ?_
          refine eg_if_ne 90 dX13_off_83 rfl (fun c34 => ?_) (fun c34 => ?_)
          · replace hF := eg_it c34 hF
            refine eg_ldcw (v := (-1000000 : Int32)) dX13_off_86 ew_1899 ?_
            exact eg_iretE dX13_off_89 hF
          · replace hF := eg_if c34 hF
            refine eg_aload_n (i := 0) 0 dX13_off_90 rfl rfl ?_
            refine eg_iload_n (i := 2) 2 dX13_off_91 rfl rfl ?_
            refine eg_iload_n (i := 3) 3 dX13_off_92 rfl rfl ?_
            refine eg_iload (i := 4) 4 dX13_off_93 rfl ?_
            refine eg_iload (i := 5) 5 dX13_off_95 rfl ?_
            replace hF := eg_bind hF; obtain ⟨⟨v36, h35⟩, e37, hF⟩ := hF
            refine eg_callV (c := 13) (n := 4) [.int l2, .int l3, .int l4, .int l5] dX13_off_97 (mX13_offOf e37) rfl (fX13_offOf_O e37) (Nat.le_of_ble_eq_true rfl) rfl ew_1900 ew_1902 ew_73 ew_110 ew_1903 hy_X13_offOf rfl (Nat.le_of_ble_eq_true rfl) (Nat.le_of_ble_eq_true rfl) (Nat.le_of_ble_eq_true rfl) ?_
            exact eg_iretE dX13_off_100 hF
theorem dX13_forceOf_0 : decode cX13_forceOf 0 = .ok (.aload_n 0, 1) := by decide +kernel
theorem dX13_forceOf_1 : decode cX13_forceOf 1 = .ok (.getfield 64, 3) := by decide +kernel
theorem dX13_forceOf_4 : decode cX13_forceOf 4 = .ok (.iconst (-1), 1) := by decide +kernel
theorem dX13_forceOf_5 : decode cX13_forceOf 5 = .ok (.if_icmp .ne 58, 3) := by decide +kernel
theorem dX13_forceOf_8 : decode cX13_forceOf 8 = .ok (.iconst 2, 1) := by decide +kernel
theorem dX13_forceOf_9 : decode cX13_forceOf 9 = .ok (.iload_n 3, 1) := by decide +kernel
theorem dX13_forceOf_10 : decode cX13_forceOf 10 = .ok (.imul, 1) := by decide +kernel
theorem dX13_forceOf_11 : decode cX13_forceOf 11 = .ok (.iconst 3, 1) := by decide +kernel
theorem dX13_forceOf_12 : decode cX13_forceOf 12 = .ok (.iload 4, 2) := by decide +kernel
theorem dX13_forceOf_14 : decode cX13_forceOf 14 = .ok (.iload_n 3, 1) := by decide +kernel
theorem dX13_forceOf_15 : decode cX13_forceOf 15 = .ok (.iconst 4, 1) := by decide +kernel
theorem dX13_forceOf_16 : decode cX13_forceOf 16 = .ok (.idiv, 1) := by decide +kernel
theorem dX13_forceOf_17 : decode cX13_forceOf 17 = .ok (.isub, 1) := by decide +kernel
theorem dX13_forceOf_18 : decode cX13_forceOf 18 = .ok (.invokestatic 373, 3) := by decide +kernel
theorem dX13_forceOf_21 : decode cX13_forceOf 21 = .ok (.imul, 1) := by decide +kernel
theorem dX13_forceOf_22 : decode cX13_forceOf 22 = .ok (.iadd, 1) := by decide +kernel
theorem dX13_forceOf_23 : decode cX13_forceOf 23 = .ok (.iconst 2, 1) := by decide +kernel
theorem dX13_forceOf_24 : decode cX13_forceOf 24 = .ok (.aload_n 0, 1) := by decide +kernel
theorem dX13_forceOf_25 : decode cX13_forceOf 25 = .ok (.getfield 43, 3) := by decide +kernel
theorem dX13_forceOf_28 : decode cX13_forceOf 28 = .ok (.iconst 4, 1) := by decide +kernel
theorem dX13_forceOf_29 : decode cX13_forceOf 29 = .ok (.iload_n 1, 1) := by decide +kernel
theorem dX13_forceOf_30 : decode cX13_forceOf 30 = .ok (.imul, 1) := by decide +kernel
theorem dX13_forceOf_31 : decode cX13_forceOf 31 = .ok (.iconst 1, 1) := by decide +kernel
theorem dX13_forceOf_32 : decode cX13_forceOf 32 = .ok (.iadd, 1) := by decide +kernel
theorem dX13_forceOf_33 : decode cX13_forceOf 33 = .ok (.iaload, 1) := by decide +kernel
theorem dX13_forceOf_34 : decode cX13_forceOf 34 = .ok (.imul, 1) := by decide +kernel
theorem dX13_forceOf_35 : decode cX13_forceOf 35 = .ok (.isub, 1) := by decide +kernel
theorem dX13_forceOf_36 : decode cX13_forceOf 36 = .ok (.aload_n 0, 1) := by decide +kernel
theorem dX13_forceOf_37 : decode cX13_forceOf 37 = .ok (.iload_n 2, 1) := by decide +kernel
theorem dX13_forceOf_38 : decode cX13_forceOf 38 = .ok (.invokevirtual 361, 3) := by decide +kernel
theorem dX13_forceOf_41 : decode cX13_forceOf 41 = .ok (.isub, 1) := by decide +kernel
theorem dX13_forceOf_42 : decode cX13_forceOf 42 = .ok (.iload 5, 2) := by decide +kernel
theorem dX13_forceOf_44 : decode cX13_forceOf 44 = .ok (.ifCond .le 8, 3) := by decide +kernel
theorem dX13_forceOf_47 : decode cX13_forceOf 47 = .ok (.iload 5, 2) := by decide +kernel
theorem dX13_forceOf_49 : decode cX13_forceOf 49 = .ok (.goto 8, 3) := by decide +kernel
theorem dX13_forceOf_52 : decode cX13_forceOf 52 = .ok (.bipush (-3), 2) := by decide +kernel
theorem dX13_forceOf_54 : decode cX13_forceOf 54 = .ok (.iload 5, 2) := by decide +kernel
theorem dX13_forceOf_56 : decode cX13_forceOf 56 = .ok (.imul, 1) := by decide +kernel
theorem dX13_forceOf_57 : decode cX13_forceOf 57 = .ok (.iadd, 1) := by decide +kernel
theorem dX13_forceOf_58 : decode cX13_forceOf 58 = .ok (.istore 6, 2) := by decide +kernel
theorem dX13_forceOf_60 : decode cX13_forceOf 60 = .ok (.goto 89, 3) := by decide +kernel
theorem dX13_forceOf_63 : decode cX13_forceOf 63 = .ok (.aload_n 0, 1) := by decide +kernel
theorem dX13_forceOf_64 : decode cX13_forceOf 64 = .ok (.getfield 20, 3) := by decide +kernel
theorem dX13_forceOf_67 : decode cX13_forceOf 67 = .ok (.bipush 100, 2) := by decide +kernel
theorem dX13_forceOf_69 : decode cX13_forceOf 69 = .ok (.iload_n 3, 1) := by decide +kernel
theorem dX13_forceOf_70 : decode cX13_forceOf 70 = .ok (.iastore, 1) := by decide +kernel
theorem dX13_forceOf_71 : decode cX13_forceOf 71 = .ok (.aload_n 0, 1) := by decide +kernel
theorem dX13_forceOf_72 : decode cX13_forceOf 72 = .ok (.getfield 20, 3) := by decide +kernel
theorem dX13_forceOf_75 : decode cX13_forceOf 75 = .ok (.bipush 98, 2) := by decide +kernel
theorem dX13_forceOf_77 : decode cX13_forceOf 77 = .ok (.iload 4, 2) := by decide +kernel
theorem dX13_forceOf_79 : decode cX13_forceOf 79 = .ok (.iastore, 1) := by decide +kernel
theorem dX13_forceOf_80 : decode cX13_forceOf 80 = .ok (.aload_n 0, 1) := by decide +kernel
theorem dX13_forceOf_81 : decode cX13_forceOf 81 = .ok (.getfield 20, 3) := by decide +kernel
theorem dX13_forceOf_84 : decode cX13_forceOf 84 = .ok (.bipush 97, 2) := by decide +kernel
theorem dX13_forceOf_86 : decode cX13_forceOf 86 = .ok (.aload_n 0, 1) := by decide +kernel
theorem dX13_forceOf_87 : decode cX13_forceOf 87 = .ok (.getfield 43, 3) := by decide +kernel
theorem dX13_forceOf_90 : decode cX13_forceOf 90 = .ok (.iconst 4, 1) := by decide +kernel
theorem dX13_forceOf_91 : decode cX13_forceOf 91 = .ok (.iload_n 1, 1) := by decide +kernel
theorem dX13_forceOf_92 : decode cX13_forceOf 92 = .ok (.imul, 1) := by decide +kernel
theorem dX13_forceOf_93 : decode cX13_forceOf 93 = .ok (.iconst 1, 1) := by decide +kernel
theorem dX13_forceOf_94 : decode cX13_forceOf 94 = .ok (.iadd, 1) := by decide +kernel
theorem dX13_forceOf_95 : decode cX13_forceOf 95 = .ok (.iaload, 1) := by decide +kernel
theorem dX13_forceOf_96 : decode cX13_forceOf 96 = .ok (.iastore, 1) := by decide +kernel
theorem dX13_forceOf_97 : decode cX13_forceOf 97 = .ok (.aload_n 0, 1) := by decide +kernel
theorem dX13_forceOf_98 : decode cX13_forceOf 98 = .ok (.getfield 20, 3) := by decide +kernel
theorem dX13_forceOf_101 : decode cX13_forceOf 101 = .ok (.bipush 119, 2) := by decide +kernel
theorem dX13_forceOf_103 : decode cX13_forceOf 103 = .ok (.aload_n 0, 1) := by decide +kernel
theorem dX13_forceOf_104 : decode cX13_forceOf 104 = .ok (.iload_n 2, 1) := by decide +kernel
theorem dX13_forceOf_105 : decode cX13_forceOf 105 = .ok (.invokevirtual 361, 3) := by decide +kernel
theorem dX13_forceOf_108 : decode cX13_forceOf 108 = .ok (.iastore, 1) := by decide +kernel
theorem dX13_forceOf_109 : decode cX13_forceOf 109 = .ok (.aload_n 0, 1) := by decide +kernel
theorem dX13_forceOf_110 : decode cX13_forceOf 110 = .ok (.getfield 20, 3) := by decide +kernel
theorem dX13_forceOf_113 : decode cX13_forceOf 113 = .ok (.bipush 114, 2) := by decide +kernel
theorem dX13_forceOf_115 : decode cX13_forceOf 115 = .ok (.iload 5, 2) := by decide +kernel
theorem dX13_forceOf_117 : decode cX13_forceOf 117 = .ok (.iastore, 1) := by decide +kernel
theorem dX13_forceOf_118 : decode cX13_forceOf 118 = .ok (.aload_n 0, 1) := by decide +kernel
theorem dX13_forceOf_119 : decode cX13_forceOf 119 = .ok (.aload_n 0, 1) := by decide +kernel
theorem dX13_forceOf_120 : decode cX13_forceOf 120 = .ok (.getfield 13, 3) := by decide +kernel
theorem dX13_forceOf_123 : decode cX13_forceOf 123 = .ok (.sipush 160, 3) := by decide +kernel
theorem dX13_forceOf_126 : decode cX13_forceOf 126 = .ok (.aload_n 0, 1) := by decide +kernel
theorem dX13_forceOf_127 : decode cX13_forceOf 127 = .ok (.getfield 64, 3) := by decide +kernel
theorem dX13_forceOf_130 : decode cX13_forceOf 130 = .ok (.imul, 1) := by decide +kernel
theorem dX13_forceOf_131 : decode cX13_forceOf 131 = .ok (.aload_n 0, 1) := by decide +kernel
theorem dX13_forceOf_132 : decode cX13_forceOf 132 = .ok (.getfield 16, 3) := by decide +kernel
theorem dX13_forceOf_135 : decode cX13_forceOf 135 = .ok (.aload_n 0, 1) := by decide +kernel
theorem dX13_forceOf_136 : decode cX13_forceOf 136 = .ok (.getfield 64, 3) := by decide +kernel
theorem dX13_forceOf_139 : decode cX13_forceOf 139 = .ok (.iaload, 1) := by decide +kernel
theorem dX13_forceOf_140 : decode cX13_forceOf 140 = .ok (.invokevirtual 321, 3) := by decide +kernel
theorem dX13_forceOf_143 : decode cX13_forceOf 143 = .ok (.aload_n 0, 1) := by decide +kernel
theorem dX13_forceOf_144 : decode cX13_forceOf 144 = .ok (.getfield 256, 3) := by decide +kernel
theorem dX13_forceOf_147 : decode cX13_forceOf 147 = .ok (.istore 6, 2) := by decide +kernel
theorem dX13_forceOf_149 : decode cX13_forceOf 149 = .ok (.iconst 0, 1) := by decide +kernel
theorem dX13_forceOf_150 : decode cX13_forceOf 150 = .ok (.sipush 999, 3) := by decide +kernel
theorem dX13_forceOf_153 : decode cX13_forceOf 153 = .ok (.iload 6, 2) := by decide +kernel
theorem dX13_forceOf_155 : decode cX13_forceOf 155 = .ok (.invokestatic 376, 3) := by decide +kernel
theorem dX13_forceOf_158 : decode cX13_forceOf 158 = .ok (.invokestatic 378, 3) := by decide +kernel
theorem dX13_forceOf_161 : decode cX13_forceOf 161 = .ok (.ireturn, 1) := by decide +kernel
def fX13_forceOf (h : eg_H) (l0 : Nat) (l1 : Int32) (l2 : Int32) (l3 : Int32) (l4 : Int32) (l5 : Int32) : Option (Int32 × eg_H) :=
  if eg_isO h 13 l0 then (
    (eg_gI h 13 34 l0).bind fun v1 =>
    if v1 = (-1 : Int32) then
      ((eg_gR h 13 20 l0).bind fun p4 =>
      (eg_aI h 100 p4 (((4 : Int32) * l1) + (1 : Int32))).bind fun v6 =>
      (fX13_blows h l0 l2).bind fun ⟨v9, h8⟩ =>
      if l5 ≤ 0 then
        ((some (((((((2 : Int32) * l3) + ((3 : Int32) * (eg_absI (l4 - (l3 / (4 : Int32)))))) - ((2 : Int32) * v6)) - v9) + ((-3 : Int32) * l5)))).bind fun v12 =>
        some ((eg_maxI (0 : Int32) (eg_minI (999 : Int32) v12)), h8))
      else
        (some (((((((2 : Int32) * l3) + ((3 : Int32) * (eg_absI (l4 - (l3 / (4 : Int32)))))) - ((2 : Int32) * v6)) - v9) + l5))).bind fun v14 =>
        some ((eg_maxI (0 : Int32) (eg_minI (999 : Int32) v14)), h8))
    else
      (eg_gR h 13 4 l0).bind fun p16 =>
      (eg_wI h 100 p16 (100 : Int32) l3).bind fun h18 =>
      (eg_gR h18 13 4 l0).bind fun p20 =>
      (eg_wI h18 100 p20 (98 : Int32) l4).bind fun h22 =>
      (eg_gR h22 13 4 l0).bind fun p24 =>
      (eg_gR h22 13 20 l0).bind fun p26 =>
      (eg_aI h22 100 p26 (((4 : Int32) * l1) + (1 : Int32))).bind fun v28 =>
      (eg_wI h22 100 p24 (97 : Int32) v28).bind fun h30 =>
      (eg_gR h30 13 4 l0).bind fun p32 =>
      (fX13_blows h30 l0 l2).bind fun ⟨v35, h34⟩ =>
      (eg_wI h34 100 p32 (119 : Int32) v35).bind fun h37 =>
      (eg_gR h37 13 4 l0).bind fun p39 =>
      (eg_wI h37 100 p39 (114 : Int32) l5).bind fun h41 =>
      (eg_gR h41 13 2 l0).bind fun p43 =>
      (eg_gI h41 13 34 l0).bind fun v45 =>
      (eg_gR h41 13 3 l0).bind fun p47 =>
      (eg_gI h41 13 34 l0).bind fun v49 =>
      (eg_aI h41 100 p47 v49).bind fun v51 =>
      (fX13_goThrough h41 l0 p43 ((160 : Int32) * v45) v51).bind fun h53 =>
      (eg_gI h53 13 14 l0).bind fun v55 =>
      some ((eg_maxI (0 : Int32) (eg_minI (999 : Int32) v55)), h53)) else none
theorem fX13_forceOf_O {h : eg_H} {l0 : Nat} {l1 : Int32} {l2 : Int32} {l3 : Int32} {l4 : Int32} {l5 : Int32} {rE : Int32} {hE : eg_H} (hF : fX13_forceOf h l0 l1 l2 l3 l4 l5 = some (rE, hE)) : eg_isO h 13 l0 := (eg_ifn hF).1
set_option maxRecDepth 20000 in
theorem mX13_forceOf {h : eg_H} {l0 : Nat} {l1 : Int32} {l2 : Int32} {l3 : Int32} {l4 : Int32} {l5 : Int32} {rE : Int32} {hE : eg_H} (hF : fX13_forceOf h l0 l1 l2 l3 l4 l5 = some (rE, hE)) : eg_Met yX13_forceOf cX13_forceOf 7 (some .int) 395 [.ref l0, .int l1, .int l2, .int l3, .int l4, .int l5] h (some (.int rE)) hE := by
  refine eg_enter rfl (Nat.le_of_ble_eq_true rfl) ?_
  show eg_AW (RX13, cX13_forceOf, 7, 395, none, "forceOf", (some .int)) (eg_Zm (some (.int rE)) hE h) (eg_nc hE) (eg_ns hE) h 0 [(0, .ref l0), (1, .int l1), (2, .int l2), (3, .int l3), (4, .int l4), (5, .int l5)] [] h
  replace hF := (eg_ifn hF).2
  refine eg_aload_n (i := 0) 0 dX13_forceOf_0 rfl rfl ?_
  replace hF := eg_bind hF; obtain ⟨v1, e2, hF⟩ := hF
  refine eg_getI dX13_forceOf_1 e2 (Nat.le_of_ble_eq_true rfl) (Nat.le_of_ble_eq_true rfl) rfl ew_1468 ?_
  refine eg_iconst (v := (-1 : Int32)) dX13_forceOf_4 (by decide) ?_
  refine eg_ic_ne 63 dX13_forceOf_5 rfl (fun c3 => ?_) (fun c3 => ?_)
  · replace hF := eg_it c3 hF
    refine eg_iconst (v := (2 : Int32)) dX13_forceOf_8 (by decide) ?_
    refine eg_iload_n (i := 3) 3 dX13_forceOf_9 rfl rfl ?_
    refine eg_imul dX13_forceOf_10 ?_
    refine eg_iconst (v := (3 : Int32)) dX13_forceOf_11 (by decide) ?_
    refine eg_iload (i := 4) 4 dX13_forceOf_12 rfl ?_
    refine eg_iload_n (i := 3) 3 dX13_forceOf_14 rfl rfl ?_
    refine eg_iconst (v := (4 : Int32)) dX13_forceOf_15 (by decide) ?_
    refine eg_idiv dX13_forceOf_16 (by decide) ?_
    refine eg_isub dX13_forceOf_17 ?_
    refine eg_mabs dX13_forceOf_18 ew_1920 (Nat.le_of_ble_eq_true rfl) (Nat.le_of_ble_eq_true rfl) ?_
    refine eg_imul dX13_forceOf_21 ?_
    refine eg_iadd dX13_forceOf_22 ?_
    refine eg_iconst (v := (2 : Int32)) dX13_forceOf_23 (by decide) ?_
    refine eg_aload_n (i := 0) 0 dX13_forceOf_24 rfl rfl ?_
    replace hF := eg_bind hF; obtain ⟨p4, e5, hF⟩ := hF
    refine eg_getR dX13_forceOf_25 e5 (Nat.le_of_ble_eq_true rfl) (Nat.le_of_ble_eq_true rfl) rfl ew_1454 ?_
    refine eg_iconst (v := (4 : Int32)) dX13_forceOf_28 (by decide) ?_
    refine eg_iload_n (i := 1) 1 dX13_forceOf_29 rfl rfl ?_
    refine eg_imul dX13_forceOf_30 ?_
    refine eg_iconst (v := (1 : Int32)) dX13_forceOf_31 (by decide) ?_
    refine eg_iadd dX13_forceOf_32 ?_
    replace hF := eg_bind hF; obtain ⟨v6, e7, hF⟩ := hF
    refine eg_iald dX13_forceOf_33 e7 ?_
    refine eg_imul dX13_forceOf_34 ?_
    refine eg_isub dX13_forceOf_35 ?_
    refine eg_aload_n (i := 0) 0 dX13_forceOf_36 rfl rfl ?_
    refine eg_iload_n (i := 2) 2 dX13_forceOf_37 rfl rfl ?_
    replace hF := eg_bind hF; obtain ⟨⟨v9, h8⟩, e10, hF⟩ := hF
    refine eg_callV (c := 13) (n := 1) [.int l2] dX13_forceOf_38 (mX13_blows e10) rfl (fX13_blows_O e10) (Nat.le_of_ble_eq_true rfl) rfl ew_1904 ew_1906 ew_74 ew_110 ew_1907 hy_X13_blows rfl (Nat.le_of_ble_eq_true rfl) (Nat.le_of_ble_eq_true rfl) (Nat.le_of_ble_eq_true rfl) ?_
    refine eg_isub dX13_forceOf_41 ?_
    refine eg_iload (i := 5) 5 dX13_forceOf_42 rfl ?_
    refine eg_if_le 52 dX13_forceOf_44 rfl (fun c11 => ?_) (fun c11 => ?_)
    · replace hF := eg_it c11 hF
      refine eg_bipush (v := (-3 : Int32)) dX13_forceOf_52 (by decide) ?_
      refine eg_iload (i := 5) 5 dX13_forceOf_54 rfl ?_
      refine eg_imul dX13_forceOf_56 ?_
      refine eg_iadd dX13_forceOf_57 ?_
      replace hF := eg_bind hF; obtain ⟨v12, e13, hF⟩ := hF
      replace e13 := Option.some.inj e13
      rw [e13]
      refine eg_istore (i := 6) [(6, .int v12), (0, .ref l0), (1, .int l1), (2, .int l2), (3, .int l3), (4, .int l4), (5, .int l5)] dX13_forceOf_58 (Nat.le_of_ble_eq_true rfl) rfl ?_
      refine eg_goto 149 dX13_forceOf_60 rfl ?_
      refine eg_iconst (v := (0 : Int32)) dX13_forceOf_149 (by decide) ?_
      refine eg_sipush (v := (999 : Int32)) dX13_forceOf_150 (by decide) ?_
      refine eg_iload (i := 6) 0 dX13_forceOf_153 rfl ?_
      refine eg_mmin dX13_forceOf_155 ew_1923 (Nat.le_of_ble_eq_true rfl) (Nat.le_of_ble_eq_true rfl) ?_
      refine eg_mmax dX13_forceOf_158 ew_1924 (Nat.le_of_ble_eq_true rfl) (Nat.le_of_ble_eq_true rfl) ?_
      exact eg_iretE dX13_forceOf_161 hF
    · replace hF := eg_if c11 hF
      refine eg_iload (i := 5) 5 dX13_forceOf_47 rfl ?_
      refine eg_goto 57 dX13_forceOf_49 rfl ?_
      refine eg_iadd dX13_forceOf_57 ?_
      replace hF := eg_bind hF; obtain ⟨v14, e15, hF⟩ := hF
      replace e15 := Option.some.inj e15
      rw [e15]
      refine eg_istore (i := 6) [(6, .int v14), (0, .ref l0), (1, .int l1), (2, .int l2), (3, .int l3), (4, .int l4), (5, .int l5)] dX13_forceOf_58 (Nat.le_of_ble_eq_true rfl) rfl ?_
      refine eg_goto 149 dX13_forceOf_60 rfl ?_
      refine eg_iconst (v := (0 : Int32)) dX13_forceOf_149 (by decide) ?_
      refine eg_sipush (v := (999 : Int32)) dX13_forceOf_150 (by decide) ?_
      refine eg_iload (i := 6) 0 dX13_forceOf_153 rfl ?_
      refine eg_mmin dX13_forceOf_155 ew_1923 (Nat.le_of_ble_eq_true rfl) (Nat.le_of_ble_eq_true rfl) ?_
      refine eg_mmax dX13_forceOf_158 ew_1924 (Nat.le_of_ble_eq_true rfl) (Nat.le_of_ble_eq_true rfl) ?_
      exact eg_iretE dX13_forceOf_161 hF
  · replace hF := eg_if c3 hF
    refine eg_aload_n (i := 0) 0 dX13_forceOf_63 rfl rfl ?_
    replace hF := eg_bind hF; obtain ⟨p16, e17, hF⟩ := hF
    refine eg_getR dX13_forceOf_64 e17 (Nat.le_of_ble_eq_true rfl) (Nat.le_of_ble_eq_true rfl) rfl ew_1438 ?_
    refine eg_bipush (v := (100 : Int32)) dX13_forceOf_67 (by decide) ?_
    refine eg_iload_n (i := 3) 3 dX13_forceOf_69 rfl rfl ?_
    replace hF := eg_bind hF; obtain ⟨h18, e19, hF⟩ := hF
    refine eg_iast dX13_forceOf_70 e19 ?_
    refine eg_aload_n (i := 0) 0 dX13_forceOf_71 rfl rfl ?_
    replace hF := eg_bind hF; obtain ⟨p20, e21, hF⟩ := hF
    refine eg_getR dX13_forceOf_72 e21 (Nat.le_of_ble_eq_true rfl) (Nat.le_of_ble_eq_true rfl) rfl ew_1438 ?_
    refine eg_bipush (v := (98 : Int32)) dX13_forceOf_75 (by decide) ?_
    refine eg_iload (i := 4) 4 dX13_forceOf_77 rfl ?_
    replace hF := eg_bind hF; obtain ⟨h22, e23, hF⟩ := hF
    refine eg_iast dX13_forceOf_79 e23 ?_
    refine eg_aload_n (i := 0) 0 dX13_forceOf_80 rfl rfl ?_
    replace hF := eg_bind hF; obtain ⟨p24, e25, hF⟩ := hF
    refine eg_getR dX13_forceOf_81 e25 (Nat.le_of_ble_eq_true rfl) (Nat.le_of_ble_eq_true rfl) rfl ew_1438 ?_
    refine eg_bipush (v := (97 : Int32)) dX13_forceOf_84 (by decide) ?_
    refine eg_aload_n (i := 0) 0 dX13_forceOf_86 rfl rfl ?_
    replace hF := eg_bind hF; obtain ⟨p26, e27, hF⟩ := hF
    refine eg_getR dX13_forceOf_87 e27 (Nat.le_of_ble_eq_true rfl) (Nat.le_of_ble_eq_true rfl) rfl ew_1454 ?_
    refine eg_iconst (v := (4 : Int32)) dX13_forceOf_90 (by decide) ?_
    refine eg_iload_n (i := 1) 1 dX13_forceOf_91 rfl rfl ?_
    refine eg_imul dX13_forceOf_92 ?_
    refine eg_iconst (v := (1 : Int32)) dX13_forceOf_93 (by decide) ?_
    refine eg_iadd dX13_forceOf_94 ?_
    replace hF := eg_bind hF; obtain ⟨v28, e29, hF⟩ := hF
    refine eg_iald dX13_forceOf_95 e29 ?_
    replace hF := eg_bind hF; obtain ⟨h30, e31, hF⟩ := hF
    refine eg_iast dX13_forceOf_96 e31 ?_
    refine eg_aload_n (i := 0) 0 dX13_forceOf_97 rfl rfl ?_
    replace hF := eg_bind hF; obtain ⟨p32, e33, hF⟩ := hF
    refine eg_getR dX13_forceOf_98 e33 (Nat.le_of_ble_eq_true rfl) (Nat.le_of_ble_eq_true rfl) rfl ew_1438 ?_
    refine eg_bipush (v := (119 : Int32)) dX13_forceOf_101 (by decide) ?_
    refine eg_aload_n (i := 0) 0 dX13_forceOf_103 rfl rfl ?_
    refine eg_iload_n (i := 2) 2 dX13_forceOf_104 rfl rfl ?_
    replace hF := eg_bind hF; obtain ⟨⟨v35, h34⟩, e36, hF⟩ := hF
    refine eg_callV (c := 13) (n := 1) [.int l2] dX13_forceOf_105 (mX13_blows e36) rfl (fX13_blows_O e36) (Nat.le_of_ble_eq_true rfl) rfl ew_1904 ew_1906 ew_74 ew_110 ew_1907 hy_X13_blows rfl (Nat.le_of_ble_eq_true rfl) (Nat.le_of_ble_eq_true rfl) (Nat.le_of_ble_eq_true rfl) ?_
    replace hF := eg_bind hF; obtain ⟨h37, e38, hF⟩ := hF
    refine eg_iast dX13_forceOf_108 e38 ?_
    refine eg_aload_n (i := 0) 0 dX13_forceOf_109 rfl rfl ?_
    replace hF := eg_bind hF; obtain ⟨p39, e40, hF⟩ := hF
    refine eg_getR dX13_forceOf_110 e40 (Nat.le_of_ble_eq_true rfl) (Nat.le_of_ble_eq_true rfl) rfl ew_1438 ?_
    refine eg_bipush (v := (114 : Int32)) dX13_forceOf_113 (by decide) ?_
    refine eg_iload (i := 5) 5 dX13_forceOf_115 rfl ?_
    replace hF := eg_bind hF; obtain ⟨h41, e42, hF⟩ := hF
    refine eg_iast dX13_forceOf_117 e42 ?_
    refine eg_aload_n (i := 0) 0 dX13_forceOf_118 rfl rfl ?_
    refine eg_aload_n (i := 0) 0 dX13_forceOf_119 rfl rfl ?_
    replace hF := eg_bind hF; obtain ⟨p43, e44, hF⟩ := hF
    refine eg_getR dX13_forceOf_120 e44 (Nat.le_of_ble_eq_true rfl) (Nat.le_of_ble_eq_true rfl) rfl ew_1436 ?_
    refine eg_sipush (v := (160 : Int32)) dX13_forceOf_123 (by decide) ?_
    refine eg_aload_n (i := 0) 0 dX13_forceOf_126 rfl rfl ?_
    replace hF := eg_bind hF; obtain ⟨v45, e46, hF⟩ := hF
    refine eg_getI dX13_forceOf_127 e46 (Nat.le_of_ble_eq_true rfl) (Nat.le_of_ble_eq_true rfl) rfl ew_1468 ?_
    refine eg_imul dX13_forceOf_130 ?_
    refine eg_aload_n (i := 0) 0 dX13_forceOf_131 rfl rfl ?_
    replace hF := eg_bind hF; obtain ⟨p47, e48, hF⟩ := hF
    refine eg_getR dX13_forceOf_132 e48 (Nat.le_of_ble_eq_true rfl) (Nat.le_of_ble_eq_true rfl) rfl ew_1437 ?_
    refine eg_aload_n (i := 0) 0 dX13_forceOf_135 rfl rfl ?_
    replace hF := eg_bind hF; obtain ⟨v49, e50, hF⟩ := hF
    refine eg_getI dX13_forceOf_136 e50 (Nat.le_of_ble_eq_true rfl) (Nat.le_of_ble_eq_true rfl) rfl ew_1468 ?_
    replace hF := eg_bind hF; obtain ⟨v51, e52, hF⟩ := hF
    refine eg_iald dX13_forceOf_139 e52 ?_
    replace hF := eg_bind hF; obtain ⟨h53, e54, hF⟩ := hF
    refine eg_callV (c := 13) (n := 3) [.ref p43, .int ((160 : Int32) * v45), .int v51] dX13_forceOf_140 (mX13_goThrough e54) rfl (fX13_goThrough_O e54) (Nat.le_of_ble_eq_true rfl) rfl ew_1798 ew_1800 ew_59 ew_110 ew_1801 hy_X13_goThrough rfl (Nat.le_of_ble_eq_true rfl) (Nat.le_of_ble_eq_true rfl) (Nat.le_of_ble_eq_true rfl) ?_
    refine eg_aload_n (i := 0) 0 dX13_forceOf_143 rfl rfl ?_
    replace hF := eg_bind hF; obtain ⟨v55, e56, hF⟩ := hF
    refine eg_getI dX13_forceOf_144 e56 (Nat.le_of_ble_eq_true rfl) (Nat.le_of_ble_eq_true rfl) rfl ew_1448 ?_
    refine eg_istore (i := 6) [(6, .int v55), (0, .ref l0), (1, .int l1), (2, .int l2), (3, .int l3), (4, .int l4), (5, .int l5)] dX13_forceOf_147 (Nat.le_of_ble_eq_true rfl) rfl ?_
    refine eg_iconst (v := (0 : Int32)) dX13_forceOf_149 (by decide) ?_
    refine eg_sipush (v := (999 : Int32)) dX13_forceOf_150 (by decide) ?_
    refine eg_iload (i := 6) 0 dX13_forceOf_153 rfl ?_
    refine eg_mmin dX13_forceOf_155 ew_1923 (Nat.le_of_ble_eq_true rfl) (Nat.le_of_ble_eq_true rfl) ?_
    refine eg_mmax dX13_forceOf_158 ew_1924 (Nat.le_of_ble_eq_true rfl) (Nat.le_of_ble_eq_true rfl) ?_
    exact eg_iretE dX13_forceOf_161 hF
theorem dX13_force_0 : decode cX13_force 0 = .ok (.aload_n 0, 1) := by decide +kernel
theorem dX13_force_1 : decode cX13_force 1 = .ok (.iconst 0, 1) := by decide +kernel
theorem dX13_force_2 : decode cX13_force 2 = .ok (.putfield 148, 3) := by decide +kernel
theorem dX13_force_5 : decode cX13_force 5 = .ok (.aload_n 0, 1) := by decide +kernel
theorem dX13_force_6 : decode cX13_force 6 = .ok (.iload_n 1, 1) := by decide +kernel
theorem dX13_force_7 : decode cX13_force 7 = .ok (.invokevirtual 353, 3) := by decide +kernel
theorem dX13_force_10 : decode cX13_force 10 = .ok (.ifCond .eq 53, 3) := by decide +kernel
theorem dX13_force_13 : decode cX13_force 13 = .ok (.iload_n 2, 1) := by decide +kernel
theorem dX13_force_14 : decode cX13_force 14 = .ok (.i2l, 1) := by decide +kernel
theorem dX13_force_15 : decode cX13_force 15 = .ok (.lconst 0, 1) := by decide +kernel
theorem dX13_force_16 : decode cX13_force 16 = .ok (.lconst 1, 1) := by decide +kernel
theorem dX13_force_17 : decode cX13_force 17 = .ok (.invokestatic 269, 3) := by decide +kernel
theorem dX13_force_20 : decode cX13_force 20 = .ok (.ifCond .eq 43, 3) := by decide +kernel
theorem dX13_force_23 : decode cX13_force 23 = .ok (.iload_n 3, 1) := by decide +kernel
theorem dX13_force_24 : decode cX13_force 24 = .ok (.i2l, 1) := by decide +kernel
theorem dX13_force_25 : decode cX13_force 25 = .ok (.lconst 1, 1) := by decide +kernel
theorem dX13_force_26 : decode cX13_force 26 = .ok (.ldc2_w 380, 3) := by decide +kernel
theorem dX13_force_29 : decode cX13_force 29 = .ok (.invokestatic 269, 3) := by decide +kernel
theorem dX13_force_32 : decode cX13_force 32 = .ok (.ifCond .eq 31, 3) := by decide +kernel
theorem dX13_force_35 : decode cX13_force 35 = .ok (.iload 4, 2) := by decide +kernel
theorem dX13_force_37 : decode cX13_force 37 = .ok (.i2l, 1) := by decide +kernel
theorem dX13_force_38 : decode cX13_force 38 = .ok (.lconst 0, 1) := by decide +kernel
theorem dX13_force_39 : decode cX13_force 39 = .ok (.ldc2_w 382, 3) := by decide +kernel
theorem dX13_force_42 : decode cX13_force 42 = .ok (.invokestatic 269, 3) := by decide +kernel
theorem dX13_force_45 : decode cX13_force 45 = .ok (.ifCond .eq 18, 3) := by decide +kernel
theorem dX13_force_48 : decode cX13_force 48 = .ok (.iload 5, 2) := by decide +kernel
theorem dX13_force_50 : decode cX13_force 50 = .ok (.i2l, 1) := by decide +kernel
theorem dX13_force_51 : decode cX13_force 51 = .ok (.ldc2_w 384, 3) := by decide +kernel
theorem dX13_force_54 : decode cX13_force 54 = .ok (.ldc2_w 386, 3) := by decide +kernel
theorem dX13_force_57 : decode cX13_force 57 = .ok (.invokestatic 269, 3) := by decide +kernel
theorem dX13_force_60 : decode cX13_force 60 = .ok (.ifCond .ne 7, 3) := by decide +kernel
theorem dX13_force_63 : decode cX13_force 63 = .ok (.ldc_w 368, 3) := by decide +kernel
theorem dX13_force_66 : decode cX13_force 66 = .ok (.ireturn, 1) := by decide +kernel
theorem dX13_force_67 : decode cX13_force 67 = .ok (.aload_n 0, 1) := by decide +kernel
theorem dX13_force_68 : decode cX13_force 68 = .ok (.iload_n 1, 1) := by decide +kernel
theorem dX13_force_69 : decode cX13_force 69 = .ok (.iload_n 2, 1) := by decide +kernel
theorem dX13_force_70 : decode cX13_force 70 = .ok (.iload_n 3, 1) := by decide +kernel
theorem dX13_force_71 : decode cX13_force 71 = .ok (.iload 4, 2) := by decide +kernel
theorem dX13_force_73 : decode cX13_force 73 = .ok (.iload 5, 2) := by decide +kernel
theorem dX13_force_75 : decode cX13_force 75 = .ok (.invokevirtual 388, 3) := by decide +kernel
theorem dX13_force_78 : decode cX13_force 78 = .ok (.ireturn, 1) := by decide +kernel
def fX13_force (h : eg_H) (l0 : Nat) (l1 : Int32) (l2 : Int32) (l3 : Int32) (l4 : Int32) (l5 : Int32) : Option (Int32 × eg_H) :=
  if eg_isO h 13 l0 then (
    (eg_pI h 13 0 l0 (0 : Int32)).bind fun h1 =>
    (fX13_isPerson h1 l0 l1).bind fun ⟨v4, h3⟩ =>
    if v4 = 0 then
      (some ((-1000000 : Int32), h3))
    else
      (fX13_isIn h3 l2.toInt64 (0 : Int64) (1 : Int64)).bind fun ⟨v8, h7⟩ =>
      if v8 = 0 then
        (some ((-1000000 : Int32), h7))
      else
        (fX13_isIn h7 l3.toInt64 (1 : Int64) (60 : Int64)).bind fun ⟨v12, h11⟩ =>
        if v12 = 0 then
          (some ((-1000000 : Int32), h11))
        else
          (fX13_isIn h11 l4.toInt64 (0 : Int64) (9 : Int64)).bind fun ⟨v16, h15⟩ =>
          if v16 = 0 then
            (some ((-1000000 : Int32), h15))
          else
            (fX13_isIn h15 l5.toInt64 (-99 : Int64) (99 : Int64)).bind fun ⟨v20, h19⟩ =>
            if v20 = 0 then
              (some ((-1000000 : Int32), h19))
            else
              (fX13_forceOf h19 l0 l1 l2 l3 l4 l5).bind fun ⟨v24, h23⟩ =>
              some (v24, h23)) else none
theorem fX13_force_O {h : eg_H} {l0 : Nat} {l1 : Int32} {l2 : Int32} {l3 : Int32} {l4 : Int32} {l5 : Int32} {rE : Int32} {hE : eg_H} (hF : fX13_force h l0 l1 l2 l3 l4 l5 = some (rE, hE)) : eg_isO h 13 l0 := (eg_ifn hF).1
set_option maxRecDepth 20000 in
theorem mX13_force {h : eg_H} {l0 : Nat} {l1 : Int32} {l2 : Int32} {l3 : Int32} {l4 : Int32} {l5 : Int32} {rE : Int32} {hE : eg_H} (hF : fX13_force h l0 l1 l2 l3 l4 l5 = some (rE, hE)) : eg_Met yX13_force cX13_force 6 (some .int) 396 [.ref l0, .int l1, .int l2, .int l3, .int l4, .int l5] h (some (.int rE)) hE := by
  refine eg_enter rfl (Nat.le_of_ble_eq_true rfl) ?_
  show eg_AW (RX13, cX13_force, 6, 396, none, "force", (some .int)) (eg_Zm (some (.int rE)) hE h) (eg_nc hE) (eg_ns hE) h 0 [(0, .ref l0), (1, .int l1), (2, .int l2), (3, .int l3), (4, .int l4), (5, .int l5)] [] h
  replace hF := (eg_ifn hF).2
  refine eg_aload_n (i := 0) 0 dX13_force_0 rfl rfl ?_
  refine eg_iconst (v := (0 : Int32)) dX13_force_1 (by decide) ?_
  replace hF := eg_bind hF; obtain ⟨h1, e2, hF⟩ := hF
  refine eg_putI dX13_force_2 e2 (Nat.le_of_ble_eq_true rfl) (Nat.le_of_ble_eq_true rfl) rfl ew_1434 (Or.inl rfl) ?_
  refine eg_aload_n (i := 0) 0 dX13_force_5 rfl rfl ?_
  refine eg_iload_n (i := 1) 1 dX13_force_6 rfl rfl ?_
  replace hF := eg_bind hF; obtain ⟨⟨v4, h3⟩, e5, hF⟩ := hF
  refine eg_callV (c := 13) (n := 1) [.int l1] dX13_force_7 (mX13_isPerson e5) rfl (fX13_isPerson_O e5) (Nat.le_of_ble_eq_true rfl) rfl ew_1872 ew_1874 ew_71 ew_110 ew_1875 hy_X13_isPerson rfl (Nat.le_of_ble_eq_true rfl) (Nat.le_of_ble_eq_true rfl) (Nat.le_of_ble_eq_true rfl) ?_
  refine eg_if_eq 63 dX13_force_10 rfl (fun c6 => ?_) (fun c6 => ?_)
  · replace hF := eg_it c6 hF
    refine eg_ldcw (v := (-1000000 : Int32)) dX13_force_63 ew_1899 ?_
    exact eg_iretE dX13_force_66 hF
  · replace hF := eg_if c6 hF
    refine eg_iload_n (i := 2) 2 dX13_force_13 rfl rfl ?_
    refine eg_i2l dX13_force_14 ?_
    refine eg_lconst (v := (0 : Int64)) dX13_force_15 (by decide) ?_
    refine eg_lconst (v := (1 : Int64)) dX13_force_16 (by decide) ?_
    replace hF := eg_bind hF; obtain ⟨⟨v8, h7⟩, e9, hF⟩ := hF
    refine eg_callS (n := 3) [.long l2.toInt64, .long (0 : Int64), .long (1 : Int64)] dX13_force_17 (mX13_isIn e9) rfl ew_1697 ew_1698 ew_110 ew_1699 hy_X13_isIn.2 rfl (Nat.le_of_ble_eq_true rfl) (Nat.le_of_ble_eq_true rfl) (Nat.le_of_ble_eq_true rfl) ?_
    refine eg_if_eq 63 dX13_force_20 rfl (fun c10 => ?_) (fun c10 => ?_)
    · replace hF := eg_it c10 hF
      refine eg_ldcw (v := (-1000000 : Int32)) dX13_force_63 ew_1899 ?_
      exact eg_iretE dX13_force_66 hF
    · replace hF := eg_if c10 hF
      refine eg_iload_n (i := 3) 3 dX13_force_23 rfl rfl ?_
      refine eg_i2l dX13_force_24 ?_
      refine eg_lconst (v := (1 : Int64)) dX13_force_25 (by decide) ?_
      refine eg_ldc2 (v := (60 : Int64)) dX13_force_26 ew_1912 ?_
      replace hF := eg_bind hF; obtain ⟨⟨v12, h11⟩, e13, hF⟩ := hF
      refine eg_callS (n := 3) [.long l3.toInt64, .long (1 : Int64), .long (60 : Int64)] dX13_force_29 (mX13_isIn e13) rfl ew_1697 ew_1698 ew_110 ew_1699 hy_X13_isIn.2 rfl (Nat.le_of_ble_eq_true rfl) (Nat.le_of_ble_eq_true rfl) (Nat.le_of_ble_eq_true rfl) ?_
      refine eg_if_eq 63 dX13_force_32 rfl (fun c14 => ?_) (fun c14 => ?_)
      · replace hF := eg_it c14 hF
        refine eg_ldcw (v := (-1000000 : Int32)) dX13_force_63 ew_1899 ?_
        exact eg_iretE dX13_force_66 hF
      · replace hF := eg_if c14 hF
        refine eg_iload (i := 4) 4 dX13_force_35 rfl ?_
        refine eg_i2l dX13_force_37 ?_
        refine eg_lconst (v := (0 : Int64)) dX13_force_38 (by decide) ?_
        refine eg_ldc2 (v := (9 : Int64)) dX13_force_39 ew_1913 ?_
        replace hF := eg_bind hF; obtain ⟨⟨v16, h15⟩, e17, hF⟩ := hF
        refine eg_callS (n := 3) [.long l4.toInt64, .long (0 : Int64), .long (9 : Int64)] dX13_force_42 (mX13_isIn e17) rfl ew_1697 ew_1698 ew_110 ew_1699 hy_X13_isIn.2 rfl (Nat.le_of_ble_eq_true rfl) (Nat.le_of_ble_eq_true rfl) (Nat.le_of_ble_eq_true rfl) ?_
        refine eg_if_eq 63 dX13_force_45 rfl (fun c18 => ?_) (fun c18 => ?_)
        · replace hF := eg_it c18 hF
          refine eg_ldcw (v := (-1000000 : Int32)) dX13_force_63 ew_1899 ?_
          exact eg_iretE dX13_force_66 hF
        · replace hF := eg_if c18 hF
          refine eg_iload (i := 5) 5 dX13_force_48 rfl ?_
          refine eg_i2l dX13_force_50 ?_
          refine eg_ldc2 (v := (-99 : Int64)) dX13_force_51 ew_1914 ?_
          refine eg_ldc2 (v := (99 : Int64)) dX13_force_54 ew_1915 ?_
          replace hF := eg_bind hF; obtain ⟨⟨v20, h19⟩, e21, hF⟩ := hF
          refine eg_callS (n := 3) [.long l5.toInt64, .long (-99 : Int64), .long (99 : Int64)] dX13_force_57 (mX13_isIn e21) rfl ew_1697 ew_1698 ew_110 ew_1699 hy_X13_isIn.2 rfl (Nat.le_of_ble_eq_true rfl) (Nat.le_of_ble_eq_true rfl) (Nat.le_of_ble_eq_true rfl) ?_
          refine eg_if_ne 67 dX13_force_60 rfl (fun c22 => ?_) (fun c22 => ?_)
          · replace hF := eg_it c22 hF
            refine eg_ldcw (v := (-1000000 : Int32)) dX13_force_63 ew_1899 ?_
            exact eg_iretE dX13_force_66 hF
          · replace hF := eg_if c22 hF
            refine eg_aload_n (i := 0) 0 dX13_force_67 rfl rfl ?_
            refine eg_iload_n (i := 1) 1 dX13_force_68 rfl rfl ?_
            refine eg_iload_n (i := 2) 2 dX13_force_69 rfl rfl ?_
            refine eg_iload_n (i := 3) 3 dX13_force_70 rfl rfl ?_
            refine eg_iload (i := 4) 4 dX13_force_71 rfl ?_
            refine eg_iload (i := 5) 5 dX13_force_73 rfl ?_
            replace hF := eg_bind hF; obtain ⟨⟨v24, h23⟩, e25, hF⟩ := hF
            refine eg_callV (c := 13) (n := 5) [.int l1, .int l2, .int l3, .int l4, .int l5] dX13_force_75 (mX13_forceOf e25) rfl (fX13_forceOf_O e25) (Nat.le_of_ble_eq_true rfl) rfl ew_1916 ew_1918 ew_75 ew_110 ew_1919 hy_X13_forceOf rfl (Nat.le_of_ble_eq_true rfl) (Nat.le_of_ble_eq_true rfl) (Nat.le_of_ble_eq_true rfl) ?_
            exact eg_iretE dX13_force_78 hF
theorem dX13_bears_0 : decode cX13_bears 0 = .ok (.iload_n 2, 1) := by decide +kernel
theorem dX13_bears_1 : decode cX13_bears 1 = .ok (.aload_n 0, 1) := by decide +kernel
theorem dX13_bears_2 : decode cX13_bears 2 = .ok (.getfield 49, 3) := by decide +kernel
theorem dX13_bears_5 : decode cX13_bears 5 = .ok (.iconst 2, 1) := by decide +kernel
theorem dX13_bears_6 : decode cX13_bears 6 = .ok (.iload_n 1, 1) := by decide +kernel
theorem dX13_bears_7 : decode cX13_bears 7 = .ok (.imul, 1) := by decide +kernel
theorem dX13_bears_8 : decode cX13_bears 8 = .ok (.iconst 1, 1) := by decide +kernel
theorem dX13_bears_9 : decode cX13_bears 9 = .ok (.iadd, 1) := by decide +kernel
theorem dX13_bears_10 : decode cX13_bears 10 = .ok (.iaload, 1) := by decide +kernel
theorem dX13_bears_11 : decode cX13_bears 11 = .ok (.iconst 1, 1) := by decide +kernel
theorem dX13_bears_12 : decode cX13_bears 12 = .ok (.if_icmp .ne 16, 3) := by decide +kernel
theorem dX13_bears_15 : decode cX13_bears 15 = .ok (.aload_n 0, 1) := by decide +kernel
theorem dX13_bears_16 : decode cX13_bears 16 = .ok (.getfield 49, 3) := by decide +kernel
theorem dX13_bears_19 : decode cX13_bears 19 = .ok (.iconst 2, 1) := by decide +kernel
theorem dX13_bears_20 : decode cX13_bears 20 = .ok (.iload_n 1, 1) := by decide +kernel
theorem dX13_bears_21 : decode cX13_bears 21 = .ok (.imul, 1) := by decide +kernel
theorem dX13_bears_22 : decode cX13_bears 22 = .ok (.iaload, 1) := by decide +kernel
theorem dX13_bears_23 : decode cX13_bears 23 = .ok (.iconst 2, 1) := by decide +kernel
theorem dX13_bears_24 : decode cX13_bears 24 = .ok (.idiv, 1) := by decide +kernel
theorem dX13_bears_25 : decode cX13_bears 25 = .ok (.goto 11, 3) := by decide +kernel
theorem dX13_bears_28 : decode cX13_bears 28 = .ok (.aload_n 0, 1) := by decide +kernel
theorem dX13_bears_29 : decode cX13_bears 29 = .ok (.getfield 49, 3) := by decide +kernel
theorem dX13_bears_32 : decode cX13_bears 32 = .ok (.iconst 2, 1) := by decide +kernel
theorem dX13_bears_33 : decode cX13_bears 33 = .ok (.iload_n 1, 1) := by decide +kernel
theorem dX13_bears_34 : decode cX13_bears 34 = .ok (.imul, 1) := by decide +kernel
theorem dX13_bears_35 : decode cX13_bears 35 = .ok (.iaload, 1) := by decide +kernel
theorem dX13_bears_36 : decode cX13_bears 36 = .ok (.if_icmp .gt 7, 3) := by decide +kernel
theorem dX13_bears_39 : decode cX13_bears 39 = .ok (.iconst 1, 1) := by decide +kernel
theorem dX13_bears_40 : decode cX13_bears 40 = .ok (.goto 4, 3) := by decide +kernel
theorem dX13_bears_43 : decode cX13_bears 43 = .ok (.iconst 0, 1) := by decide +kernel
theorem dX13_bears_44 : decode cX13_bears 44 = .ok (.ireturn, 1) := by decide +kernel
def fX13_bears (h : eg_H) (l0 : Nat) (l1 : Int32) (l2 : Int32) : Option (Int32 × eg_H) :=
  if eg_isO h 13 l0 then (
    (eg_gR h 13 22 l0).bind fun p1 =>
    (eg_aI h 100 p1 (((2 : Int32) * l1) + (1 : Int32))).bind fun v3 =>
    if v3 = (1 : Int32) then
      ((eg_gR h 13 22 l0).bind fun p6 =>
      (eg_aI h 100 p6 ((2 : Int32) * l1)).bind fun v8 =>
      if (v8 / (2 : Int32)) < l2 then
        (some ((0 : Int32), h))
      else
        some ((1 : Int32), h))
    else
      (eg_gR h 13 22 l0).bind fun p11 =>
      (eg_aI h 100 p11 ((2 : Int32) * l1)).bind fun v13 =>
      if v13 < l2 then
        (some ((0 : Int32), h))
      else
        some ((1 : Int32), h)) else none
theorem fX13_bears_O {h : eg_H} {l0 : Nat} {l1 : Int32} {l2 : Int32} {rE : Int32} {hE : eg_H} (hF : fX13_bears h l0 l1 l2 = some (rE, hE)) : eg_isO h 13 l0 := (eg_ifn hF).1
set_option maxRecDepth 20000 in
theorem mX13_bears {h : eg_H} {l0 : Nat} {l1 : Int32} {l2 : Int32} {rE : Int32} {hE : eg_H} (hF : fX13_bears h l0 l1 l2 = some (rE, hE)) : eg_Met yX13_bears cX13_bears 3 (some .boolean) 1 [.ref l0, .int l1, .int l2] h (some (.int rE)) hE := by
  refine eg_enter rfl (Nat.le_of_ble_eq_true rfl) ?_
  show eg_AW (RX13, cX13_bears, 3, 1, none, "bears", (some .boolean)) (eg_Zm (some (.int rE)) hE h) (eg_nc hE) (eg_ns hE) h 0 [(0, .ref l0), (1, .int l1), (2, .int l2)] [] h
  replace hF := (eg_ifn hF).2
  refine eg_iload_n (i := 2) 2 dX13_bears_0 rfl rfl ?_
  refine eg_aload_n (i := 0) 0 dX13_bears_1 rfl rfl ?_
  replace hF := eg_bind hF; obtain ⟨p1, e2, hF⟩ := hF
  refine eg_getR dX13_bears_2 e2 (Nat.le_of_ble_eq_true rfl) (Nat.le_of_ble_eq_true rfl) rfl ew_1456 ?_
  refine eg_iconst (v := (2 : Int32)) dX13_bears_5 (by decide) ?_
  refine eg_iload_n (i := 1) 1 dX13_bears_6 rfl rfl ?_
  refine eg_imul dX13_bears_7 ?_
  refine eg_iconst (v := (1 : Int32)) dX13_bears_8 (by decide) ?_
  refine eg_iadd dX13_bears_9 ?_
  replace hF := eg_bind hF; obtain ⟨v3, e4, hF⟩ := hF
  refine eg_iald dX13_bears_10 e4 ?_
  refine eg_iconst (v := (1 : Int32)) dX13_bears_11 (by decide) ?_
  refine eg_ic_ne 28 dX13_bears_12 rfl (fun c5 => ?_) (fun c5 => ?_)
  · replace hF := eg_it c5 hF
    refine eg_aload_n (i := 0) 0 dX13_bears_15 rfl rfl ?_
    replace hF := eg_bind hF; obtain ⟨p6, e7, hF⟩ := hF
    refine eg_getR dX13_bears_16 e7 (Nat.le_of_ble_eq_true rfl) (Nat.le_of_ble_eq_true rfl) rfl ew_1456 ?_
    refine eg_iconst (v := (2 : Int32)) dX13_bears_19 (by decide) ?_
    refine eg_iload_n (i := 1) 1 dX13_bears_20 rfl rfl ?_
    refine eg_imul dX13_bears_21 ?_
    replace hF := eg_bind hF; obtain ⟨v8, e9, hF⟩ := hF
    refine eg_iald dX13_bears_22 e9 ?_
    refine eg_iconst (v := (2 : Int32)) dX13_bears_23 (by decide) ?_
    refine eg_idiv dX13_bears_24 (by decide) ?_
    refine eg_goto 36 dX13_bears_25 rfl ?_
    refine eg_ic_gt 43 dX13_bears_36 rfl (fun c10 => ?_) (fun c10 => ?_)
    · replace hF := eg_it c10 hF
      refine eg_iconst (v := (0 : Int32)) dX13_bears_43 (by decide) ?_
      exact eg_zretE dX13_bears_44 (Or.inl rfl) hF
    · replace hF := eg_if c10 hF
      refine eg_iconst (v := (1 : Int32)) dX13_bears_39 (by decide) ?_
      refine eg_goto 44 dX13_bears_40 rfl ?_
      exact eg_zretE dX13_bears_44 (Or.inr rfl) hF
  · replace hF := eg_if c5 hF
    refine eg_aload_n (i := 0) 0 dX13_bears_28 rfl rfl ?_
    replace hF := eg_bind hF; obtain ⟨p11, e12, hF⟩ := hF
    refine eg_getR dX13_bears_29 e12 (Nat.le_of_ble_eq_true rfl) (Nat.le_of_ble_eq_true rfl) rfl ew_1456 ?_
    refine eg_iconst (v := (2 : Int32)) dX13_bears_32 (by decide) ?_
    refine eg_iload_n (i := 1) 1 dX13_bears_33 rfl rfl ?_
    refine eg_imul dX13_bears_34 ?_
    replace hF := eg_bind hF; obtain ⟨v13, e14, hF⟩ := hF
    refine eg_iald dX13_bears_35 e14 ?_
    refine eg_ic_gt 43 dX13_bears_36 rfl (fun c15 => ?_) (fun c15 => ?_)
    · replace hF := eg_it c15 hF
      refine eg_iconst (v := (0 : Int32)) dX13_bears_43 (by decide) ?_
      exact eg_zretE dX13_bears_44 (Or.inl rfl) hF
    · replace hF := eg_if c15 hF
      refine eg_iconst (v := (1 : Int32)) dX13_bears_39 (by decide) ?_
      refine eg_goto 44 dX13_bears_40 rfl ?_
      exact eg_zretE dX13_bears_44 (Or.inr rfl) hF
theorem dX13_layHolds_0 : decode cX13_layHolds 0 = .ok (.aload_n 0, 1) := by decide +kernel
theorem dX13_layHolds_1 : decode cX13_layHolds 1 = .ok (.getfield 43, 3) := by decide +kernel
theorem dX13_layHolds_4 : decode cX13_layHolds 4 = .ok (.iconst 4, 1) := by decide +kernel
theorem dX13_layHolds_5 : decode cX13_layHolds 5 = .ok (.iload_n 1, 1) := by decide +kernel
theorem dX13_layHolds_6 : decode cX13_layHolds 6 = .ok (.imul, 1) := by decide +kernel
theorem dX13_layHolds_7 : decode cX13_layHolds 7 = .ok (.iconst 2, 1) := by decide +kernel
theorem dX13_layHolds_8 : decode cX13_layHolds 8 = .ok (.iadd, 1) := by decide +kernel
theorem dX13_layHolds_9 : decode cX13_layHolds 9 = .ok (.iaload, 1) := by decide +kernel
theorem dX13_layHolds_10 : decode cX13_layHolds 10 = .ok (.istore 5, 2) := by decide +kernel
theorem dX13_layHolds_12 : decode cX13_layHolds 12 = .ok (.bipush (-5), 2) := by decide +kernel
theorem dX13_layHolds_14 : decode cX13_layHolds 14 = .ok (.istore 6, 2) := by decide +kernel
theorem dX13_layHolds_16 : decode cX13_layHolds 16 = .ok (.iload 6, 2) := by decide +kernel
theorem dX13_layHolds_18 : decode cX13_layHolds 18 = .ok (.iconst 5, 1) := by decide +kernel
theorem dX13_layHolds_19 : decode cX13_layHolds 19 = .ok (.if_icmp .gt 58, 3) := by decide +kernel
theorem dX13_layHolds_22 : decode cX13_layHolds 22 = .ok (.aload_n 0, 1) := by decide +kernel
theorem dX13_layHolds_23 : decode cX13_layHolds 23 = .ok (.getfield 68, 3) := by decide +kernel
theorem dX13_layHolds_26 : decode cX13_layHolds 26 = .ok (.iload 6, 2) := by decide +kernel
theorem dX13_layHolds_28 : decode cX13_layHolds 28 = .ok (.iconst 5, 1) := by decide +kernel
theorem dX13_layHolds_29 : decode cX13_layHolds 29 = .ok (.iadd, 1) := by decide +kernel
theorem dX13_layHolds_30 : decode cX13_layHolds 30 = .ok (.iload 6, 2) := by decide +kernel
theorem dX13_layHolds_32 : decode cX13_layHolds 32 = .ok (.invokestatic 373, 3) := by decide +kernel
theorem dX13_layHolds_35 : decode cX13_layHolds 35 = .ok (.iload 5, 2) := by decide +kernel
theorem dX13_layHolds_37 : decode cX13_layHolds 37 = .ok (.if_icmp .gt 32, 3) := by decide +kernel
theorem dX13_layHolds_40 : decode cX13_layHolds 40 = .ok (.aload_n 0, 1) := by decide +kernel
theorem dX13_layHolds_41 : decode cX13_layHolds 41 = .ok (.iload_n 2, 1) := by decide +kernel
theorem dX13_layHolds_42 : decode cX13_layHolds 42 = .ok (.bipush 10, 2) := by decide +kernel
theorem dX13_layHolds_44 : decode cX13_layHolds 44 = .ok (.idiv, 1) := by decide +kernel
theorem dX13_layHolds_45 : decode cX13_layHolds 45 = .ok (.aload_n 0, 1) := by decide +kernel
theorem dX13_layHolds_46 : decode cX13_layHolds 46 = .ok (.iload_n 1, 1) := by decide +kernel
theorem dX13_layHolds_47 : decode cX13_layHolds 47 = .ok (.iload_n 2, 1) := by decide +kernel
theorem dX13_layHolds_48 : decode cX13_layHolds 48 = .ok (.bipush 10, 2) := by decide +kernel
theorem dX13_layHolds_50 : decode cX13_layHolds 50 = .ok (.irem, 1) := by decide +kernel
theorem dX13_layHolds_51 : decode cX13_layHolds 51 = .ok (.iload_n 3, 1) := by decide +kernel
theorem dX13_layHolds_52 : decode cX13_layHolds 52 = .ok (.iload 4, 2) := by decide +kernel
theorem dX13_layHolds_54 : decode cX13_layHolds 54 = .ok (.iload 6, 2) := by decide +kernel
theorem dX13_layHolds_56 : decode cX13_layHolds 56 = .ok (.invokevirtual 388, 3) := by decide +kernel
theorem dX13_layHolds_59 : decode cX13_layHolds 59 = .ok (.invokevirtual 392, 3) := by decide +kernel
theorem dX13_layHolds_62 : decode cX13_layHolds 62 = .ok (.ifCond .eq 7, 3) := by decide +kernel
theorem dX13_layHolds_65 : decode cX13_layHolds 65 = .ok (.iconst 1, 1) := by decide +kernel
theorem dX13_layHolds_66 : decode cX13_layHolds 66 = .ok (.goto 4, 3) := by decide +kernel
theorem dX13_layHolds_69 : decode cX13_layHolds 69 = .ok (.iconst 0, 1) := by decide +kernel
theorem dX13_layHolds_70 : decode cX13_layHolds 70 = .ok (.bastore, 1) := by decide +kernel
theorem dX13_layHolds_71 : decode cX13_layHolds 71 = .ok (.iinc 6 1, 3) := by decide +kernel
theorem dX13_layHolds_74 : decode cX13_layHolds 74 = .ok (.goto (-58), 3) := by decide +kernel
theorem dX13_layHolds_77 : decode cX13_layHolds 77 = .ok (.return_, 1) := by decide +kernel
def fX13_layHolds_L16 : Nat → eg_H → Nat → Int32 → Int32 → Int32 → Int32 → Int32 → Int32 → Option (eg_H)
  | 0, _, _, _, _, _, _, _, _ => none
  | n + 1, h, l0, l1, l2, l3, l4, l5, l6 =>
    if (5 : Int32) < l6 then
      (some h)
    else
      (eg_gR h 13 35 l0).bind fun p2 =>
      if l5 < (eg_absI l6) then
        ((eg_wI h 103 p2 (l6 + (5 : Int32)) (vp_nar .boolean (0 : Int32))).bind fun h5 =>
        fX13_layHolds_L16 n h5 l0 l1 l2 l3 l4 l5 (l6 + (1 : Int32)))
      else
        (fX13_forceOf h l0 l1 (l2 % (10 : Int32)) l3 l4 l6).bind fun ⟨v8, h7⟩ =>
        (fX13_bears h7 l0 (l2 / (10 : Int32)) v8).bind fun ⟨v11, h10⟩ =>
        if v11 = 0 then
          ((eg_wI h10 103 p2 (l6 + (5 : Int32)) (vp_nar .boolean (0 : Int32))).bind fun h14 =>
          fX13_layHolds_L16 n h14 l0 l1 l2 l3 l4 l5 (l6 + (1 : Int32)))
        else
          (eg_wI h10 103 p2 (l6 + (5 : Int32)) (vp_nar .boolean (1 : Int32))).bind fun h16 =>
          fX13_layHolds_L16 n h16 l0 l1 l2 l3 l4 l5 (l6 + (1 : Int32))
set_option maxRecDepth 20000 in
theorem fX13_layHolds_L16_ok {h0 : eg_H} {Z : eg_C → State → Prop} {N S : Nat} : ∀ (n : Nat) (h : eg_H) (l0 : Nat) (l1 : Int32) (l2 : Int32) (l3 : Int32) (l4 : Int32) (l5 : Int32) (l6 : Int32) (eE : eg_H), fX13_layHolds_L16 n h l0 l1 l2 l3 l4 l5 l6 = some eE → (hk0 : ∀  (h : eg_H), eE = h → eg_AW (RX13, cX13_layHolds, 7, 396, none, "layHolds", none) Z N S h0 77 [] [] h) → eg_AW (RX13, cX13_layHolds, 7, 396, none, "layHolds", none) Z N S h0 16 [(0, .ref l0), (1, .int l1), (2, .int l2), (3, .int l3), (4, .int l4), (5, .int l5), (6, .int l6)] [] h := by
  intro n
  induction n with
  | zero => intro h l0 l1 l2 l3 l4 l5 l6 eE hF; exact absurd hF (by intro q; cases q)
  | succ n ih =>
    intro h l0 l1 l2 l3 l4 l5 l6 eE hF hk0
    have hrec := fun (h' : eg_H) (l0 : Nat) (l1 : Int32) (l2 : Int32) (l3 : Int32) (l4 : Int32) (l5 : Int32) (l6 : Int32) hq => ih h' l0 l1 l2 l3 l4 l5 l6 eE hq hk0
    refine eg_iload (i := 6) 6 dX13_layHolds_16 rfl ?_
    refine eg_iconst (v := (5 : Int32)) dX13_layHolds_18 (by decide) ?_
    refine eg_ic_gt 77 dX13_layHolds_19 rfl (fun c1 => ?_) (fun c1 => ?_)
    · replace hF := eg_it c1 hF
      exact eg_sub [] [] rfl (hk0 h (Option.some.inj hF).symm)
    · replace hF := eg_if c1 hF
      refine eg_aload_n (i := 0) 0 dX13_layHolds_22 rfl rfl ?_
      replace hF := eg_bind hF; obtain ⟨p2, e3, hF⟩ := hF
      refine eg_getR dX13_layHolds_23 e3 (Nat.le_of_ble_eq_true rfl) (Nat.le_of_ble_eq_true rfl) rfl ew_1469 ?_
      refine eg_iload (i := 6) 6 dX13_layHolds_26 rfl ?_
      refine eg_iconst (v := (5 : Int32)) dX13_layHolds_28 (by decide) ?_
      refine eg_iadd dX13_layHolds_29 ?_
      refine eg_iload (i := 6) 6 dX13_layHolds_30 rfl ?_
      refine eg_mabs dX13_layHolds_32 ew_1920 (Nat.le_of_ble_eq_true rfl) (Nat.le_of_ble_eq_true rfl) ?_
      refine eg_iload (i := 5) 5 dX13_layHolds_35 rfl ?_
      refine eg_ic_gt 69 dX13_layHolds_37 rfl (fun c4 => ?_) (fun c4 => ?_)
      · replace hF := eg_it c4 hF
        refine eg_iconst (v := (0 : Int32)) dX13_layHolds_69 (by decide) ?_
        replace hF := eg_bind hF; obtain ⟨h5, e6, hF⟩ := hF
        refine eg_zast dX13_layHolds_70 e6 ?_
        refine eg_iinc (i := 6) (v := (l6 + (1 : Int32))) 6 [(6, .int (l6 + (1 : Int32))), (0, .ref l0), (1, .int l1), (2, .int l2), (3, .int l3), (4, .int l4), (5, .int l5)] dX13_layHolds_71 rfl rfl (Nat.le_of_ble_eq_true rfl) rfl ?_
        refine eg_goto 16 dX13_layHolds_74 rfl ?_
        exact eg_sub [1, 2, 3, 4, 5, 6, 0] [(0, .ref l0), (1, .int l1), (2, .int l2), (3, .int l3), (4, .int l4), (5, .int l5), (6, .int (l6 + (1 : Int32)))] rfl (hrec h5 l0 l1 l2 l3 l4 l5 (l6 + (1 : Int32)) hF)
      · replace hF := eg_if c4 hF
        refine eg_aload_n (i := 0) 0 dX13_layHolds_40 rfl rfl ?_
        refine eg_iload_n (i := 2) 2 dX13_layHolds_41 rfl rfl ?_
        refine eg_bipush (v := (10 : Int32)) dX13_layHolds_42 (by decide) ?_
        refine eg_idiv dX13_layHolds_44 (by decide) ?_
        refine eg_aload_n (i := 0) 0 dX13_layHolds_45 rfl rfl ?_
        refine eg_iload_n (i := 1) 1 dX13_layHolds_46 rfl rfl ?_
        refine eg_iload_n (i := 2) 2 dX13_layHolds_47 rfl rfl ?_
        refine eg_bipush (v := (10 : Int32)) dX13_layHolds_48 (by decide) ?_
        refine eg_irem dX13_layHolds_50 (by decide) ?_
        refine eg_iload_n (i := 3) 3 dX13_layHolds_51 rfl rfl ?_
        refine eg_iload (i := 4) 4 dX13_layHolds_52 rfl ?_
        refine eg_iload (i := 6) 6 dX13_layHolds_54 rfl ?_
        replace hF := eg_bind hF; obtain ⟨⟨v8, h7⟩, e9, hF⟩ := hF
        refine eg_callV (c := 13) (n := 5) [.int l1, .int (l2 % (10 : Int32)), .int l3, .int l4, .int l6] dX13_layHolds_56 (mX13_forceOf e9) rfl (fX13_forceOf_O e9) (Nat.le_of_ble_eq_true rfl) rfl ew_1916 ew_1918 ew_75 ew_110 ew_1919 hy_X13_forceOf rfl (Nat.le_of_ble_eq_true rfl) (Nat.le_of_ble_eq_true rfl) (Nat.le_of_ble_eq_true rfl) ?_
        replace hF := eg_bind hF; obtain ⟨⟨v11, h10⟩, e12, hF⟩ := hF
        refine eg_callV (c := 13) (n := 2) [.int (l2 / (10 : Int32)), .int v8] dX13_layHolds_59 (mX13_bears e12) rfl (fX13_bears_O e12) (Nat.le_of_ble_eq_true rfl) rfl ew_1949 ew_1951 ew_81 ew_110 ew_1952 hy_X13_bears rfl (Nat.le_of_ble_eq_true rfl) (Nat.le_of_ble_eq_true rfl) (Nat.le_of_ble_eq_true rfl) ?_
        refine eg_if_eq 69 dX13_layHolds_62 rfl (fun c13 => ?_) (fun c13 => ?_)
        · replace hF := eg_it c13 hF
          refine eg_iconst (v := (0 : Int32)) dX13_layHolds_69 (by decide) ?_
          replace hF := eg_bind hF; obtain ⟨h14, e15, hF⟩ := hF
          refine eg_zast dX13_layHolds_70 e15 ?_
          refine eg_iinc (i := 6) (v := (l6 + (1 : Int32))) 6 [(6, .int (l6 + (1 : Int32))), (0, .ref l0), (1, .int l1), (2, .int l2), (3, .int l3), (4, .int l4), (5, .int l5)] dX13_layHolds_71 rfl rfl (Nat.le_of_ble_eq_true rfl) rfl ?_
          refine eg_goto 16 dX13_layHolds_74 rfl ?_
          exact eg_sub [1, 2, 3, 4, 5, 6, 0] [(0, .ref l0), (1, .int l1), (2, .int l2), (3, .int l3), (4, .int l4), (5, .int l5), (6, .int (l6 + (1 : Int32)))] rfl (hrec h14 l0 l1 l2 l3 l4 l5 (l6 + (1 : Int32)) hF)
        · replace hF := eg_if c13 hF
          refine eg_iconst (v := (1 : Int32)) dX13_layHolds_65 (by decide) ?_
          refine eg_goto 70 dX13_layHolds_66 rfl ?_
          replace hF := eg_bind hF; obtain ⟨h16, e17, hF⟩ := hF
          refine eg_zast dX13_layHolds_70 e17 ?_
          refine eg_iinc (i := 6) (v := (l6 + (1 : Int32))) 6 [(6, .int (l6 + (1 : Int32))), (0, .ref l0), (1, .int l1), (2, .int l2), (3, .int l3), (4, .int l4), (5, .int l5)] dX13_layHolds_71 rfl rfl (Nat.le_of_ble_eq_true rfl) rfl ?_
          refine eg_goto 16 dX13_layHolds_74 rfl ?_
          exact eg_sub [1, 2, 3, 4, 5, 6, 0] [(0, .ref l0), (1, .int l1), (2, .int l2), (3, .int l3), (4, .int l4), (5, .int l5), (6, .int (l6 + (1 : Int32)))] rfl (hrec h16 l0 l1 l2 l3 l4 l5 (l6 + (1 : Int32)) hF)
def fX13_layHolds (h : eg_H) (l0 : Nat) (l1 : Int32) (l2 : Int32) (l3 : Int32) (l4 : Int32) : Option (eg_H) :=
  if eg_isO h 13 l0 then (
    (eg_gR h 13 20 l0).bind fun p1 =>
    (eg_aI h 100 p1 (((4 : Int32) * l1) + (2 : Int32))).bind fun v3 =>
    (fX13_layHolds_L16 eg_F h l0 l1 l2 l3 l4 v3 (-5 : Int32)).bind fun e =>
    match e with
    | h7 =>
      some h7) else none
theorem fX13_layHolds_O {h : eg_H} {l0 : Nat} {l1 : Int32} {l2 : Int32} {l3 : Int32} {l4 : Int32} {hE : eg_H} (hF : fX13_layHolds h l0 l1 l2 l3 l4 = some hE) : eg_isO h 13 l0 := (eg_ifn hF).1
set_option maxRecDepth 20000 in
theorem mX13_layHolds {h : eg_H} {l0 : Nat} {l1 : Int32} {l2 : Int32} {l3 : Int32} {l4 : Int32} {hE : eg_H} (hF : fX13_layHolds h l0 l1 l2 l3 l4 = some hE) : eg_Met yX13_layHolds cX13_layHolds 7 none 396 [.ref l0, .int l1, .int l2, .int l3, .int l4] h none hE := by
  refine eg_enter rfl (Nat.le_of_ble_eq_true rfl) ?_
  show eg_AW (RX13, cX13_layHolds, 7, 396, none, "layHolds", none) (eg_Zm none hE h) (eg_nc hE) (eg_ns hE) h 0 [(0, .ref l0), (1, .int l1), (2, .int l2), (3, .int l3), (4, .int l4)] [] h
  replace hF := (eg_ifn hF).2
  refine eg_aload_n (i := 0) 0 dX13_layHolds_0 rfl rfl ?_
  replace hF := eg_bind hF; obtain ⟨p1, e2, hF⟩ := hF
  refine eg_getR dX13_layHolds_1 e2 (Nat.le_of_ble_eq_true rfl) (Nat.le_of_ble_eq_true rfl) rfl ew_1454 ?_
  refine eg_iconst (v := (4 : Int32)) dX13_layHolds_4 (by decide) ?_
  refine eg_iload_n (i := 1) 1 dX13_layHolds_5 rfl rfl ?_
  refine eg_imul dX13_layHolds_6 ?_
  refine eg_iconst (v := (2 : Int32)) dX13_layHolds_7 (by decide) ?_
  refine eg_iadd dX13_layHolds_8 ?_
  replace hF := eg_bind hF; obtain ⟨v3, e4, hF⟩ := hF
  refine eg_iald dX13_layHolds_9 e4 ?_
  refine eg_istore (i := 5) [(5, .int v3), (0, .ref l0), (1, .int l1), (2, .int l2), (3, .int l3), (4, .int l4)] dX13_layHolds_10 (Nat.le_of_ble_eq_true rfl) rfl ?_
  refine eg_bipush (v := (-5 : Int32)) dX13_layHolds_12 (by decide) ?_
  refine eg_istore (i := 6) [(6, .int (-5 : Int32)), (5, .int v3), (0, .ref l0), (1, .int l1), (2, .int l2), (3, .int l3), (4, .int l4)] dX13_layHolds_14 (Nat.le_of_ble_eq_true rfl) rfl ?_
  replace hF := eg_bind hF; obtain ⟨x6, e5, hF⟩ := hF
  refine eg_sub [2, 3, 4, 5, 6, 1, 0] [(0, .ref l0), (1, .int l1), (2, .int l2), (3, .int l3), (4, .int l4), (5, .int v3), (6, .int (-5 : Int32))] rfl (fX13_layHolds_L16_ok eg_F h l0 l1 l2 l3 l4 v3 (-5 : Int32) x6 e5 ?_)
  · intro h7 e8
    subst e8
    exact eg_vretE dX13_layHolds_77 hF
