theorem dX12_isHow_0 : decode cX12_isHow 0 = .ok (.iload_n 2, 1) := by decide +kernel
theorem dX12_isHow_1 : decode cX12_isHow 1 = .ok (.ifCond .lt 35, 3) := by decide +kernel
theorem dX12_isHow_4 : decode cX12_isHow 4 = .ok (.iload_n 2, 1) := by decide +kernel
theorem dX12_isHow_5 : decode cX12_isHow 5 = .ok (.bipush 100, 2) := by decide +kernel
theorem dX12_isHow_7 : decode cX12_isHow 7 = .ok (.irem, 1) := by decide +kernel
theorem dX12_isHow_8 : decode cX12_isHow 8 = .ok (.bipush 10, 2) := by decide +kernel
theorem dX12_isHow_10 : decode cX12_isHow 10 = .ok (.if_icmp .gt 26, 3) := by decide +kernel
theorem dX12_isHow_13 : decode cX12_isHow 13 = .ok (.iload_n 2, 1) := by decide +kernel
theorem dX12_isHow_14 : decode cX12_isHow 14 = .ok (.bipush 100, 2) := by decide +kernel
theorem dX12_isHow_16 : decode cX12_isHow 16 = .ok (.idiv, 1) := by decide +kernel
theorem dX12_isHow_17 : decode cX12_isHow 17 = .ok (.aload_n 0, 1) := by decide +kernel
theorem dX12_isHow_18 : decode cX12_isHow 18 = .ok (.getfield 35, 3) := by decide +kernel
theorem dX12_isHow_21 : decode cX12_isHow 21 = .ok (.iload_n 1, 1) := by decide +kernel
theorem dX12_isHow_22 : decode cX12_isHow 22 = .ok (.bipush 10, 2) := by decide +kernel
theorem dX12_isHow_24 : decode cX12_isHow 24 = .ok (.idiv, 1) := by decide +kernel
theorem dX12_isHow_25 : decode cX12_isHow 25 = .ok (.iconst 3, 1) := by decide +kernel
theorem dX12_isHow_26 : decode cX12_isHow 26 = .ok (.invokevirtual 178, 3) := by decide +kernel
theorem dX12_isHow_29 : decode cX12_isHow 29 = .ok (.if_icmp .gt 7, 3) := by decide +kernel
theorem dX12_isHow_32 : decode cX12_isHow 32 = .ok (.iconst 1, 1) := by decide +kernel
theorem dX12_isHow_33 : decode cX12_isHow 33 = .ok (.goto 4, 3) := by decide +kernel
theorem dX12_isHow_36 : decode cX12_isHow 36 = .ok (.iconst 0, 1) := by decide +kernel
theorem dX12_isHow_37 : decode cX12_isHow 37 = .ok (.ireturn, 1) := by decide +kernel
def fX12_isHow (h : eg_H) (l0 : Nat) (l1 : Int32) (l2 : Int32) : Option (Int32 × eg_H) :=
  if eg_isO h 12 l0 then (
    if l2 < 0 then
      (some ((0 : Int32), h))
    else
      if (10 : Int32) < (l2 % (100 : Int32)) then
        (some ((0 : Int32), h))
      else
        (eg_gR h 12 3 l0).bind fun p3 =>
        (fX7_ofPerson h p3 (l1 / (10 : Int32)) (3 : Int32)).bind fun ⟨v6, h5⟩ =>
        if v6 < (l2 / (100 : Int32)) then
          (some ((0 : Int32), h5))
        else
          some ((1 : Int32), h5)) else none
theorem fX12_isHow_O {h : eg_H} {l0 : Nat} {l1 : Int32} {l2 : Int32} {rE : Int32} {hE : eg_H} (hF : fX12_isHow h l0 l1 l2 = some (rE, hE)) : eg_isO h 12 l0 := (eg_ifn hF).1
set_option maxRecDepth 20000 in
theorem mX12_isHow {h : eg_H} {l0 : Nat} {l1 : Int32} {l2 : Int32} {rE : Int32} {hE : eg_H} (hF : fX12_isHow h l0 l1 l2 = some (rE, hE)) : eg_Met yX12_isHow cX12_isHow 3 (some .boolean) 2 [.ref l0, .int l1, .int l2] h (some (.int rE)) hE := by
  refine eg_enter rfl (Nat.le_of_ble_eq_true rfl) ?_
  show eg_AW (RX12, cX12_isHow, 3, 2, none, "isHow", (some .boolean)) (eg_Zm (some (.int rE)) hE h) (eg_nc hE) (eg_ns hE) h 0 [(0, .ref l0), (1, .int l1), (2, .int l2)] [] h
  replace hF := (eg_ifn hF).2
  refine eg_iload_n (i := 2) 2 dX12_isHow_0 rfl rfl ?_
  refine eg_if_lt 36 dX12_isHow_1 rfl (fun c1 => ?_) (fun c1 => ?_)
  · replace hF := eg_it c1 hF
    refine eg_iconst (v := (0 : Int32)) dX12_isHow_36 (by decide) ?_
    exact eg_zretE dX12_isHow_37 (Or.inl rfl) hF
  · replace hF := eg_if c1 hF
    refine eg_iload_n (i := 2) 2 dX12_isHow_4 rfl rfl ?_
    refine eg_bipush (v := (100 : Int32)) dX12_isHow_5 (by decide) ?_
    refine eg_irem dX12_isHow_7 (by decide) ?_
    refine eg_bipush (v := (10 : Int32)) dX12_isHow_8 (by decide) ?_
    refine eg_ic_gt 36 dX12_isHow_10 rfl (fun c2 => ?_) (fun c2 => ?_)
    · replace hF := eg_it c2 hF
      refine eg_iconst (v := (0 : Int32)) dX12_isHow_36 (by decide) ?_
      exact eg_zretE dX12_isHow_37 (Or.inl rfl) hF
    · replace hF := eg_if c2 hF
      refine eg_iload_n (i := 2) 2 dX12_isHow_13 rfl rfl ?_
      refine eg_bipush (v := (100 : Int32)) dX12_isHow_14 (by decide) ?_
      refine eg_idiv dX12_isHow_16 (by decide) ?_
      refine eg_aload_n (i := 0) 0 dX12_isHow_17 rfl rfl ?_
      replace hF := eg_bind hF; obtain ⟨p3, e4, hF⟩ := hF
      refine eg_getR dX12_isHow_18 e4 (Nat.le_of_ble_eq_true rfl) (Nat.le_of_ble_eq_true rfl) rfl ew_359 ?_
      refine eg_iload_n (i := 1) 1 dX12_isHow_21 rfl rfl ?_
      refine eg_bipush (v := (10 : Int32)) dX12_isHow_22 (by decide) ?_
      refine eg_idiv dX12_isHow_24 (by decide) ?_
      refine eg_iconst (v := (3 : Int32)) dX12_isHow_25 (by decide) ?_
      replace hF := eg_bind hF; obtain ⟨⟨v6, h5⟩, e7, hF⟩ := hF
      refine eg_callV (c := 7) (n := 2) [.int (l1 / (10 : Int32)), .int (3 : Int32)] dX12_isHow_26 (mX7_ofPerson e7) rfl (fX7_ofPerson_O e7) (Nat.le_of_ble_eq_true rfl) rfl ew_740 ew_741 ew_742 ew_104 ew_743 hy_X7_ofPerson rfl (Nat.le_of_ble_eq_true rfl) (Nat.le_of_ble_eq_true rfl) (Nat.le_of_ble_eq_true rfl) ?_
      refine eg_ic_gt 36 dX12_isHow_29 rfl (fun c8 => ?_) (fun c8 => ?_)
      · replace hF := eg_it c8 hF
        refine eg_iconst (v := (0 : Int32)) dX12_isHow_36 (by decide) ?_
        exact eg_zretE dX12_isHow_37 (Or.inl rfl) hF
      · replace hF := eg_if c8 hF
        refine eg_iconst (v := (1 : Int32)) dX12_isHow_32 (by decide) ?_
        refine eg_goto 37 dX12_isHow_33 rfl ?_
        exact eg_zretE dX12_isHow_37 (Or.inr rfl) hF
theorem dX12_goodOf_0 : decode cX12_goodOf 0 = .ok (.iload_n 2, 1) := by decide +kernel
theorem dX12_goodOf_1 : decode cX12_goodOf 1 = .ok (.bipush 100, 2) := by decide +kernel
theorem dX12_goodOf_3 : decode cX12_goodOf 3 = .ok (.idiv, 1) := by decide +kernel
theorem dX12_goodOf_4 : decode cX12_goodOf 4 = .ok (.istore_n 3, 1) := by decide +kernel
theorem dX12_goodOf_5 : decode cX12_goodOf 5 = .ok (.aload_n 0, 1) := by decide +kernel
theorem dX12_goodOf_6 : decode cX12_goodOf 6 = .ok (.getfield 92, 3) := by decide +kernel
theorem dX12_goodOf_9 : decode cX12_goodOf 9 = .ok (.aload_n 0, 1) := by decide +kernel
theorem dX12_goodOf_10 : decode cX12_goodOf 10 = .ok (.getfield 92, 3) := by decide +kernel
theorem dX12_goodOf_13 : decode cX12_goodOf 13 = .ok (.iload_n 1, 1) := by decide +kernel
theorem dX12_goodOf_14 : decode cX12_goodOf 14 = .ok (.iload_n 3, 1) := by decide +kernel
theorem dX12_goodOf_15 : decode cX12_goodOf 15 = .ok (.invokevirtual 278, 3) := by decide +kernel
theorem dX12_goodOf_18 : decode cX12_goodOf 18 = .ok (.iload_n 3, 1) := by decide +kernel
theorem dX12_goodOf_19 : decode cX12_goodOf 19 = .ok (.iload_n 2, 1) := by decide +kernel
theorem dX12_goodOf_20 : decode cX12_goodOf 20 = .ok (.bipush 100, 2) := by decide +kernel
theorem dX12_goodOf_22 : decode cX12_goodOf 22 = .ok (.irem, 1) := by decide +kernel
theorem dX12_goodOf_23 : decode cX12_goodOf 23 = .ok (.iconst 5, 1) := by decide +kernel
theorem dX12_goodOf_24 : decode cX12_goodOf 24 = .ok (.isub, 1) := by decide +kernel
theorem dX12_goodOf_25 : decode cX12_goodOf 25 = .ok (.invokevirtual 281, 3) := by decide +kernel
theorem dX12_goodOf_28 : decode cX12_goodOf 28 = .ok (.ireturn, 1) := by decide +kernel
def fX12_goodOf (h : eg_H) (l0 : Nat) (l1 : Int32) (l2 : Int32) : Option (Int32 × eg_H) :=
  if eg_isO h 12 l0 then (
    (some ((l2 / (100 : Int32)))).bind fun v1 =>
    (eg_gR h 12 15 l0).bind fun p3 =>
    (eg_gR h 12 15 l0).bind fun p5 =>
    (fX11_wholes h p5 l1 v1).bind fun ⟨v8, h7⟩ =>
    (fX11_goodOf h7 p3 v8 v1 ((l2 % (100 : Int32)) - (5 : Int32))).bind fun ⟨v11, h10⟩ =>
    some (v11, h10)) else none
theorem fX12_goodOf_O {h : eg_H} {l0 : Nat} {l1 : Int32} {l2 : Int32} {rE : Int32} {hE : eg_H} (hF : fX12_goodOf h l0 l1 l2 = some (rE, hE)) : eg_isO h 12 l0 := (eg_ifn hF).1
set_option maxRecDepth 20000 in
theorem mX12_goodOf {h : eg_H} {l0 : Nat} {l1 : Int32} {l2 : Int32} {rE : Int32} {hE : eg_H} (hF : fX12_goodOf h l0 l1 l2 = some (rE, hE)) : eg_Met yX12_goodOf cX12_goodOf 4 (some .int) 4 [.ref l0, .int l1, .int l2] h (some (.int rE)) hE := by
  refine eg_enter rfl (Nat.le_of_ble_eq_true rfl) ?_
  show eg_AW (RX12, cX12_goodOf, 4, 4, none, "goodOf", (some .int)) (eg_Zm (some (.int rE)) hE h) (eg_nc hE) (eg_ns hE) h 0 [(0, .ref l0), (1, .int l1), (2, .int l2)] [] h
  replace hF := (eg_ifn hF).2
  refine eg_iload_n (i := 2) 2 dX12_goodOf_0 rfl rfl ?_
  refine eg_bipush (v := (100 : Int32)) dX12_goodOf_1 (by decide) ?_
  refine eg_idiv dX12_goodOf_3 (by decide) ?_
  replace hF := eg_bind hF; obtain ⟨v1, e2, hF⟩ := hF
  replace e2 := Option.some.inj e2
  rw [e2]
  refine eg_istore_n (i := 3) [(3, .int v1), (0, .ref l0), (1, .int l1), (2, .int l2)] dX12_goodOf_4 rfl (Nat.le_of_ble_eq_true rfl) rfl ?_
  refine eg_aload_n (i := 0) 1 dX12_goodOf_5 rfl rfl ?_
  replace hF := eg_bind hF; obtain ⟨p3, e4, hF⟩ := hF
  refine eg_getR dX12_goodOf_6 e4 (Nat.le_of_ble_eq_true rfl) (Nat.le_of_ble_eq_true rfl) rfl ew_371 ?_
  refine eg_aload_n (i := 0) 1 dX12_goodOf_9 rfl rfl ?_
  replace hF := eg_bind hF; obtain ⟨p5, e6, hF⟩ := hF
  refine eg_getR dX12_goodOf_10 e6 (Nat.le_of_ble_eq_true rfl) (Nat.le_of_ble_eq_true rfl) rfl ew_371 ?_
  refine eg_iload_n (i := 1) 2 dX12_goodOf_13 rfl rfl ?_
  refine eg_iload_n (i := 3) 0 dX12_goodOf_14 rfl rfl ?_
  replace hF := eg_bind hF; obtain ⟨⟨v8, h7⟩, e9, hF⟩ := hF
  refine eg_callV (c := 11) (n := 2) [.int l1, .int v1] dX12_goodOf_15 (mX11_wholes e9) rfl (fX11_wholes_O e9) (Nat.le_of_ble_eq_true rfl) rfl ew_815 ew_816 ew_817 ew_106 ew_818 hy_X11_wholes rfl (Nat.le_of_ble_eq_true rfl) (Nat.le_of_ble_eq_true rfl) (Nat.le_of_ble_eq_true rfl) ?_
  refine eg_iload_n (i := 3) 0 dX12_goodOf_18 rfl rfl ?_
  refine eg_iload_n (i := 2) 3 dX12_goodOf_19 rfl rfl ?_
  refine eg_bipush (v := (100 : Int32)) dX12_goodOf_20 (by decide) ?_
  refine eg_irem dX12_goodOf_22 (by decide) ?_
  refine eg_iconst (v := (5 : Int32)) dX12_goodOf_23 (by decide) ?_
  refine eg_isub dX12_goodOf_24 ?_
  replace hF := eg_bind hF; obtain ⟨⟨v11, h10⟩, e12, hF⟩ := hF
  refine eg_callV (c := 11) (n := 3) [.int v8, .int v1, .int ((l2 % (100 : Int32)) - (5 : Int32))] dX12_goodOf_25 (mX11_goodOf e12) rfl (fX11_goodOf_O e12) (Nat.le_of_ble_eq_true rfl) rfl ew_820 ew_821 ew_822 ew_106 ew_823 hy_X11_goodOf rfl (Nat.le_of_ble_eq_true rfl) (Nat.le_of_ble_eq_true rfl) (Nat.le_of_ble_eq_true rfl) ?_
  exact eg_iretE dX12_goodOf_28 hF
theorem dX12_good_0 : decode cX12_good 0 = .ok (.aload_n 0, 1) := by decide +kernel
theorem dX12_good_1 : decode cX12_good 1 = .ok (.iload_n 1, 1) := by decide +kernel
theorem dX12_good_2 : decode cX12_good 2 = .ok (.iload_n 2, 1) := by decide +kernel
theorem dX12_good_3 : decode cX12_good 3 = .ok (.iload_n 3, 1) := by decide +kernel
theorem dX12_good_4 : decode cX12_good 4 = .ok (.invokevirtual 237, 3) := by decide +kernel
theorem dX12_good_7 : decode cX12_good 7 = .ok (.ifCond .eq 13, 3) := by decide +kernel
theorem dX12_good_10 : decode cX12_good 10 = .ok (.aload_n 0, 1) := by decide +kernel
theorem dX12_good_11 : decode cX12_good 11 = .ok (.iload_n 1, 1) := by decide +kernel
theorem dX12_good_12 : decode cX12_good 12 = .ok (.iload 4, 2) := by decide +kernel
theorem dX12_good_14 : decode cX12_good 14 = .ok (.invokevirtual 241, 3) := by decide +kernel
theorem dX12_good_17 : decode cX12_good 17 = .ok (.ifCond .ne 5, 3) := by decide +kernel
theorem dX12_good_20 : decode cX12_good 20 = .ok (.iconst (-1), 1) := by decide +kernel
theorem dX12_good_21 : decode cX12_good 21 = .ok (.ireturn, 1) := by decide +kernel
theorem dX12_good_22 : decode cX12_good 22 = .ok (.aload_n 0, 1) := by decide +kernel
theorem dX12_good_23 : decode cX12_good 23 = .ok (.getfield 92, 3) := by decide +kernel
theorem dX12_good_26 : decode cX12_good 26 = .ok (.iload_n 1, 1) := by decide +kernel
theorem dX12_good_27 : decode cX12_good 27 = .ok (.iload_n 2, 1) := by decide +kernel
theorem dX12_good_28 : decode cX12_good 28 = .ok (.aload_n 0, 1) := by decide +kernel
theorem dX12_good_29 : decode cX12_good 29 = .ok (.getfield 35, 3) := by decide +kernel
theorem dX12_good_32 : decode cX12_good 32 = .ok (.iconst 0, 1) := by decide +kernel
theorem dX12_good_33 : decode cX12_good 33 = .ok (.invokevirtual 209, 3) := by decide +kernel
theorem dX12_good_36 : decode cX12_good 36 = .ok (.invokevirtual 244, 3) := by decide +kernel
theorem dX12_good_39 : decode cX12_good 39 = .ok (.aload_n 0, 1) := by decide +kernel
theorem dX12_good_40 : decode cX12_good 40 = .ok (.iload_n 3, 1) := by decide +kernel
theorem dX12_good_41 : decode cX12_good 41 = .ok (.iload 4, 2) := by decide +kernel
theorem dX12_good_43 : decode cX12_good 43 = .ok (.invokevirtual 247, 3) := by decide +kernel
theorem dX12_good_46 : decode cX12_good 46 = .ok (.ireturn, 1) := by decide +kernel
def fX12_good (h : eg_H) (l0 : Nat) (l1 : Int32) (l2 : Int32) (l3 : Int32) (l4 : Int32) : Option (Int32 × eg_H) :=
  if eg_isO h 12 l0 then (
    (fX12_isThrow h l0 l1 l2 l3).bind fun ⟨v2, h1⟩ =>
    if v2 = 0 then
      (some ((-1 : Int32), h1))
    else
      (fX12_isHow h1 l0 l1 l4).bind fun ⟨v6, h5⟩ =>
      if v6 = 0 then
        (some ((-1 : Int32), h5))
      else
        (eg_gR h5 12 15 l0).bind fun p9 =>
        (eg_gR h5 12 3 l0).bind fun p11 =>
        (fX7_told h5 p11 (0 : Int32)).bind fun ⟨v14, h13⟩ =>
        (fX11_take h13 p9 l1 l2 v14).bind fun h16 =>
        (fX12_goodOf h16 l0 l3 l4).bind fun ⟨v19, h18⟩ =>
        some (v19, h18)) else none
theorem fX12_good_O {h : eg_H} {l0 : Nat} {l1 : Int32} {l2 : Int32} {l3 : Int32} {l4 : Int32} {rE : Int32} {hE : eg_H} (hF : fX12_good h l0 l1 l2 l3 l4 = some (rE, hE)) : eg_isO h 12 l0 := (eg_ifn hF).1
set_option maxRecDepth 20000 in
theorem mX12_good {h : eg_H} {l0 : Nat} {l1 : Int32} {l2 : Int32} {l3 : Int32} {l4 : Int32} {rE : Int32} {hE : eg_H} (hF : fX12_good h l0 l1 l2 l3 l4 = some (rE, hE)) : eg_Met yX12_good cX12_good 5 (some .int) 5 [.ref l0, .int l1, .int l2, .int l3, .int l4] h (some (.int rE)) hE := by
  refine eg_enter rfl (Nat.le_of_ble_eq_true rfl) ?_
  show eg_AW (RX12, cX12_good, 5, 5, none, "good", (some .int)) (eg_Zm (some (.int rE)) hE h) (eg_nc hE) (eg_ns hE) h 0 [(0, .ref l0), (1, .int l1), (2, .int l2), (3, .int l3), (4, .int l4)] [] h
  replace hF := (eg_ifn hF).2
  refine eg_aload_n (i := 0) 0 dX12_good_0 rfl rfl ?_
  refine eg_iload_n (i := 1) 1 dX12_good_1 rfl rfl ?_
  refine eg_iload_n (i := 2) 2 dX12_good_2 rfl rfl ?_
  refine eg_iload_n (i := 3) 3 dX12_good_3 rfl rfl ?_
  replace hF := eg_bind hF; obtain ⟨⟨v2, h1⟩, e3, hF⟩ := hF
  refine eg_callV (c := 12) (n := 3) [.int l1, .int l2, .int l3] dX12_good_4 (mX12_isThrow e3) rfl (fX12_isThrow_O e3) (Nat.le_of_ble_eq_true rfl) rfl ew_782 ew_784 ew_23 ew_100 ew_785 hy_X12_isThrow rfl (Nat.le_of_ble_eq_true rfl) (Nat.le_of_ble_eq_true rfl) (Nat.le_of_ble_eq_true rfl) ?_
  refine eg_if_eq 20 dX12_good_7 rfl (fun c4 => ?_) (fun c4 => ?_)
  · replace hF := eg_it c4 hF
    refine eg_iconst (v := (-1 : Int32)) dX12_good_20 (by decide) ?_
    exact eg_iretE dX12_good_21 hF
  · replace hF := eg_if c4 hF
    refine eg_aload_n (i := 0) 0 dX12_good_10 rfl rfl ?_
    refine eg_iload_n (i := 1) 1 dX12_good_11 rfl rfl ?_
    refine eg_iload (i := 4) 4 dX12_good_12 rfl ?_
    replace hF := eg_bind hF; obtain ⟨⟨v6, h5⟩, e7, hF⟩ := hF
    refine eg_callV (c := 12) (n := 2) [.int l1, .int l4] dX12_good_14 (mX12_isHow e7) rfl (fX12_isHow_O e7) (Nat.le_of_ble_eq_true rfl) rfl ew_798 ew_800 ew_25 ew_100 ew_801 hy_X12_isHow rfl (Nat.le_of_ble_eq_true rfl) (Nat.le_of_ble_eq_true rfl) (Nat.le_of_ble_eq_true rfl) ?_
    refine eg_if_ne 22 dX12_good_17 rfl (fun c8 => ?_) (fun c8 => ?_)
    · replace hF := eg_it c8 hF
      refine eg_iconst (v := (-1 : Int32)) dX12_good_20 (by decide) ?_
      exact eg_iretE dX12_good_21 hF
    · replace hF := eg_if c8 hF
      refine eg_aload_n (i := 0) 0 dX12_good_22 rfl rfl ?_
      replace hF := eg_bind hF; obtain ⟨p9, e10, hF⟩ := hF
      refine eg_getR dX12_good_23 e10 (Nat.le_of_ble_eq_true rfl) (Nat.le_of_ble_eq_true rfl) rfl ew_371 ?_
      refine eg_iload_n (i := 1) 1 dX12_good_26 rfl rfl ?_
      refine eg_iload_n (i := 2) 2 dX12_good_27 rfl rfl ?_
      refine eg_aload_n (i := 0) 0 dX12_good_28 rfl rfl ?_
      replace hF := eg_bind hF; obtain ⟨p11, e12, hF⟩ := hF
      refine eg_getR dX12_good_29 e12 (Nat.le_of_ble_eq_true rfl) (Nat.le_of_ble_eq_true rfl) rfl ew_359 ?_
      refine eg_iconst (v := (0 : Int32)) dX12_good_32 (by decide) ?_
      replace hF := eg_bind hF; obtain ⟨⟨v14, h13⟩, e15, hF⟩ := hF
      refine eg_callV (c := 7) (n := 1) [.int (0 : Int32)] dX12_good_33 (mX7_told e15) rfl (fX7_told_O e15) (Nat.le_of_ble_eq_true rfl) rfl ew_717 ew_718 ew_719 ew_104 ew_720 hy_X7_told rfl (Nat.le_of_ble_eq_true rfl) (Nat.le_of_ble_eq_true rfl) (Nat.le_of_ble_eq_true rfl) ?_
      replace hF := eg_bind hF; obtain ⟨h16, e17, hF⟩ := hF
      refine eg_callV (c := 11) (n := 3) [.int l1, .int l2, .int v14] dX12_good_36 (mX11_take e17) rfl (fX11_take_O e17) (Nat.le_of_ble_eq_true rfl) rfl ew_802 ew_803 ew_804 ew_106 ew_805 hy_X11_take rfl (Nat.le_of_ble_eq_true rfl) (Nat.le_of_ble_eq_true rfl) (Nat.le_of_ble_eq_true rfl) ?_
      refine eg_aload_n (i := 0) 0 dX12_good_39 rfl rfl ?_
      refine eg_iload_n (i := 3) 3 dX12_good_40 rfl rfl ?_
      refine eg_iload (i := 4) 4 dX12_good_41 rfl ?_
      replace hF := eg_bind hF; obtain ⟨⟨v19, h18⟩, e20, hF⟩ := hF
      refine eg_callV (c := 12) (n := 2) [.int l3, .int l4] dX12_good_43 (mX12_goodOf e20) rfl (fX12_goodOf_O e20) (Nat.le_of_ble_eq_true rfl) rfl ew_811 ew_813 ew_26 ew_100 ew_814 hy_X12_goodOf rfl (Nat.le_of_ble_eq_true rfl) (Nat.le_of_ble_eq_true rfl) (Nat.le_of_ble_eq_true rfl) ?_
      exact eg_iretE dX12_good_46 hF
theorem dX12_best_0 : decode cX12_best 0 = .ok (.aload_n 0, 1) := by decide +kernel
theorem dX12_best_1 : decode cX12_best 1 = .ok (.iload_n 1, 1) := by decide +kernel
theorem dX12_best_2 : decode cX12_best 2 = .ok (.iload_n 2, 1) := by decide +kernel
theorem dX12_best_3 : decode cX12_best 3 = .ok (.iload_n 3, 1) := by decide +kernel
theorem dX12_best_4 : decode cX12_best 4 = .ok (.invokevirtual 237, 3) := by decide +kernel
theorem dX12_best_7 : decode cX12_best 7 = .ok (.ifCond .eq 14, 3) := by decide +kernel
theorem dX12_best_10 : decode cX12_best 10 = .ok (.iload 4, 2) := by decide +kernel
theorem dX12_best_12 : decode cX12_best 12 = .ok (.ifCond .lt 9, 3) := by decide +kernel
theorem dX12_best_15 : decode cX12_best 15 = .ok (.iload 4, 2) := by decide +kernel
theorem dX12_best_17 : decode cX12_best 17 = .ok (.iconst 2, 1) := by decide +kernel
theorem dX12_best_18 : decode cX12_best 18 = .ok (.if_icmp .le 6, 3) := by decide +kernel
theorem dX12_best_21 : decode cX12_best 21 = .ok (.ldc 223, 2) := by decide +kernel
theorem dX12_best_23 : decode cX12_best 23 = .ok (.ireturn, 1) := by decide +kernel
theorem dX12_best_24 : decode cX12_best 24 = .ok (.aload_n 0, 1) := by decide +kernel
theorem dX12_best_25 : decode cX12_best 25 = .ok (.getfield 101, 3) := by decide +kernel
theorem dX12_best_28 : decode cX12_best 28 = .ok (.iload_n 1, 1) := by decide +kernel
theorem dX12_best_29 : decode cX12_best 29 = .ok (.iload_n 2, 1) := by decide +kernel
theorem dX12_best_30 : decode cX12_best 30 = .ok (.iload_n 3, 1) := by decide +kernel
theorem dX12_best_31 : decode cX12_best 31 = .ok (.aload_n 0, 1) := by decide +kernel
theorem dX12_best_32 : decode cX12_best 32 = .ok (.getfield 35, 3) := by decide +kernel
theorem dX12_best_35 : decode cX12_best 35 = .ok (.iconst 0, 1) := by decide +kernel
theorem dX12_best_36 : decode cX12_best 36 = .ok (.invokevirtual 209, 3) := by decide +kernel
theorem dX12_best_39 : decode cX12_best 39 = .ok (.invokevirtual 250, 3) := by decide +kernel
theorem dX12_best_42 : decode cX12_best 42 = .ok (.istore 5, 2) := by decide +kernel
theorem dX12_best_44 : decode cX12_best 44 = .ok (.iload 4, 2) := by decide +kernel
theorem dX12_best_46 : decode cX12_best 46 = .ok (.ifCond .ne 9, 3) := by decide +kernel
theorem dX12_best_49 : decode cX12_best 49 = .ok (.iload 5, 2) := by decide +kernel
theorem dX12_best_51 : decode cX12_best 51 = .ok (.invokestatic 254, 3) := by decide +kernel
theorem dX12_best_54 : decode cX12_best 54 = .ok (.ireturn, 1) := by decide +kernel
theorem dX12_best_55 : decode cX12_best 55 = .ok (.iload 4, 2) := by decide +kernel
theorem dX12_best_57 : decode cX12_best 57 = .ok (.iconst 1, 1) := by decide +kernel
theorem dX12_best_58 : decode cX12_best 58 = .ok (.if_icmp .ne 11, 3) := by decide +kernel
theorem dX12_best_61 : decode cX12_best 61 = .ok (.iload 5, 2) := by decide +kernel
theorem dX12_best_63 : decode cX12_best 63 = .ok (.invokestatic 257, 3) := by decide +kernel
theorem dX12_best_66 : decode cX12_best 66 = .ok (.goto 8, 3) := by decide +kernel
theorem dX12_best_69 : decode cX12_best 69 = .ok (.iload 5, 2) := by decide +kernel
theorem dX12_best_71 : decode cX12_best 71 = .ok (.invokestatic 260, 3) := by decide +kernel
theorem dX12_best_74 : decode cX12_best 74 = .ok (.ireturn, 1) := by decide +kernel
def fX12_best (h : eg_H) (l0 : Nat) (l1 : Int32) (l2 : Int32) (l3 : Int32) (l4 : Int32) : Option (Int32 × eg_H) :=
  if eg_isO h 12 l0 then (
    (fX12_isThrow h l0 l1 l2 l3).bind fun ⟨v2, h1⟩ =>
    if v2 = 0 then
      (some ((-1000000 : Int32), h1))
    else
      if l4 < 0 then
        (some ((-1000000 : Int32), h1))
      else
        if l4 ≤ (2 : Int32) then
          ((eg_gR h1 12 16 l0).bind fun p7 =>
          (eg_gR h1 12 3 l0).bind fun p9 =>
          (fX7_told h1 p9 (0 : Int32)).bind fun ⟨v12, h11⟩ =>
          (fX0_of h11 p7 l1 l2 l3 v12).bind fun ⟨v15, h14⟩ =>
          if l4 = 0 then
            ((fX11_bowIn h14 v15).bind fun ⟨v19, h18⟩ =>
            some (v19, h18))
          else
            if l4 = (1 : Int32) then
              ((fX11_aimIn h14 v15).bind fun ⟨v23, h22⟩ =>
              some (v23, h22))
            else
              (fX11_goodIn h14 v15).bind fun ⟨v26, h25⟩ =>
              some (v26, h25))
        else
          some ((-1000000 : Int32), h1)) else none
theorem fX12_best_O {h : eg_H} {l0 : Nat} {l1 : Int32} {l2 : Int32} {l3 : Int32} {l4 : Int32} {rE : Int32} {hE : eg_H} (hF : fX12_best h l0 l1 l2 l3 l4 = some (rE, hE)) : eg_isO h 12 l0 := (eg_ifn hF).1
set_option maxRecDepth 20000 in
theorem mX12_best {h : eg_H} {l0 : Nat} {l1 : Int32} {l2 : Int32} {l3 : Int32} {l4 : Int32} {rE : Int32} {hE : eg_H} (hF : fX12_best h l0 l1 l2 l3 l4 = some (rE, hE)) : eg_Met yX12_best cX12_best 6 (some .int) 6 [.ref l0, .int l1, .int l2, .int l3, .int l4] h (some (.int rE)) hE := by
  refine eg_enter rfl (Nat.le_of_ble_eq_true rfl) ?_
  show eg_AW (RX12, cX12_best, 6, 6, none, "best", (some .int)) (eg_Zm (some (.int rE)) hE h) (eg_nc hE) (eg_ns hE) h 0 [(0, .ref l0), (1, .int l1), (2, .int l2), (3, .int l3), (4, .int l4)] [] h
  replace hF := (eg_ifn hF).2
  refine eg_aload_n (i := 0) 0 dX12_best_0 rfl rfl ?_
  refine eg_iload_n (i := 1) 1 dX12_best_1 rfl rfl ?_
  refine eg_iload_n (i := 2) 2 dX12_best_2 rfl rfl ?_
  refine eg_iload_n (i := 3) 3 dX12_best_3 rfl rfl ?_
  replace hF := eg_bind hF; obtain ⟨⟨v2, h1⟩, e3, hF⟩ := hF
  refine eg_callV (c := 12) (n := 3) [.int l1, .int l2, .int l3] dX12_best_4 (mX12_isThrow e3) rfl (fX12_isThrow_O e3) (Nat.le_of_ble_eq_true rfl) rfl ew_782 ew_784 ew_23 ew_100 ew_785 hy_X12_isThrow rfl (Nat.le_of_ble_eq_true rfl) (Nat.le_of_ble_eq_true rfl) (Nat.le_of_ble_eq_true rfl) ?_
  refine eg_if_eq 21 dX12_best_7 rfl (fun c4 => ?_) (fun c4 => ?_)
  · replace hF := eg_it c4 hF
    refine eg_ldc (v := (-1000000 : Int32)) dX12_best_21 ew_739 ?_
    exact eg_iretE dX12_best_23 hF
  · replace hF := eg_if c4 hF
    refine eg_iload (i := 4) 4 dX12_best_10 rfl ?_
    refine eg_if_lt 21 dX12_best_12 rfl (fun c5 => ?_) (fun c5 => ?_)
    · replace hF := eg_it c5 hF
      refine eg_ldc (v := (-1000000 : Int32)) dX12_best_21 ew_739 ?_
      exact eg_iretE dX12_best_23 hF
    · replace hF := eg_if c5 hF
      refine eg_iload (i := 4) 4 dX12_best_15 rfl ?_
      refine eg_iconst (v := (2 : Int32)) dX12_best_17 (by decide) ?_
      refine eg_ic_le 24 dX12_best_18 rfl (fun c6 => ?_) (fun c6 => ?_)
      · replace hF := eg_it c6 hF
        refine eg_aload_n (i := 0) 0 dX12_best_24 rfl rfl ?_
        replace hF := eg_bind hF; obtain ⟨p7, e8, hF⟩ := hF
        refine eg_getR dX12_best_25 e8 (Nat.le_of_ble_eq_true rfl) (Nat.le_of_ble_eq_true rfl) rfl ew_372 ?_
        refine eg_iload_n (i := 1) 1 dX12_best_28 rfl rfl ?_
        refine eg_iload_n (i := 2) 2 dX12_best_29 rfl rfl ?_
        refine eg_iload_n (i := 3) 3 dX12_best_30 rfl rfl ?_
        refine eg_aload_n (i := 0) 0 dX12_best_31 rfl rfl ?_
        replace hF := eg_bind hF; obtain ⟨p9, e10, hF⟩ := hF
        refine eg_getR dX12_best_32 e10 (Nat.le_of_ble_eq_true rfl) (Nat.le_of_ble_eq_true rfl) rfl ew_359 ?_
        refine eg_iconst (v := (0 : Int32)) dX12_best_35 (by decide) ?_
        replace hF := eg_bind hF; obtain ⟨⟨v12, h11⟩, e13, hF⟩ := hF
        refine eg_callV (c := 7) (n := 1) [.int (0 : Int32)] dX12_best_36 (mX7_told e13) rfl (fX7_told_O e13) (Nat.le_of_ble_eq_true rfl) rfl ew_717 ew_718 ew_719 ew_104 ew_720 hy_X7_told rfl (Nat.le_of_ble_eq_true rfl) (Nat.le_of_ble_eq_true rfl) (Nat.le_of_ble_eq_true rfl) ?_
        replace hF := eg_bind hF; obtain ⟨⟨v15, h14⟩, e16, hF⟩ := hF
        refine eg_callV (c := 0) (n := 4) [.int l1, .int l2, .int l3, .int v12] dX12_best_39 (mX0_of e16) rfl (fX0_of_O e16) (Nat.le_of_ble_eq_true rfl) rfl ew_834 ew_835 ew_836 ew_107 ew_837 hy_X0_of rfl (Nat.le_of_ble_eq_true rfl) (Nat.le_of_ble_eq_true rfl) (Nat.le_of_ble_eq_true rfl) ?_
        refine eg_istore (i := 5) [(5, .int v15), (0, .ref l0), (1, .int l1), (2, .int l2), (3, .int l3), (4, .int l4)] dX12_best_42 (Nat.le_of_ble_eq_true rfl) rfl ?_
        refine eg_iload (i := 4) 5 dX12_best_44 rfl ?_
        refine eg_if_ne 55 dX12_best_46 rfl (fun c17 => ?_) (fun c17 => ?_)
        · replace hF := eg_it c17 hF
          refine eg_iload (i := 5) 0 dX12_best_49 rfl ?_
          replace hF := eg_bind hF; obtain ⟨⟨v19, h18⟩, e20, hF⟩ := hF
          refine eg_callS (n := 1) [.int v15] dX12_best_51 (mX11_bowIn e20) rfl ew_872 ew_873 ew_106 ew_874 hy_X11_bowIn.2 rfl (Nat.le_of_ble_eq_true rfl) (Nat.le_of_ble_eq_true rfl) (Nat.le_of_ble_eq_true rfl) ?_
          exact eg_iretE dX12_best_54 hF
        · replace hF := eg_if c17 hF
          refine eg_iload (i := 4) 5 dX12_best_55 rfl ?_
          refine eg_iconst (v := (1 : Int32)) dX12_best_57 (by decide) ?_
          refine eg_ic_ne 69 dX12_best_58 rfl (fun c21 => ?_) (fun c21 => ?_)
          · replace hF := eg_it c21 hF
            refine eg_iload (i := 5) 0 dX12_best_61 rfl ?_
            replace hF := eg_bind hF; obtain ⟨⟨v23, h22⟩, e24, hF⟩ := hF
            refine eg_callS (n := 1) [.int v15] dX12_best_63 (mX11_aimIn e24) rfl ew_875 ew_876 ew_106 ew_877 hy_X11_aimIn.2 rfl (Nat.le_of_ble_eq_true rfl) (Nat.le_of_ble_eq_true rfl) (Nat.le_of_ble_eq_true rfl) ?_
            refine eg_goto 74 dX12_best_66 rfl ?_
            exact eg_iretE dX12_best_74 hF
          · replace hF := eg_if c21 hF
            refine eg_iload (i := 5) 0 dX12_best_69 rfl ?_
            replace hF := eg_bind hF; obtain ⟨⟨v26, h25⟩, e27, hF⟩ := hF
            refine eg_callS (n := 1) [.int v15] dX12_best_71 (mX11_goodIn e27) rfl ew_878 ew_879 ew_106 ew_880 hy_X11_goodIn.2 rfl (Nat.le_of_ble_eq_true rfl) (Nat.le_of_ble_eq_true rfl) (Nat.le_of_ble_eq_true rfl) ?_
            exact eg_iretE dX12_best_74 hF
      · replace hF := eg_if c6 hF
        refine eg_ldc (v := (-1000000 : Int32)) dX12_best_21 ew_739 ?_
        exact eg_iretE dX12_best_23 hF
theorem dX12_arms_0 : decode cX12_arms 0 = .ok (.aload_n 0, 1) := by decide +kernel
theorem dX12_arms_1 : decode cX12_arms 1 = .ok (.iload_n 1, 1) := by decide +kernel
theorem dX12_arms_2 : decode cX12_arms 2 = .ok (.iload_n 2, 1) := by decide +kernel
theorem dX12_arms_3 : decode cX12_arms 3 = .ok (.iload_n 3, 1) := by decide +kernel
theorem dX12_arms_4 : decode cX12_arms 4 = .ok (.invokevirtual 237, 3) := by decide +kernel
theorem dX12_arms_7 : decode cX12_arms 7 = .ok (.ifCond .eq 25, 3) := by decide +kernel
theorem dX12_arms_10 : decode cX12_arms 10 = .ok (.aload_n 0, 1) := by decide +kernel
theorem dX12_arms_11 : decode cX12_arms 11 = .ok (.iload_n 1, 1) := by decide +kernel
theorem dX12_arms_12 : decode cX12_arms 12 = .ok (.iload 4, 2) := by decide +kernel
theorem dX12_arms_14 : decode cX12_arms 14 = .ok (.invokevirtual 241, 3) := by decide +kernel
theorem dX12_arms_17 : decode cX12_arms 17 = .ok (.ifCond .eq 15, 3) := by decide +kernel
theorem dX12_arms_20 : decode cX12_arms 20 = .ok (.iload 5, 2) := by decide +kernel
theorem dX12_arms_22 : decode cX12_arms 22 = .ok (.ifCond .lt 10, 3) := by decide +kernel
theorem dX12_arms_25 : decode cX12_arms 25 = .ok (.iload 5, 2) := by decide +kernel
theorem dX12_arms_27 : decode cX12_arms 27 = .ok (.bipush 11, 2) := by decide +kernel
theorem dX12_arms_29 : decode cX12_arms 29 = .ok (.if_icmp .le 5, 3) := by decide +kernel
theorem dX12_arms_32 : decode cX12_arms 32 = .ok (.iconst (-1), 1) := by decide +kernel
theorem dX12_arms_33 : decode cX12_arms 33 = .ok (.ireturn, 1) := by decide +kernel
theorem dX12_arms_34 : decode cX12_arms 34 = .ok (.aload_n 0, 1) := by decide +kernel
theorem dX12_arms_35 : decode cX12_arms 35 = .ok (.getfield 92, 3) := by decide +kernel
theorem dX12_arms_38 : decode cX12_arms 38 = .ok (.iload_n 1, 1) := by decide +kernel
theorem dX12_arms_39 : decode cX12_arms 39 = .ok (.iload_n 2, 1) := by decide +kernel
theorem dX12_arms_40 : decode cX12_arms 40 = .ok (.aload_n 0, 1) := by decide +kernel
theorem dX12_arms_41 : decode cX12_arms 41 = .ok (.getfield 35, 3) := by decide +kernel
theorem dX12_arms_44 : decode cX12_arms 44 = .ok (.iconst 0, 1) := by decide +kernel
theorem dX12_arms_45 : decode cX12_arms 45 = .ok (.invokevirtual 209, 3) := by decide +kernel
theorem dX12_arms_48 : decode cX12_arms 48 = .ok (.invokevirtual 244, 3) := by decide +kernel
theorem dX12_arms_51 : decode cX12_arms 51 = .ok (.iconst 0, 1) := by decide +kernel
theorem dX12_arms_52 : decode cX12_arms 52 = .ok (.istore 6, 2) := by decide +kernel
theorem dX12_arms_54 : decode cX12_arms 54 = .ok (.iconst 0, 1) := by decide +kernel
theorem dX12_arms_55 : decode cX12_arms 55 = .ok (.istore 7, 2) := by decide +kernel
theorem dX12_arms_57 : decode cX12_arms 57 = .ok (.iload 7, 2) := by decide +kernel
theorem dX12_arms_59 : decode cX12_arms 59 = .ok (.bipush 9, 2) := by decide +kernel
theorem dX12_arms_61 : decode cX12_arms 61 = .ok (.if_icmp .gt 39, 3) := by decide +kernel
theorem dX12_arms_64 : decode cX12_arms 64 = .ok (.aload_n 0, 1) := by decide +kernel
theorem dX12_arms_65 : decode cX12_arms 65 = .ok (.getfield 92, 3) := by decide +kernel
theorem dX12_arms_68 : decode cX12_arms 68 = .ok (.iload 7, 2) := by decide +kernel
theorem dX12_arms_70 : decode cX12_arms 70 = .ok (.invokevirtual 263, 3) := by decide +kernel
theorem dX12_arms_73 : decode cX12_arms 73 = .ok (.aload_n 0, 1) := by decide +kernel
theorem dX12_arms_74 : decode cX12_arms 74 = .ok (.iload_n 3, 1) := by decide +kernel
theorem dX12_arms_75 : decode cX12_arms 75 = .ok (.iload 4, 2) := by decide +kernel
theorem dX12_arms_77 : decode cX12_arms 77 = .ok (.invokevirtual 247, 3) := by decide +kernel
theorem dX12_arms_80 : decode cX12_arms 80 = .ok (.iload 5, 2) := by decide +kernel
theorem dX12_arms_82 : decode cX12_arms 82 = .ok (.if_icmp .lt 12, 3) := by decide +kernel
theorem dX12_arms_85 : decode cX12_arms 85 = .ok (.iload 6, 2) := by decide +kernel
theorem dX12_arms_87 : decode cX12_arms 87 = .ok (.iconst 1, 1) := by decide +kernel
theorem dX12_arms_88 : decode cX12_arms 88 = .ok (.iload 7, 2) := by decide +kernel
theorem dX12_arms_90 : decode cX12_arms 90 = .ok (.ishl, 1) := by decide +kernel
theorem dX12_arms_91 : decode cX12_arms 91 = .ok (.ior, 1) := by decide +kernel
theorem dX12_arms_92 : decode cX12_arms 92 = .ok (.istore 6, 2) := by decide +kernel
theorem dX12_arms_94 : decode cX12_arms 94 = .ok (.iinc 7 1, 3) := by decide +kernel
theorem dX12_arms_97 : decode cX12_arms 97 = .ok (.goto (-40), 3) := by decide +kernel
theorem dX12_arms_100 : decode cX12_arms 100 = .ok (.iload 6, 2) := by decide +kernel
theorem dX12_arms_102 : decode cX12_arms 102 = .ok (.ireturn, 1) := by decide +kernel
def fX12_arms_L57 : Nat → eg_H → Nat → Int32 → Int32 → Int32 → Int32 → Int32 → Option (Int32 × eg_H)
  | 0, _, _, _, _, _, _, _ => none
  | n + 1, h, l0, l3, l4, l5, l6, l7 =>
    if (9 : Int32) < l7 then
      (some (l6, h))
    else
      (eg_gR h 12 15 l0).bind fun p2 =>
      (fX11_useArm h p2 l7).bind fun h4 =>
      (fX12_goodOf h4 l0 l3 l4).bind fun ⟨v7, h6⟩ =>
      if v7 < l5 then
        (fX12_arms_L57 n h6 l0 l3 l4 l5 l6 (l7 + (1 : Int32)))
      else
        (some ((l6 ||| ((1 : Int32) <<< (l7 &&& 31))))).bind fun v10 =>
        fX12_arms_L57 n h6 l0 l3 l4 l5 v10 (l7 + (1 : Int32))
set_option maxRecDepth 20000 in
theorem fX12_arms_L57_ok {h0 : eg_H} {Z : eg_C → State → Prop} {N S : Nat} : ∀ (n : Nat) (h : eg_H) (l0 : Nat) (l3 : Int32) (l4 : Int32) (l5 : Int32) (l6 : Int32) (l7 : Int32) (eE : Int32 × eg_H), fX12_arms_L57 n h l0 l3 l4 l5 l6 l7 = some eE → (hk0 : ∀ (l6 : Int32) (h : eg_H), eE = (l6, h) → eg_AW (RX12, cX12_arms, 8, 5, none, "arms", (some .int)) Z N S h0 100 [(6, .int l6)] [] h) → eg_AW (RX12, cX12_arms, 8, 5, none, "arms", (some .int)) Z N S h0 57 [(0, .ref l0), (3, .int l3), (4, .int l4), (5, .int l5), (6, .int l6), (7, .int l7)] [] h := by
  intro n
  induction n with
  | zero => intro h l0 l3 l4 l5 l6 l7 eE hF; exact absurd hF (by intro q; cases q)
  | succ n ih =>
    intro h l0 l3 l4 l5 l6 l7 eE hF hk0
    have hrec := fun (h' : eg_H) (l0 : Nat) (l3 : Int32) (l4 : Int32) (l5 : Int32) (l6 : Int32) (l7 : Int32) hq => ih h' l0 l3 l4 l5 l6 l7 eE hq hk0
    refine eg_iload (i := 7) 5 dX12_arms_57 rfl ?_
    refine eg_bipush (v := (9 : Int32)) dX12_arms_59 (by decide) ?_
    refine eg_ic_gt 100 dX12_arms_61 rfl (fun c1 => ?_) (fun c1 => ?_)
    · replace hF := eg_it c1 hF
      exact eg_sub [4] [(6, .int l6)] rfl (hk0 l6 h (Option.some.inj hF).symm)
    · replace hF := eg_if c1 hF
      refine eg_aload_n (i := 0) 0 dX12_arms_64 rfl rfl ?_
      replace hF := eg_bind hF; obtain ⟨p2, e3, hF⟩ := hF
      refine eg_getR dX12_arms_65 e3 (Nat.le_of_ble_eq_true rfl) (Nat.le_of_ble_eq_true rfl) rfl ew_371 ?_
      refine eg_iload (i := 7) 5 dX12_arms_68 rfl ?_
      replace hF := eg_bind hF; obtain ⟨h4, e5, hF⟩ := hF
      refine eg_callV (c := 11) (n := 1) [.int l7] dX12_arms_70 (mX11_useArm e5) rfl (fX11_useArm_O e5) (Nat.le_of_ble_eq_true rfl) rfl ew_885 ew_886 ew_887 ew_106 ew_888 hy_X11_useArm rfl (Nat.le_of_ble_eq_true rfl) (Nat.le_of_ble_eq_true rfl) (Nat.le_of_ble_eq_true rfl) ?_
      refine eg_aload_n (i := 0) 0 dX12_arms_73 rfl rfl ?_
      refine eg_iload_n (i := 3) 1 dX12_arms_74 rfl rfl ?_
      refine eg_iload (i := 4) 2 dX12_arms_75 rfl ?_
      replace hF := eg_bind hF; obtain ⟨⟨v7, h6⟩, e8, hF⟩ := hF
      refine eg_callV (c := 12) (n := 2) [.int l3, .int l4] dX12_arms_77 (mX12_goodOf e8) rfl (fX12_goodOf_O e8) (Nat.le_of_ble_eq_true rfl) rfl ew_811 ew_813 ew_26 ew_100 ew_814 hy_X12_goodOf rfl (Nat.le_of_ble_eq_true rfl) (Nat.le_of_ble_eq_true rfl) (Nat.le_of_ble_eq_true rfl) ?_
      refine eg_iload (i := 5) 3 dX12_arms_80 rfl ?_
      refine eg_ic_lt 94 dX12_arms_82 rfl (fun c9 => ?_) (fun c9 => ?_)
      · replace hF := eg_it c9 hF
        refine eg_iinc (i := 7) (v := (l7 + (1 : Int32))) 5 [(7, .int (l7 + (1 : Int32))), (0, .ref l0), (3, .int l3), (4, .int l4), (5, .int l5), (6, .int l6)] dX12_arms_94 rfl rfl (Nat.le_of_ble_eq_true rfl) rfl ?_
        refine eg_goto 57 dX12_arms_97 rfl ?_
        exact eg_sub [1, 2, 3, 4, 5, 0] [(0, .ref l0), (3, .int l3), (4, .int l4), (5, .int l5), (6, .int l6), (7, .int (l7 + (1 : Int32)))] rfl (hrec h6 l0 l3 l4 l5 l6 (l7 + (1 : Int32)) hF)
      · replace hF := eg_if c9 hF
        refine eg_iload (i := 6) 4 dX12_arms_85 rfl ?_
        refine eg_iconst (v := (1 : Int32)) dX12_arms_87 (by decide) ?_
        refine eg_iload (i := 7) 5 dX12_arms_88 rfl ?_
        refine eg_ishl dX12_arms_90 ?_
        refine eg_ior dX12_arms_91 ?_
        replace hF := eg_bind hF; obtain ⟨v10, e11, hF⟩ := hF
        replace e11 := Option.some.inj e11
        rw [e11]
        refine eg_istore (i := 6) [(6, .int v10), (0, .ref l0), (3, .int l3), (4, .int l4), (5, .int l5), (7, .int l7)] dX12_arms_92 (Nat.le_of_ble_eq_true rfl) rfl ?_
        refine eg_iinc (i := 7) (v := (l7 + (1 : Int32))) 5 [(7, .int (l7 + (1 : Int32))), (6, .int v10), (0, .ref l0), (3, .int l3), (4, .int l4), (5, .int l5)] dX12_arms_94 rfl rfl (Nat.le_of_ble_eq_true rfl) rfl ?_
        refine eg_goto 57 dX12_arms_97 rfl ?_
        exact eg_sub [2, 3, 4, 5, 1, 0] [(0, .ref l0), (3, .int l3), (4, .int l4), (5, .int l5), (6, .int v10), (7, .int (l7 + (1 : Int32)))] rfl (hrec h6 l0 l3 l4 l5 v10 (l7 + (1 : Int32)) hF)
def fX12_arms (h : eg_H) (l0 : Nat) (l1 : Int32) (l2 : Int32) (l3 : Int32) (l4 : Int32) (l5 : Int32) : Option (Int32 × eg_H) :=
  if eg_isO h 12 l0 then (
    (fX12_isThrow h l0 l1 l2 l3).bind fun ⟨v2, h1⟩ =>
    if v2 = 0 then
      (some ((-1 : Int32), h1))
    else
      (fX12_isHow h1 l0 l1 l4).bind fun ⟨v6, h5⟩ =>
      if v6 = 0 then
        (some ((-1 : Int32), h5))
      else
        if l5 < 0 then
          (some ((-1 : Int32), h5))
        else
          if l5 ≤ (11 : Int32) then
            ((eg_gR h5 12 15 l0).bind fun p11 =>
            (eg_gR h5 12 3 l0).bind fun p13 =>
            (fX7_told h5 p13 (0 : Int32)).bind fun ⟨v16, h15⟩ =>
            (fX11_take h15 p11 l1 l2 v16).bind fun h18 =>
            (fX12_arms_L57 eg_F h18 l0 l3 l4 l5 (0 : Int32) (0 : Int32)).bind fun e =>
            match e with
            | (v22, h23) =>
              some (v22, h23))
          else
            some ((-1 : Int32), h5)) else none
theorem fX12_arms_O {h : eg_H} {l0 : Nat} {l1 : Int32} {l2 : Int32} {l3 : Int32} {l4 : Int32} {l5 : Int32} {rE : Int32} {hE : eg_H} (hF : fX12_arms h l0 l1 l2 l3 l4 l5 = some (rE, hE)) : eg_isO h 12 l0 := (eg_ifn hF).1
set_option maxRecDepth 20000 in
theorem mX12_arms {h : eg_H} {l0 : Nat} {l1 : Int32} {l2 : Int32} {l3 : Int32} {l4 : Int32} {l5 : Int32} {rE : Int32} {hE : eg_H} (hF : fX12_arms h l0 l1 l2 l3 l4 l5 = some (rE, hE)) : eg_Met yX12_arms cX12_arms 8 (some .int) 5 [.ref l0, .int l1, .int l2, .int l3, .int l4, .int l5] h (some (.int rE)) hE := by
  refine eg_enter rfl (Nat.le_of_ble_eq_true rfl) ?_
  show eg_AW (RX12, cX12_arms, 8, 5, none, "arms", (some .int)) (eg_Zm (some (.int rE)) hE h) (eg_nc hE) (eg_ns hE) h 0 [(0, .ref l0), (1, .int l1), (2, .int l2), (3, .int l3), (4, .int l4), (5, .int l5)] [] h
  replace hF := (eg_ifn hF).2
  refine eg_aload_n (i := 0) 0 dX12_arms_0 rfl rfl ?_
  refine eg_iload_n (i := 1) 1 dX12_arms_1 rfl rfl ?_
  refine eg_iload_n (i := 2) 2 dX12_arms_2 rfl rfl ?_
  refine eg_iload_n (i := 3) 3 dX12_arms_3 rfl rfl ?_
  replace hF := eg_bind hF; obtain ⟨⟨v2, h1⟩, e3, hF⟩ := hF
  refine eg_callV (c := 12) (n := 3) [.int l1, .int l2, .int l3] dX12_arms_4 (mX12_isThrow e3) rfl (fX12_isThrow_O e3) (Nat.le_of_ble_eq_true rfl) rfl ew_782 ew_784 ew_23 ew_100 ew_785 hy_X12_isThrow rfl (Nat.le_of_ble_eq_true rfl) (Nat.le_of_ble_eq_true rfl) (Nat.le_of_ble_eq_true rfl) ?_
  refine eg_if_eq 32 dX12_arms_7 rfl (fun c4 => ?_) (fun c4 => ?_)
  · replace hF := eg_it c4 hF
    refine eg_iconst (v := (-1 : Int32)) dX12_arms_32 (by decide) ?_
    exact eg_iretE dX12_arms_33 hF
  · replace hF := eg_if c4 hF
    refine eg_aload_n (i := 0) 0 dX12_arms_10 rfl rfl ?_
    refine eg_iload_n (i := 1) 1 dX12_arms_11 rfl rfl ?_
    refine eg_iload (i := 4) 4 dX12_arms_12 rfl ?_
    replace hF := eg_bind hF; obtain ⟨⟨v6, h5⟩, e7, hF⟩ := hF
    refine eg_callV (c := 12) (n := 2) [.int l1, .int l4] dX12_arms_14 (mX12_isHow e7) rfl (fX12_isHow_O e7) (Nat.le_of_ble_eq_true rfl) rfl ew_798 ew_800 ew_25 ew_100 ew_801 hy_X12_isHow rfl (Nat.le_of_ble_eq_true rfl) (Nat.le_of_ble_eq_true rfl) (Nat.le_of_ble_eq_true rfl) ?_
    refine eg_if_eq 32 dX12_arms_17 rfl (fun c8 => ?_) (fun c8 => ?_)
    · replace hF := eg_it c8 hF
      refine eg_iconst (v := (-1 : Int32)) dX12_arms_32 (by decide) ?_
      exact eg_iretE dX12_arms_33 hF
    · replace hF := eg_if c8 hF
      refine eg_iload (i := 5) 5 dX12_arms_20 rfl ?_
      refine eg_if_lt 32 dX12_arms_22 rfl (fun c9 => ?_) (fun c9 => ?_)
      · replace hF := eg_it c9 hF
        refine eg_iconst (v := (-1 : Int32)) dX12_arms_32 (by decide) ?_
        exact eg_iretE dX12_arms_33 hF
      · replace hF := eg_if c9 hF
        refine eg_iload (i := 5) 5 dX12_arms_25 rfl ?_
        refine eg_bipush (v := (11 : Int32)) dX12_arms_27 (by decide) ?_
        refine eg_ic_le 34 dX12_arms_29 rfl (fun c10 => ?_) (fun c10 => ?_)
        · replace hF := eg_it c10 hF
          refine eg_aload_n (i := 0) 0 dX12_arms_34 rfl rfl ?_
          replace hF := eg_bind hF; obtain ⟨p11, e12, hF⟩ := hF
          refine eg_getR dX12_arms_35 e12 (Nat.le_of_ble_eq_true rfl) (Nat.le_of_ble_eq_true rfl) rfl ew_371 ?_
          refine eg_iload_n (i := 1) 1 dX12_arms_38 rfl rfl ?_
          refine eg_iload_n (i := 2) 2 dX12_arms_39 rfl rfl ?_
          refine eg_aload_n (i := 0) 0 dX12_arms_40 rfl rfl ?_
          replace hF := eg_bind hF; obtain ⟨p13, e14, hF⟩ := hF
          refine eg_getR dX12_arms_41 e14 (Nat.le_of_ble_eq_true rfl) (Nat.le_of_ble_eq_true rfl) rfl ew_359 ?_
          refine eg_iconst (v := (0 : Int32)) dX12_arms_44 (by decide) ?_
          replace hF := eg_bind hF; obtain ⟨⟨v16, h15⟩, e17, hF⟩ := hF
          refine eg_callV (c := 7) (n := 1) [.int (0 : Int32)] dX12_arms_45 (mX7_told e17) rfl (fX7_told_O e17) (Nat.le_of_ble_eq_true rfl) rfl ew_717 ew_718 ew_719 ew_104 ew_720 hy_X7_told rfl (Nat.le_of_ble_eq_true rfl) (Nat.le_of_ble_eq_true rfl) (Nat.le_of_ble_eq_true rfl) ?_
          replace hF := eg_bind hF; obtain ⟨h18, e19, hF⟩ := hF
          refine eg_callV (c := 11) (n := 3) [.int l1, .int l2, .int v16] dX12_arms_48 (mX11_take e19) rfl (fX11_take_O e19) (Nat.le_of_ble_eq_true rfl) rfl ew_802 ew_803 ew_804 ew_106 ew_805 hy_X11_take rfl (Nat.le_of_ble_eq_true rfl) (Nat.le_of_ble_eq_true rfl) (Nat.le_of_ble_eq_true rfl) ?_
          refine eg_iconst (v := (0 : Int32)) dX12_arms_51 (by decide) ?_
          refine eg_istore (i := 6) [(6, .int (0 : Int32)), (0, .ref l0), (1, .int l1), (2, .int l2), (3, .int l3), (4, .int l4), (5, .int l5)] dX12_arms_52 (Nat.le_of_ble_eq_true rfl) rfl ?_
          refine eg_iconst (v := (0 : Int32)) dX12_arms_54 (by decide) ?_
          refine eg_istore (i := 7) [(7, .int (0 : Int32)), (6, .int (0 : Int32)), (0, .ref l0), (1, .int l1), (2, .int l2), (3, .int l3), (4, .int l4), (5, .int l5)] dX12_arms_55 (Nat.le_of_ble_eq_true rfl) rfl ?_
          replace hF := eg_bind hF; obtain ⟨x21, e20, hF⟩ := hF
          refine eg_sub [2, 5, 6, 7, 1, 0] [(0, .ref l0), (3, .int l3), (4, .int l4), (5, .int l5), (6, .int (0 : Int32)), (7, .int (0 : Int32))] rfl (fX12_arms_L57_ok eg_F h18 l0 l3 l4 l5 (0 : Int32) (0 : Int32) x21 e20 ?_)
          · intro v22 h23 e24
            subst e24
            refine eg_iload (i := 6) 0 dX12_arms_100 rfl ?_
            exact eg_iretE dX12_arms_102 hF
        · replace hF := eg_if c10 hF
          refine eg_iconst (v := (-1 : Int32)) dX12_arms_32 (by decide) ?_
          exact eg_iretE dX12_arms_33 hF
theorem dX12_legs_0 : decode cX12_legs 0 = .ok (.aload_n 0, 1) := by decide +kernel
theorem dX12_legs_1 : decode cX12_legs 1 = .ok (.iload_n 1, 1) := by decide +kernel
theorem dX12_legs_2 : decode cX12_legs 2 = .ok (.iload_n 2, 1) := by decide +kernel
theorem dX12_legs_3 : decode cX12_legs 3 = .ok (.iload_n 3, 1) := by decide +kernel
theorem dX12_legs_4 : decode cX12_legs 4 = .ok (.invokevirtual 237, 3) := by decide +kernel
theorem dX12_legs_7 : decode cX12_legs 7 = .ok (.ifCond .eq 25, 3) := by decide +kernel
theorem dX12_legs_10 : decode cX12_legs 10 = .ok (.aload_n 0, 1) := by decide +kernel
theorem dX12_legs_11 : decode cX12_legs 11 = .ok (.iload_n 1, 1) := by decide +kernel
theorem dX12_legs_12 : decode cX12_legs 12 = .ok (.iload 4, 2) := by decide +kernel
theorem dX12_legs_14 : decode cX12_legs 14 = .ok (.invokevirtual 241, 3) := by decide +kernel
theorem dX12_legs_17 : decode cX12_legs 17 = .ok (.ifCond .eq 15, 3) := by decide +kernel
theorem dX12_legs_20 : decode cX12_legs 20 = .ok (.iload 5, 2) := by decide +kernel
theorem dX12_legs_22 : decode cX12_legs 22 = .ok (.ifCond .lt 10, 3) := by decide +kernel
theorem dX12_legs_25 : decode cX12_legs 25 = .ok (.iload 5, 2) := by decide +kernel
theorem dX12_legs_27 : decode cX12_legs 27 = .ok (.bipush 11, 2) := by decide +kernel
theorem dX12_legs_29 : decode cX12_legs 29 = .ok (.if_icmp .le 5, 3) := by decide +kernel
theorem dX12_legs_32 : decode cX12_legs 32 = .ok (.iconst (-1), 1) := by decide +kernel
theorem dX12_legs_33 : decode cX12_legs 33 = .ok (.ireturn, 1) := by decide +kernel
theorem dX12_legs_34 : decode cX12_legs 34 = .ok (.aload_n 0, 1) := by decide +kernel
theorem dX12_legs_35 : decode cX12_legs 35 = .ok (.getfield 92, 3) := by decide +kernel
theorem dX12_legs_38 : decode cX12_legs 38 = .ok (.iload_n 1, 1) := by decide +kernel
theorem dX12_legs_39 : decode cX12_legs 39 = .ok (.iload_n 2, 1) := by decide +kernel
theorem dX12_legs_40 : decode cX12_legs 40 = .ok (.aload_n 0, 1) := by decide +kernel
theorem dX12_legs_41 : decode cX12_legs 41 = .ok (.getfield 35, 3) := by decide +kernel
theorem dX12_legs_44 : decode cX12_legs 44 = .ok (.iconst 0, 1) := by decide +kernel
theorem dX12_legs_45 : decode cX12_legs 45 = .ok (.invokevirtual 209, 3) := by decide +kernel
theorem dX12_legs_48 : decode cX12_legs 48 = .ok (.invokevirtual 244, 3) := by decide +kernel
theorem dX12_legs_51 : decode cX12_legs 51 = .ok (.iconst 0, 1) := by decide +kernel
theorem dX12_legs_52 : decode cX12_legs 52 = .ok (.istore 6, 2) := by decide +kernel
theorem dX12_legs_54 : decode cX12_legs 54 = .ok (.iconst 0, 1) := by decide +kernel
theorem dX12_legs_55 : decode cX12_legs 55 = .ok (.istore 7, 2) := by decide +kernel
theorem dX12_legs_57 : decode cX12_legs 57 = .ok (.iload 7, 2) := by decide +kernel
theorem dX12_legs_59 : decode cX12_legs 59 = .ok (.iconst 5, 1) := by decide +kernel
theorem dX12_legs_60 : decode cX12_legs 60 = .ok (.if_icmp .gt 39, 3) := by decide +kernel
theorem dX12_legs_63 : decode cX12_legs 63 = .ok (.aload_n 0, 1) := by decide +kernel
theorem dX12_legs_64 : decode cX12_legs 64 = .ok (.getfield 92, 3) := by decide +kernel
theorem dX12_legs_67 : decode cX12_legs 67 = .ok (.iload 7, 2) := by decide +kernel
theorem dX12_legs_69 : decode cX12_legs 69 = .ok (.invokevirtual 266, 3) := by decide +kernel
theorem dX12_legs_72 : decode cX12_legs 72 = .ok (.aload_n 0, 1) := by decide +kernel
theorem dX12_legs_73 : decode cX12_legs 73 = .ok (.iload_n 3, 1) := by decide +kernel
theorem dX12_legs_74 : decode cX12_legs 74 = .ok (.iload 4, 2) := by decide +kernel
theorem dX12_legs_76 : decode cX12_legs 76 = .ok (.invokevirtual 247, 3) := by decide +kernel
theorem dX12_legs_79 : decode cX12_legs 79 = .ok (.iload 5, 2) := by decide +kernel
theorem dX12_legs_81 : decode cX12_legs 81 = .ok (.if_icmp .lt 12, 3) := by decide +kernel
theorem dX12_legs_84 : decode cX12_legs 84 = .ok (.iload 6, 2) := by decide +kernel
theorem dX12_legs_86 : decode cX12_legs 86 = .ok (.iconst 1, 1) := by decide +kernel
theorem dX12_legs_87 : decode cX12_legs 87 = .ok (.iload 7, 2) := by decide +kernel
theorem dX12_legs_89 : decode cX12_legs 89 = .ok (.ishl, 1) := by decide +kernel
theorem dX12_legs_90 : decode cX12_legs 90 = .ok (.ior, 1) := by decide +kernel
theorem dX12_legs_91 : decode cX12_legs 91 = .ok (.istore 6, 2) := by decide +kernel
theorem dX12_legs_93 : decode cX12_legs 93 = .ok (.iinc 7 1, 3) := by decide +kernel
theorem dX12_legs_96 : decode cX12_legs 96 = .ok (.goto (-39), 3) := by decide +kernel
theorem dX12_legs_99 : decode cX12_legs 99 = .ok (.iload 6, 2) := by decide +kernel
theorem dX12_legs_101 : decode cX12_legs 101 = .ok (.ireturn, 1) := by decide +kernel
def fX12_legs_L57 : Nat → eg_H → Nat → Int32 → Int32 → Int32 → Int32 → Int32 → Option (Int32 × eg_H)
  | 0, _, _, _, _, _, _, _ => none
  | n + 1, h, l0, l3, l4, l5, l6, l7 =>
    if (5 : Int32) < l7 then
      (some (l6, h))
    else
      (eg_gR h 12 15 l0).bind fun p2 =>
      (fX11_useRun h p2 l7).bind fun h4 =>
      (fX12_goodOf h4 l0 l3 l4).bind fun ⟨v7, h6⟩ =>
      if v7 < l5 then
        (fX12_legs_L57 n h6 l0 l3 l4 l5 l6 (l7 + (1 : Int32)))
      else
        (some ((l6 ||| ((1 : Int32) <<< (l7 &&& 31))))).bind fun v10 =>
        fX12_legs_L57 n h6 l0 l3 l4 l5 v10 (l7 + (1 : Int32))
set_option maxRecDepth 20000 in
theorem fX12_legs_L57_ok {h0 : eg_H} {Z : eg_C → State → Prop} {N S : Nat} : ∀ (n : Nat) (h : eg_H) (l0 : Nat) (l3 : Int32) (l4 : Int32) (l5 : Int32) (l6 : Int32) (l7 : Int32) (eE : Int32 × eg_H), fX12_legs_L57 n h l0 l3 l4 l5 l6 l7 = some eE → (hk0 : ∀ (l6 : Int32) (h : eg_H), eE = (l6, h) → eg_AW (RX12, cX12_legs, 8, 5, none, "legs", (some .int)) Z N S h0 99 [(6, .int l6)] [] h) → eg_AW (RX12, cX12_legs, 8, 5, none, "legs", (some .int)) Z N S h0 57 [(0, .ref l0), (3, .int l3), (4, .int l4), (5, .int l5), (6, .int l6), (7, .int l7)] [] h := by
  intro n
  induction n with
  | zero => intro h l0 l3 l4 l5 l6 l7 eE hF; exact absurd hF (by intro q; cases q)
  | succ n ih =>
    intro h l0 l3 l4 l5 l6 l7 eE hF hk0
    have hrec := fun (h' : eg_H) (l0 : Nat) (l3 : Int32) (l4 : Int32) (l5 : Int32) (l6 : Int32) (l7 : Int32) hq => ih h' l0 l3 l4 l5 l6 l7 eE hq hk0
    refine eg_iload (i := 7) 5 dX12_legs_57 rfl ?_
    refine eg_iconst (v := (5 : Int32)) dX12_legs_59 (by decide) ?_
    refine eg_ic_gt 99 dX12_legs_60 rfl (fun c1 => ?_) (fun c1 => ?_)
    · replace hF := eg_it c1 hF
      exact eg_sub [4] [(6, .int l6)] rfl (hk0 l6 h (Option.some.inj hF).symm)
    · replace hF := eg_if c1 hF
      refine eg_aload_n (i := 0) 0 dX12_legs_63 rfl rfl ?_
      replace hF := eg_bind hF; obtain ⟨p2, e3, hF⟩ := hF
      refine eg_getR dX12_legs_64 e3 (Nat.le_of_ble_eq_true rfl) (Nat.le_of_ble_eq_true rfl) rfl ew_371 ?_
      refine eg_iload (i := 7) 5 dX12_legs_67 rfl ?_
      replace hF := eg_bind hF; obtain ⟨h4, e5, hF⟩ := hF
      refine eg_callV (c := 11) (n := 1) [.int l7] dX12_legs_69 (mX11_useRun e5) rfl (fX11_useRun_O e5) (Nat.le_of_ble_eq_true rfl) rfl ew_893 ew_894 ew_895 ew_106 ew_896 hy_X11_useRun rfl (Nat.le_of_ble_eq_true rfl) (Nat.le_of_ble_eq_true rfl) (Nat.le_of_ble_eq_true rfl) ?_
      refine eg_aload_n (i := 0) 0 dX12_legs_72 rfl rfl ?_
      refine eg_iload_n (i := 3) 1 dX12_legs_73 rfl rfl ?_
      refine eg_iload (i := 4) 2 dX12_legs_74 rfl ?_
      replace hF := eg_bind hF; obtain ⟨⟨v7, h6⟩, e8, hF⟩ := hF
      refine eg_callV (c := 12) (n := 2) [.int l3, .int l4] dX12_legs_76 (mX12_goodOf e8) rfl (fX12_goodOf_O e8) (Nat.le_of_ble_eq_true rfl) rfl ew_811 ew_813 ew_26 ew_100 ew_814 hy_X12_goodOf rfl (Nat.le_of_ble_eq_true rfl) (Nat.le_of_ble_eq_true rfl) (Nat.le_of_ble_eq_true rfl) ?_
      refine eg_iload (i := 5) 3 dX12_legs_79 rfl ?_
      refine eg_ic_lt 93 dX12_legs_81 rfl (fun c9 => ?_) (fun c9 => ?_)
      · replace hF := eg_it c9 hF
        refine eg_iinc (i := 7) (v := (l7 + (1 : Int32))) 5 [(7, .int (l7 + (1 : Int32))), (0, .ref l0), (3, .int l3), (4, .int l4), (5, .int l5), (6, .int l6)] dX12_legs_93 rfl rfl (Nat.le_of_ble_eq_true rfl) rfl ?_
        refine eg_goto 57 dX12_legs_96 rfl ?_
        exact eg_sub [1, 2, 3, 4, 5, 0] [(0, .ref l0), (3, .int l3), (4, .int l4), (5, .int l5), (6, .int l6), (7, .int (l7 + (1 : Int32)))] rfl (hrec h6 l0 l3 l4 l5 l6 (l7 + (1 : Int32)) hF)
      · replace hF := eg_if c9 hF
        refine eg_iload (i := 6) 4 dX12_legs_84 rfl ?_
        refine eg_iconst (v := (1 : Int32)) dX12_legs_86 (by decide) ?_
        refine eg_iload (i := 7) 5 dX12_legs_87 rfl ?_
        refine eg_ishl dX12_legs_89 ?_
        refine eg_ior dX12_legs_90 ?_
        replace hF := eg_bind hF; obtain ⟨v10, e11, hF⟩ := hF
        replace e11 := Option.some.inj e11
        rw [e11]
        refine eg_istore (i := 6) [(6, .int v10), (0, .ref l0), (3, .int l3), (4, .int l4), (5, .int l5), (7, .int l7)] dX12_legs_91 (Nat.le_of_ble_eq_true rfl) rfl ?_
        refine eg_iinc (i := 7) (v := (l7 + (1 : Int32))) 5 [(7, .int (l7 + (1 : Int32))), (6, .int v10), (0, .ref l0), (3, .int l3), (4, .int l4), (5, .int l5)] dX12_legs_93 rfl rfl (Nat.le_of_ble_eq_true rfl) rfl ?_
        refine eg_goto 57 dX12_legs_96 rfl ?_
        exact eg_sub [2, 3, 4, 5, 1, 0] [(0, .ref l0), (3, .int l3), (4, .int l4), (5, .int l5), (6, .int v10), (7, .int (l7 + (1 : Int32)))] rfl (hrec h6 l0 l3 l4 l5 v10 (l7 + (1 : Int32)) hF)
def fX12_legs (h : eg_H) (l0 : Nat) (l1 : Int32) (l2 : Int32) (l3 : Int32) (l4 : Int32) (l5 : Int32) : Option (Int32 × eg_H) :=
  if eg_isO h 12 l0 then (
    (fX12_isThrow h l0 l1 l2 l3).bind fun ⟨v2, h1⟩ =>
    if v2 = 0 then
      (some ((-1 : Int32), h1))
    else
      (fX12_isHow h1 l0 l1 l4).bind fun ⟨v6, h5⟩ =>
      if v6 = 0 then
        (some ((-1 : Int32), h5))
      else
        if l5 < 0 then
          (some ((-1 : Int32), h5))
        else
          if l5 ≤ (11 : Int32) then
            ((eg_gR h5 12 15 l0).bind fun p11 =>
            (eg_gR h5 12 3 l0).bind fun p13 =>
            (fX7_told h5 p13 (0 : Int32)).bind fun ⟨v16, h15⟩ =>
            (fX11_take h15 p11 l1 l2 v16).bind fun h18 =>
            (fX12_legs_L57 eg_F h18 l0 l3 l4 l5 (0 : Int32) (0 : Int32)).bind fun e =>
            match e with
            | (v22, h23) =>
              some (v22, h23))
          else
            some ((-1 : Int32), h5)) else none
theorem fX12_legs_O {h : eg_H} {l0 : Nat} {l1 : Int32} {l2 : Int32} {l3 : Int32} {l4 : Int32} {l5 : Int32} {rE : Int32} {hE : eg_H} (hF : fX12_legs h l0 l1 l2 l3 l4 l5 = some (rE, hE)) : eg_isO h 12 l0 := (eg_ifn hF).1
set_option maxRecDepth 20000 in
theorem mX12_legs {h : eg_H} {l0 : Nat} {l1 : Int32} {l2 : Int32} {l3 : Int32} {l4 : Int32} {l5 : Int32} {rE : Int32} {hE : eg_H} (hF : fX12_legs h l0 l1 l2 l3 l4 l5 = some (rE, hE)) : eg_Met yX12_legs cX12_legs 8 (some .int) 5 [.ref l0, .int l1, .int l2, .int l3, .int l4, .int l5] h (some (.int rE)) hE := by
  refine eg_enter rfl (Nat.le_of_ble_eq_true rfl) ?_
  show eg_AW (RX12, cX12_legs, 8, 5, none, "legs", (some .int)) (eg_Zm (some (.int rE)) hE h) (eg_nc hE) (eg_ns hE) h 0 [(0, .ref l0), (1, .int l1), (2, .int l2), (3, .int l3), (4, .int l4), (5, .int l5)] [] h
  replace hF := (eg_ifn hF).2
  refine eg_aload_n (i := 0) 0 dX12_legs_0 rfl rfl ?_
  refine eg_iload_n (i := 1) 1 dX12_legs_1 rfl rfl ?_
  refine eg_iload_n (i := 2) 2 dX12_legs_2 rfl rfl ?_
  refine eg_iload_n (i := 3) 3 dX12_legs_3 rfl rfl ?_
  replace hF := eg_bind hF; obtain ⟨⟨v2, h1⟩, e3, hF⟩ := hF
  refine eg_callV (c := 12) (n := 3) [.int l1, .int l2, .int l3] dX12_legs_4 (mX12_isThrow e3) rfl (fX12_isThrow_O e3) (Nat.le_of_ble_eq_true rfl) rfl ew_782 ew_784 ew_23 ew_100 ew_785 hy_X12_isThrow rfl (Nat.le_of_ble_eq_true rfl) (Nat.le_of_ble_eq_true rfl) (Nat.le_of_ble_eq_true rfl) ?_
  refine eg_if_eq 32 dX12_legs_7 rfl (fun c4 => ?_) (fun c4 => ?_)
  · replace hF := eg_it c4 hF
    refine eg_iconst (v := (-1 : Int32)) dX12_legs_32 (by decide) ?_
    exact eg_iretE dX12_legs_33 hF
  · replace hF := eg_if c4 hF
    refine eg_aload_n (i := 0) 0 dX12_legs_10 rfl rfl ?_
    refine eg_iload_n (i := 1) 1 dX12_legs_11 rfl rfl ?_
    refine eg_iload (i := 4) 4 dX12_legs_12 rfl ?_
    replace hF := eg_bind hF; obtain ⟨⟨v6, h5⟩, e7, hF⟩ := hF
    refine eg_callV (c := 12) (n := 2) [.int l1, .int l4] dX12_legs_14 (mX12_isHow e7) rfl (fX12_isHow_O e7) (Nat.le_of_ble_eq_true rfl) rfl ew_798 ew_800 ew_25 ew_100 ew_801 hy_X12_isHow rfl (Nat.le_of_ble_eq_true rfl) (Nat.le_of_ble_eq_true rfl) (Nat.le_of_ble_eq_true rfl) ?_
    refine eg_if_eq 32 dX12_legs_17 rfl (fun c8 => ?_) (fun c8 => ?_)
    · replace hF := eg_it c8 hF
      refine eg_iconst (v := (-1 : Int32)) dX12_legs_32 (by decide) ?_
      exact eg_iretE dX12_legs_33 hF
    · replace hF := eg_if c8 hF
      refine eg_iload (i := 5) 5 dX12_legs_20 rfl ?_
      refine eg_if_lt 32 dX12_legs_22 rfl (fun c9 => ?_) (fun c9 => ?_)
      · replace hF := eg_it c9 hF
        refine eg_iconst (v := (-1 : Int32)) dX12_legs_32 (by decide) ?_
        exact eg_iretE dX12_legs_33 hF
      · replace hF := eg_if c9 hF
        refine eg_iload (i := 5) 5 dX12_legs_25 rfl ?_
        refine eg_bipush (v := (11 : Int32)) dX12_legs_27 (by decide) ?_
        refine eg_ic_le 34 dX12_legs_29 rfl (fun c10 => ?_) (fun c10 => ?_)
        · replace hF := eg_it c10 hF
          refine eg_aload_n (i := 0) 0 dX12_legs_34 rfl rfl ?_
          replace hF := eg_bind hF; obtain ⟨p11, e12, hF⟩ := hF
          refine eg_getR dX12_legs_35 e12 (Nat.le_of_ble_eq_true rfl) (Nat.le_of_ble_eq_true rfl) rfl ew_371 ?_
          refine eg_iload_n (i := 1) 1 dX12_legs_38 rfl rfl ?_
          refine eg_iload_n (i := 2) 2 dX12_legs_39 rfl rfl ?_
          refine eg_aload_n (i := 0) 0 dX12_legs_40 rfl rfl ?_
          replace hF := eg_bind hF; obtain ⟨p13, e14, hF⟩ := hF
          refine eg_getR dX12_legs_41 e14 (Nat.le_of_ble_eq_true rfl) (Nat.le_of_ble_eq_true rfl) rfl ew_359 ?_
          refine eg_iconst (v := (0 : Int32)) dX12_legs_44 (by decide) ?_
          replace hF := eg_bind hF; obtain ⟨⟨v16, h15⟩, e17, hF⟩ := hF
          refine eg_callV (c := 7) (n := 1) [.int (0 : Int32)] dX12_legs_45 (mX7_told e17) rfl (fX7_told_O e17) (Nat.le_of_ble_eq_true rfl) rfl ew_717 ew_718 ew_719 ew_104 ew_720 hy_X7_told rfl (Nat.le_of_ble_eq_true rfl) (Nat.le_of_ble_eq_true rfl) (Nat.le_of_ble_eq_true rfl) ?_
          replace hF := eg_bind hF; obtain ⟨h18, e19, hF⟩ := hF
          refine eg_callV (c := 11) (n := 3) [.int l1, .int l2, .int v16] dX12_legs_48 (mX11_take e19) rfl (fX11_take_O e19) (Nat.le_of_ble_eq_true rfl) rfl ew_802 ew_803 ew_804 ew_106 ew_805 hy_X11_take rfl (Nat.le_of_ble_eq_true rfl) (Nat.le_of_ble_eq_true rfl) (Nat.le_of_ble_eq_true rfl) ?_
          refine eg_iconst (v := (0 : Int32)) dX12_legs_51 (by decide) ?_
          refine eg_istore (i := 6) [(6, .int (0 : Int32)), (0, .ref l0), (1, .int l1), (2, .int l2), (3, .int l3), (4, .int l4), (5, .int l5)] dX12_legs_52 (Nat.le_of_ble_eq_true rfl) rfl ?_
          refine eg_iconst (v := (0 : Int32)) dX12_legs_54 (by decide) ?_
          refine eg_istore (i := 7) [(7, .int (0 : Int32)), (6, .int (0 : Int32)), (0, .ref l0), (1, .int l1), (2, .int l2), (3, .int l3), (4, .int l4), (5, .int l5)] dX12_legs_55 (Nat.le_of_ble_eq_true rfl) rfl ?_
          replace hF := eg_bind hF; obtain ⟨x21, e20, hF⟩ := hF
          refine eg_sub [2, 5, 6, 7, 1, 0] [(0, .ref l0), (3, .int l3), (4, .int l4), (5, .int l5), (6, .int (0 : Int32)), (7, .int (0 : Int32))] rfl (fX12_legs_L57_ok eg_F h18 l0 l3 l4 l5 (0 : Int32) (0 : Int32) x21 e20 ?_)
          · intro v22 h23 e24
            subst e24
            refine eg_iload (i := 6) 0 dX12_legs_99 rfl ?_
            exact eg_iretE dX12_legs_101 hF
        · replace hF := eg_if c10 hF
          refine eg_iconst (v := (-1 : Int32)) dX12_legs_32 (by decide) ?_
          exact eg_iretE dX12_legs_33 hF
theorem dX12_isSure_0 : decode cX12_isSure 0 = .ok (.aload_n 0, 1) := by decide +kernel
theorem dX12_isSure_1 : decode cX12_isSure 1 = .ok (.getfield 101, 3) := by decide +kernel
theorem dX12_isSure_4 : decode cX12_isSure 4 = .ok (.iload_n 1, 1) := by decide +kernel
theorem dX12_isSure_5 : decode cX12_isSure 5 = .ok (.iload_n 2, 1) := by decide +kernel
theorem dX12_isSure_6 : decode cX12_isSure 6 = .ok (.iload_n 3, 1) := by decide +kernel
theorem dX12_isSure_7 : decode cX12_isSure 7 = .ok (.aload_n 0, 1) := by decide +kernel
theorem dX12_isSure_8 : decode cX12_isSure 8 = .ok (.getfield 35, 3) := by decide +kernel
theorem dX12_isSure_11 : decode cX12_isSure 11 = .ok (.iconst 0, 1) := by decide +kernel
theorem dX12_isSure_12 : decode cX12_isSure 12 = .ok (.invokevirtual 209, 3) := by decide +kernel
theorem dX12_isSure_15 : decode cX12_isSure 15 = .ok (.invokevirtual 250, 3) := by decide +kernel
theorem dX12_isSure_18 : decode cX12_isSure 18 = .ok (.istore 4, 2) := by decide +kernel
theorem dX12_isSure_20 : decode cX12_isSure 20 = .ok (.iload 4, 2) := by decide +kernel
theorem dX12_isSure_22 : decode cX12_isSure 22 = .ok (.invokestatic 260, 3) := by decide +kernel
theorem dX12_isSure_25 : decode cX12_isSure 25 = .ok (.aload_n 0, 1) := by decide +kernel
theorem dX12_isSure_26 : decode cX12_isSure 26 = .ok (.getfield 35, 3) := by decide +kernel
theorem dX12_isSure_29 : decode cX12_isSure 29 = .ok (.iload_n 1, 1) := by decide +kernel
theorem dX12_isSure_30 : decode cX12_isSure 30 = .ok (.bipush 10, 2) := by decide +kernel
theorem dX12_isSure_32 : decode cX12_isSure 32 = .ok (.idiv, 1) := by decide +kernel
theorem dX12_isSure_33 : decode cX12_isSure 33 = .ok (.invokevirtual 299, 3) := by decide +kernel
theorem dX12_isSure_36 : decode cX12_isSure 36 = .ok (.if_icmp .ne 7, 3) := by decide +kernel
theorem dX12_isSure_39 : decode cX12_isSure 39 = .ok (.iconst 1, 1) := by decide +kernel
theorem dX12_isSure_40 : decode cX12_isSure 40 = .ok (.goto 4, 3) := by decide +kernel
theorem dX12_isSure_43 : decode cX12_isSure 43 = .ok (.iconst 0, 1) := by decide +kernel
theorem dX12_isSure_44 : decode cX12_isSure 44 = .ok (.ireturn, 1) := by decide +kernel
def fX12_isSure (h : eg_H) (l0 : Nat) (l1 : Int32) (l2 : Int32) (l3 : Int32) : Option (Int32 × eg_H) :=
  if eg_isO h 12 l0 then (
    (eg_gR h 12 16 l0).bind fun p1 =>
    (eg_gR h 12 3 l0).bind fun p3 =>
    (fX7_told h p3 (0 : Int32)).bind fun ⟨v6, h5⟩ =>
    (fX0_of h5 p1 l1 l2 l3 v6).bind fun ⟨v9, h8⟩ =>
    (fX11_goodIn h8 v9).bind fun ⟨v12, h11⟩ =>
    (eg_gR h11 12 3 l0).bind fun p14 =>
    (fX7_slips h11 p14 (l1 / (10 : Int32))).bind fun ⟨v17, h16⟩ =>
    if v12 = v17 then
      (some ((1 : Int32), h16))
    else
      some ((0 : Int32), h16)) else none
theorem fX12_isSure_O {h : eg_H} {l0 : Nat} {l1 : Int32} {l2 : Int32} {l3 : Int32} {rE : Int32} {hE : eg_H} (hF : fX12_isSure h l0 l1 l2 l3 = some (rE, hE)) : eg_isO h 12 l0 := (eg_ifn hF).1
set_option maxRecDepth 20000 in
theorem mX12_isSure {h : eg_H} {l0 : Nat} {l1 : Int32} {l2 : Int32} {l3 : Int32} {rE : Int32} {hE : eg_H} (hF : fX12_isSure h l0 l1 l2 l3 = some (rE, hE)) : eg_Met yX12_isSure cX12_isSure 5 (some .boolean) 6 [.ref l0, .int l1, .int l2, .int l3] h (some (.int rE)) hE := by
  refine eg_enter rfl (Nat.le_of_ble_eq_true rfl) ?_
  show eg_AW (RX12, cX12_isSure, 5, 6, none, "isSure", (some .boolean)) (eg_Zm (some (.int rE)) hE h) (eg_nc hE) (eg_ns hE) h 0 [(0, .ref l0), (1, .int l1), (2, .int l2), (3, .int l3)] [] h
  replace hF := (eg_ifn hF).2
  refine eg_aload_n (i := 0) 0 dX12_isSure_0 rfl rfl ?_
  replace hF := eg_bind hF; obtain ⟨p1, e2, hF⟩ := hF
  refine eg_getR dX12_isSure_1 e2 (Nat.le_of_ble_eq_true rfl) (Nat.le_of_ble_eq_true rfl) rfl ew_372 ?_
  refine eg_iload_n (i := 1) 1 dX12_isSure_4 rfl rfl ?_
  refine eg_iload_n (i := 2) 2 dX12_isSure_5 rfl rfl ?_
  refine eg_iload_n (i := 3) 3 dX12_isSure_6 rfl rfl ?_
  refine eg_aload_n (i := 0) 0 dX12_isSure_7 rfl rfl ?_
  replace hF := eg_bind hF; obtain ⟨p3, e4, hF⟩ := hF
  refine eg_getR dX12_isSure_8 e4 (Nat.le_of_ble_eq_true rfl) (Nat.le_of_ble_eq_true rfl) rfl ew_359 ?_
  refine eg_iconst (v := (0 : Int32)) dX12_isSure_11 (by decide) ?_
  replace hF := eg_bind hF; obtain ⟨⟨v6, h5⟩, e7, hF⟩ := hF
  refine eg_callV (c := 7) (n := 1) [.int (0 : Int32)] dX12_isSure_12 (mX7_told e7) rfl (fX7_told_O e7) (Nat.le_of_ble_eq_true rfl) rfl ew_717 ew_718 ew_719 ew_104 ew_720 hy_X7_told rfl (Nat.le_of_ble_eq_true rfl) (Nat.le_of_ble_eq_true rfl) (Nat.le_of_ble_eq_true rfl) ?_
  replace hF := eg_bind hF; obtain ⟨⟨v9, h8⟩, e10, hF⟩ := hF
  refine eg_callV (c := 0) (n := 4) [.int l1, .int l2, .int l3, .int v6] dX12_isSure_15 (mX0_of e10) rfl (fX0_of_O e10) (Nat.le_of_ble_eq_true rfl) rfl ew_834 ew_835 ew_836 ew_107 ew_837 hy_X0_of rfl (Nat.le_of_ble_eq_true rfl) (Nat.le_of_ble_eq_true rfl) (Nat.le_of_ble_eq_true rfl) ?_
  refine eg_istore (i := 4) [(4, .int v9), (0, .ref l0), (1, .int l1), (2, .int l2), (3, .int l3)] dX12_isSure_18 (Nat.le_of_ble_eq_true rfl) rfl ?_
  refine eg_iload (i := 4) 0 dX12_isSure_20 rfl ?_
  replace hF := eg_bind hF; obtain ⟨⟨v12, h11⟩, e13, hF⟩ := hF
  refine eg_callS (n := 1) [.int v9] dX12_isSure_22 (mX11_goodIn e13) rfl ew_878 ew_879 ew_106 ew_880 hy_X11_goodIn.2 rfl (Nat.le_of_ble_eq_true rfl) (Nat.le_of_ble_eq_true rfl) (Nat.le_of_ble_eq_true rfl) ?_
  refine eg_aload_n (i := 0) 1 dX12_isSure_25 rfl rfl ?_
  replace hF := eg_bind hF; obtain ⟨p14, e15, hF⟩ := hF
  refine eg_getR dX12_isSure_26 e15 (Nat.le_of_ble_eq_true rfl) (Nat.le_of_ble_eq_true rfl) rfl ew_359 ?_
  refine eg_iload_n (i := 1) 2 dX12_isSure_29 rfl rfl ?_
  refine eg_bipush (v := (10 : Int32)) dX12_isSure_30 (by decide) ?_
  refine eg_idiv dX12_isSure_32 (by decide) ?_
  replace hF := eg_bind hF; obtain ⟨⟨v17, h16⟩, e18, hF⟩ := hF
  refine eg_callV (c := 7) (n := 1) [.int (l1 / (10 : Int32))] dX12_isSure_33 (mX7_slips e18) rfl (fX7_slips_O e18) (Nat.le_of_ble_eq_true rfl) rfl ew_905 ew_906 ew_907 ew_104 ew_908 hy_X7_slips rfl (Nat.le_of_ble_eq_true rfl) (Nat.le_of_ble_eq_true rfl) (Nat.le_of_ble_eq_true rfl) ?_
  refine eg_ic_ne 43 dX12_isSure_36 rfl (fun c19 => ?_) (fun c19 => ?_)
  · replace hF := eg_it c19 hF
    refine eg_iconst (v := (1 : Int32)) dX12_isSure_39 (by decide) ?_
    refine eg_goto 44 dX12_isSure_40 rfl ?_
    exact eg_zretE dX12_isSure_44 (Or.inr rfl) hF
  · replace hF := eg_if c19 hF
    refine eg_iconst (v := (0 : Int32)) dX12_isSure_43 (by decide) ?_
    exact eg_zretE dX12_isSure_44 (Or.inl rfl) hF
theorem dX12_safe_0 : decode cX12_safe 0 = .ok (.aload_n 0, 1) := by decide +kernel
theorem dX12_safe_1 : decode cX12_safe 1 = .ok (.iload_n 1, 1) := by decide +kernel
theorem dX12_safe_2 : decode cX12_safe 2 = .ok (.iload_n 2, 1) := by decide +kernel
theorem dX12_safe_3 : decode cX12_safe 3 = .ok (.invokevirtual 269, 3) := by decide +kernel
theorem dX12_safe_6 : decode cX12_safe 6 = .ok (.ifCond .ne 5, 3) := by decide +kernel
theorem dX12_safe_9 : decode cX12_safe 9 = .ok (.iconst (-1), 1) := by decide +kernel
theorem dX12_safe_10 : decode cX12_safe 10 = .ok (.ireturn, 1) := by decide +kernel
theorem dX12_safe_11 : decode cX12_safe 11 = .ok (.bipush 60, 2) := by decide +kernel
theorem dX12_safe_13 : decode cX12_safe 13 = .ok (.istore_n 3, 1) := by decide +kernel
theorem dX12_safe_14 : decode cX12_safe 14 = .ok (.iload_n 3, 1) := by decide +kernel
theorem dX12_safe_15 : decode cX12_safe 15 = .ok (.iconst 1, 1) := by decide +kernel
theorem dX12_safe_16 : decode cX12_safe 16 = .ok (.if_icmp .lt 21, 3) := by decide +kernel
theorem dX12_safe_19 : decode cX12_safe 19 = .ok (.aload_n 0, 1) := by decide +kernel
theorem dX12_safe_20 : decode cX12_safe 20 = .ok (.iload_n 1, 1) := by decide +kernel
theorem dX12_safe_21 : decode cX12_safe 21 = .ok (.iload_n 2, 1) := by decide +kernel
theorem dX12_safe_22 : decode cX12_safe 22 = .ok (.iload_n 3, 1) := by decide +kernel
theorem dX12_safe_23 : decode cX12_safe 23 = .ok (.invokevirtual 272, 3) := by decide +kernel
theorem dX12_safe_26 : decode cX12_safe 26 = .ok (.ifCond .eq 5, 3) := by decide +kernel
theorem dX12_safe_29 : decode cX12_safe 29 = .ok (.iload_n 3, 1) := by decide +kernel
theorem dX12_safe_30 : decode cX12_safe 30 = .ok (.ireturn, 1) := by decide +kernel
theorem dX12_safe_31 : decode cX12_safe 31 = .ok (.iinc 3 (-1), 3) := by decide +kernel
theorem dX12_safe_34 : decode cX12_safe 34 = .ok (.goto (-20), 3) := by decide +kernel
theorem dX12_safe_37 : decode cX12_safe 37 = .ok (.iconst (-1), 1) := by decide +kernel
theorem dX12_safe_38 : decode cX12_safe 38 = .ok (.ireturn, 1) := by decide +kernel
def fX12_safe_L14 : Nat → eg_H → Nat → Int32 → Int32 → Int32 → Option ((eg_H) ⊕ (Int32 × eg_H))
  | 0, _, _, _, _, _ => none
  | n + 1, h, l0, l1, l2, l3 =>
    if l3 < (1 : Int32) then
      (some (.inl h))
    else
      (fX12_isSure h l0 l1 l2 l3).bind fun ⟨v3, h2⟩ =>
      if v3 = 0 then
        (fX12_safe_L14 n h2 l0 l1 l2 (l3 + (-1 : Int32)))
      else
        some (.inr (l3, h2))
set_option maxRecDepth 20000 in
theorem fX12_safe_L14_ok {h0 : eg_H} {Z : eg_C → State → Prop} {N S : Nat} : ∀ (n : Nat) (h : eg_H) (l0 : Nat) (l1 : Int32) (l2 : Int32) (l3 : Int32) (eE : (eg_H) ⊕ (Int32 × eg_H)), fX12_safe_L14 n h l0 l1 l2 l3 = some eE → (hk0 : ∀  (h : eg_H), eE = (.inl h) → eg_AW (RX12, cX12_safe, 4, 7, none, "safe", (some .int)) Z N S h0 37 [] [] h) → (hk1 : ∀ (l3 : Int32) (h : eg_H), eE = (.inr (l3, h)) → eg_AW (RX12, cX12_safe, 4, 7, none, "safe", (some .int)) Z N S h0 29 [(3, .int l3)] [] h) → eg_AW (RX12, cX12_safe, 4, 7, none, "safe", (some .int)) Z N S h0 14 [(0, .ref l0), (1, .int l1), (2, .int l2), (3, .int l3)] [] h := by
  intro n
  induction n with
  | zero => intro h l0 l1 l2 l3 eE hF; exact absurd hF (by intro q; cases q)
  | succ n ih =>
    intro h l0 l1 l2 l3 eE hF hk0 hk1
    have hrec := fun (h' : eg_H) (l0 : Nat) (l1 : Int32) (l2 : Int32) (l3 : Int32) hq => ih h' l0 l1 l2 l3 eE hq hk0 hk1
    refine eg_iload_n (i := 3) 3 dX12_safe_14 rfl rfl ?_
    refine eg_iconst (v := (1 : Int32)) dX12_safe_15 (by decide) ?_
    refine eg_ic_lt 37 dX12_safe_16 rfl (fun c1 => ?_) (fun c1 => ?_)
    · replace hF := eg_it c1 hF
      exact eg_sub [] [] rfl (hk0 h (Option.some.inj hF).symm)
    · replace hF := eg_if c1 hF
      refine eg_aload_n (i := 0) 0 dX12_safe_19 rfl rfl ?_
      refine eg_iload_n (i := 1) 1 dX12_safe_20 rfl rfl ?_
      refine eg_iload_n (i := 2) 2 dX12_safe_21 rfl rfl ?_
      refine eg_iload_n (i := 3) 3 dX12_safe_22 rfl rfl ?_
      replace hF := eg_bind hF; obtain ⟨⟨v3, h2⟩, e4, hF⟩ := hF
      refine eg_callV (c := 12) (n := 3) [.int l1, .int l2, .int l3] dX12_safe_23 (mX12_isSure e4) rfl (fX12_isSure_O e4) (Nat.le_of_ble_eq_true rfl) rfl ew_901 ew_903 ew_28 ew_100 ew_904 hy_X12_isSure rfl (Nat.le_of_ble_eq_true rfl) (Nat.le_of_ble_eq_true rfl) (Nat.le_of_ble_eq_true rfl) ?_
      refine eg_if_eq 31 dX12_safe_26 rfl (fun c5 => ?_) (fun c5 => ?_)
      · replace hF := eg_it c5 hF
        refine eg_iinc (i := 3) (v := (l3 + (-1 : Int32))) 3 [(3, .int (l3 + (-1 : Int32))), (0, .ref l0), (1, .int l1), (2, .int l2)] dX12_safe_31 rfl rfl (Nat.le_of_ble_eq_true rfl) rfl ?_
        refine eg_goto 14 dX12_safe_34 rfl ?_
        exact eg_sub [1, 2, 3, 0] [(0, .ref l0), (1, .int l1), (2, .int l2), (3, .int (l3 + (-1 : Int32)))] rfl (hrec h2 l0 l1 l2 (l3 + (-1 : Int32)) hF)
      · replace hF := eg_if c5 hF
        exact eg_sub [3] [(3, .int l3)] rfl (hk1 l3 h2 (Option.some.inj hF).symm)
def fX12_safe (h : eg_H) (l0 : Nat) (l1 : Int32) (l2 : Int32) : Option (Int32 × eg_H) :=
  if eg_isO h 12 l0 then (
    (fX12_isCourse h l0 l1 l2).bind fun ⟨v2, h1⟩ =>
    if v2 = 0 then
      (some ((-1 : Int32), h1))
    else
      (fX12_safe_L14 eg_F h1 l0 l1 l2 (60 : Int32)).bind fun e =>
      match e with
      | .inl h7 =>
        some ((-1 : Int32), h7)
      | .inr (v9, h10) =>
        some (v9, h10)) else none
theorem fX12_safe_O {h : eg_H} {l0 : Nat} {l1 : Int32} {l2 : Int32} {rE : Int32} {hE : eg_H} (hF : fX12_safe h l0 l1 l2 = some (rE, hE)) : eg_isO h 12 l0 := (eg_ifn hF).1
set_option maxRecDepth 20000 in
theorem mX12_safe {h : eg_H} {l0 : Nat} {l1 : Int32} {l2 : Int32} {rE : Int32} {hE : eg_H} (hF : fX12_safe h l0 l1 l2 = some (rE, hE)) : eg_Met yX12_safe cX12_safe 4 (some .int) 7 [.ref l0, .int l1, .int l2] h (some (.int rE)) hE := by
  refine eg_enter rfl (Nat.le_of_ble_eq_true rfl) ?_
  show eg_AW (RX12, cX12_safe, 4, 7, none, "safe", (some .int)) (eg_Zm (some (.int rE)) hE h) (eg_nc hE) (eg_ns hE) h 0 [(0, .ref l0), (1, .int l1), (2, .int l2)] [] h
  replace hF := (eg_ifn hF).2
  refine eg_aload_n (i := 0) 0 dX12_safe_0 rfl rfl ?_
  refine eg_iload_n (i := 1) 1 dX12_safe_1 rfl rfl ?_
  refine eg_iload_n (i := 2) 2 dX12_safe_2 rfl rfl ?_
  replace hF := eg_bind hF; obtain ⟨⟨v2, h1⟩, e3, hF⟩ := hF
  refine eg_callV (c := 12) (n := 2) [.int l1, .int l2] dX12_safe_3 (mX12_isCourse e3) rfl (fX12_isCourse_O e3) (Nat.le_of_ble_eq_true rfl) rfl ew_786 ew_788 ew_24 ew_100 ew_789 hy_X12_isCourse rfl (Nat.le_of_ble_eq_true rfl) (Nat.le_of_ble_eq_true rfl) (Nat.le_of_ble_eq_true rfl) ?_
  refine eg_if_ne 11 dX12_safe_6 rfl (fun c4 => ?_) (fun c4 => ?_)
  · replace hF := eg_it c4 hF
    refine eg_iconst (v := (-1 : Int32)) dX12_safe_9 (by decide) ?_
    exact eg_iretE dX12_safe_10 hF
  · replace hF := eg_if c4 hF
    refine eg_bipush (v := (60 : Int32)) dX12_safe_11 (by decide) ?_
    refine eg_istore_n (i := 3) [(3, .int (60 : Int32)), (0, .ref l0), (1, .int l1), (2, .int l2)] dX12_safe_13 rfl (Nat.le_of_ble_eq_true rfl) rfl ?_
    replace hF := eg_bind hF; obtain ⟨x6, e5, hF⟩ := hF
    refine eg_sub [1, 2, 3, 0] [(0, .ref l0), (1, .int l1), (2, .int l2), (3, .int (60 : Int32))] rfl (fX12_safe_L14_ok eg_F h1 l0 l1 l2 (60 : Int32) x6 e5 ?_ ?_)
    · intro h7 e8
      subst e8
      refine eg_iconst (v := (-1 : Int32)) dX12_safe_37 (by decide) ?_
      exact eg_iretE dX12_safe_38 hF
    · intro v9 h10 e11
      subst e11
      refine eg_iload_n (i := 3) 0 dX12_safe_29 rfl rfl ?_
      exact eg_iretE dX12_safe_30 hF
theorem dX12_spots_0 : decode cX12_spots 0 = .ok (.aload_n 0, 1) := by decide +kernel
theorem dX12_spots_1 : decode cX12_spots 1 = .ok (.iload_n 1, 1) := by decide +kernel
theorem dX12_spots_2 : decode cX12_spots 2 = .ok (.iload_n 2, 1) := by decide +kernel
theorem dX12_spots_3 : decode cX12_spots 3 = .ok (.iload_n 3, 1) := by decide +kernel
theorem dX12_spots_4 : decode cX12_spots 4 = .ok (.invokevirtual 237, 3) := by decide +kernel
theorem dX12_spots_7 : decode cX12_spots 7 = .ok (.ifCond .eq 15, 3) := by decide +kernel
theorem dX12_spots_10 : decode cX12_spots 10 = .ok (.iload 4, 2) := by decide +kernel
theorem dX12_spots_12 : decode cX12_spots 12 = .ok (.ifCond .lt 10, 3) := by decide +kernel
theorem dX12_spots_15 : decode cX12_spots 15 = .ok (.iload 4, 2) := by decide +kernel
theorem dX12_spots_17 : decode cX12_spots 17 = .ok (.bipush 11, 2) := by decide +kernel
theorem dX12_spots_19 : decode cX12_spots 19 = .ok (.if_icmp .le 5, 3) := by decide +kernel
theorem dX12_spots_22 : decode cX12_spots 22 = .ok (.iconst (-1), 1) := by decide +kernel
theorem dX12_spots_23 : decode cX12_spots 23 = .ok (.ireturn, 1) := by decide +kernel
theorem dX12_spots_24 : decode cX12_spots 24 = .ok (.aload_n 0, 1) := by decide +kernel
theorem dX12_spots_25 : decode cX12_spots 25 = .ok (.getfield 92, 3) := by decide +kernel
theorem dX12_spots_28 : decode cX12_spots 28 = .ok (.iload_n 1, 1) := by decide +kernel
theorem dX12_spots_29 : decode cX12_spots 29 = .ok (.iload_n 2, 1) := by decide +kernel
theorem dX12_spots_30 : decode cX12_spots 30 = .ok (.aload_n 0, 1) := by decide +kernel
theorem dX12_spots_31 : decode cX12_spots 31 = .ok (.getfield 35, 3) := by decide +kernel
theorem dX12_spots_34 : decode cX12_spots 34 = .ok (.iconst 0, 1) := by decide +kernel
theorem dX12_spots_35 : decode cX12_spots 35 = .ok (.invokevirtual 209, 3) := by decide +kernel
theorem dX12_spots_38 : decode cX12_spots 38 = .ok (.invokevirtual 244, 3) := by decide +kernel
theorem dX12_spots_41 : decode cX12_spots 41 = .ok (.iconst 0, 1) := by decide +kernel
theorem dX12_spots_42 : decode cX12_spots 42 = .ok (.istore 5, 2) := by decide +kernel
theorem dX12_spots_44 : decode cX12_spots 44 = .ok (.iconst 0, 1) := by decide +kernel
theorem dX12_spots_45 : decode cX12_spots 45 = .ok (.istore 6, 2) := by decide +kernel
theorem dX12_spots_47 : decode cX12_spots 47 = .ok (.iload 6, 2) := by decide +kernel
theorem dX12_spots_49 : decode cX12_spots 49 = .ok (.aload_n 0, 1) := by decide +kernel
theorem dX12_spots_50 : decode cX12_spots 50 = .ok (.getfield 92, 3) := by decide +kernel
theorem dX12_spots_53 : decode cX12_spots 53 = .ok (.invokevirtual 275, 3) := by decide +kernel
theorem dX12_spots_56 : decode cX12_spots 56 = .ok (.if_icmp .gt 58, 3) := by decide +kernel
theorem dX12_spots_59 : decode cX12_spots 59 = .ok (.aload_n 0, 1) := by decide +kernel
theorem dX12_spots_60 : decode cX12_spots 60 = .ok (.getfield 92, 3) := by decide +kernel
theorem dX12_spots_63 : decode cX12_spots 63 = .ok (.iload_n 3, 1) := by decide +kernel
theorem dX12_spots_64 : decode cX12_spots 64 = .ok (.iload 6, 2) := by decide +kernel
theorem dX12_spots_66 : decode cX12_spots 66 = .ok (.invokevirtual 278, 3) := by decide +kernel
theorem dX12_spots_69 : decode cX12_spots 69 = .ok (.istore 7, 2) := by decide +kernel
theorem dX12_spots_71 : decode cX12_spots 71 = .ok (.bipush (-5), 2) := by decide +kernel
theorem dX12_spots_73 : decode cX12_spots 73 = .ok (.istore 8, 2) := by decide +kernel
theorem dX12_spots_75 : decode cX12_spots 75 = .ok (.iload 8, 2) := by decide +kernel
theorem dX12_spots_77 : decode cX12_spots 77 = .ok (.iconst 5, 1) := by decide +kernel
theorem dX12_spots_78 : decode cX12_spots 78 = .ok (.if_icmp .gt 30, 3) := by decide +kernel
theorem dX12_spots_81 : decode cX12_spots 81 = .ok (.aload_n 0, 1) := by decide +kernel
theorem dX12_spots_82 : decode cX12_spots 82 = .ok (.getfield 92, 3) := by decide +kernel
theorem dX12_spots_85 : decode cX12_spots 85 = .ok (.iload 7, 2) := by decide +kernel
theorem dX12_spots_87 : decode cX12_spots 87 = .ok (.iload 6, 2) := by decide +kernel
theorem dX12_spots_89 : decode cX12_spots 89 = .ok (.iload 8, 2) := by decide +kernel
theorem dX12_spots_91 : decode cX12_spots 91 = .ok (.invokevirtual 281, 3) := by decide +kernel
theorem dX12_spots_94 : decode cX12_spots 94 = .ok (.iload 4, 2) := by decide +kernel
theorem dX12_spots_96 : decode cX12_spots 96 = .ok (.if_icmp .lt 6, 3) := by decide +kernel
theorem dX12_spots_99 : decode cX12_spots 99 = .ok (.iinc 5 1, 3) := by decide +kernel
theorem dX12_spots_102 : decode cX12_spots 102 = .ok (.iinc 8 1, 3) := by decide +kernel
theorem dX12_spots_105 : decode cX12_spots 105 = .ok (.goto (-30), 3) := by decide +kernel
theorem dX12_spots_108 : decode cX12_spots 108 = .ok (.iinc 6 1, 3) := by decide +kernel
theorem dX12_spots_111 : decode cX12_spots 111 = .ok (.goto (-64), 3) := by decide +kernel
theorem dX12_spots_114 : decode cX12_spots 114 = .ok (.iload 5, 2) := by decide +kernel
theorem dX12_spots_116 : decode cX12_spots 116 = .ok (.ireturn, 1) := by decide +kernel
def fX12_spots_L75 : Nat → eg_H → Nat → Int32 → Int32 → Int32 → Int32 → Int32 → Int32 → Option (Nat × Int32 × Int32 × Int32 × Int32 × eg_H)
  | 0, _, _, _, _, _, _, _, _ => none
  | n + 1, h, l0, l3, l4, l5, l6, l7, l8 =>
    if (5 : Int32) < l8 then
      (some (l0, l3, l4, l5, l6, h))
    else
      (eg_gR h 12 15 l0).bind fun p2 =>
      (fX11_goodOf h p2 l7 l6 l8).bind fun ⟨v5, h4⟩ =>
      if v5 < l4 then
        (fX12_spots_L75 n h4 l0 l3 l4 l5 l6 l7 (l8 + (1 : Int32)))
      else
        fX12_spots_L75 n h4 l0 l3 l4 (l5 + (1 : Int32)) l6 l7 (l8 + (1 : Int32))
set_option maxRecDepth 20000 in
theorem fX12_spots_L75_ok {h0 : eg_H} {Z : eg_C → State → Prop} {N S : Nat} : ∀ (n : Nat) (h : eg_H) (l0 : Nat) (l3 : Int32) (l4 : Int32) (l5 : Int32) (l6 : Int32) (l7 : Int32) (l8 : Int32) (eE : Nat × Int32 × Int32 × Int32 × Int32 × eg_H), fX12_spots_L75 n h l0 l3 l4 l5 l6 l7 l8 = some eE → (hk0 : ∀ (l0 : Nat) (l3 : Int32) (l4 : Int32) (l5 : Int32) (l6 : Int32) (h : eg_H), eE = (l0, l3, l4, l5, l6, h) → eg_AW (RX12, cX12_spots, 9, 4, none, "spots", (some .int)) Z N S h0 108 [(0, .ref l0), (3, .int l3), (4, .int l4), (5, .int l5), (6, .int l6)] [] h) → eg_AW (RX12, cX12_spots, 9, 4, none, "spots", (some .int)) Z N S h0 75 [(0, .ref l0), (3, .int l3), (4, .int l4), (5, .int l5), (6, .int l6), (7, .int l7), (8, .int l8)] [] h := by
  intro n
  induction n with
  | zero => intro h l0 l3 l4 l5 l6 l7 l8 eE hF; exact absurd hF (by intro q; cases q)
  | succ n ih =>
    intro h l0 l3 l4 l5 l6 l7 l8 eE hF hk0
    have hrec := fun (h' : eg_H) (l0 : Nat) (l3 : Int32) (l4 : Int32) (l5 : Int32) (l6 : Int32) (l7 : Int32) (l8 : Int32) hq => ih h' l0 l3 l4 l5 l6 l7 l8 eE hq hk0
    refine eg_iload (i := 8) 6 dX12_spots_75 rfl ?_
    refine eg_iconst (v := (5 : Int32)) dX12_spots_77 (by decide) ?_
    refine eg_ic_gt 108 dX12_spots_78 rfl (fun c1 => ?_) (fun c1 => ?_)
    · replace hF := eg_it c1 hF
      exact eg_sub [0, 1, 2, 3, 4] [(0, .ref l0), (3, .int l3), (4, .int l4), (5, .int l5), (6, .int l6)] rfl (hk0 l0 l3 l4 l5 l6 h (Option.some.inj hF).symm)
    · replace hF := eg_if c1 hF
      refine eg_aload_n (i := 0) 0 dX12_spots_81 rfl rfl ?_
      replace hF := eg_bind hF; obtain ⟨p2, e3, hF⟩ := hF
      refine eg_getR dX12_spots_82 e3 (Nat.le_of_ble_eq_true rfl) (Nat.le_of_ble_eq_true rfl) rfl ew_371 ?_
      refine eg_iload (i := 7) 5 dX12_spots_85 rfl ?_
      refine eg_iload (i := 6) 4 dX12_spots_87 rfl ?_
      refine eg_iload (i := 8) 6 dX12_spots_89 rfl ?_
      replace hF := eg_bind hF; obtain ⟨⟨v5, h4⟩, e6, hF⟩ := hF
      refine eg_callV (c := 11) (n := 3) [.int l7, .int l6, .int l8] dX12_spots_91 (mX11_goodOf e6) rfl (fX11_goodOf_O e6) (Nat.le_of_ble_eq_true rfl) rfl ew_820 ew_821 ew_822 ew_106 ew_823 hy_X11_goodOf rfl (Nat.le_of_ble_eq_true rfl) (Nat.le_of_ble_eq_true rfl) (Nat.le_of_ble_eq_true rfl) ?_
      refine eg_iload (i := 4) 2 dX12_spots_94 rfl ?_
      refine eg_ic_lt 102 dX12_spots_96 rfl (fun c7 => ?_) (fun c7 => ?_)
      · replace hF := eg_it c7 hF
        refine eg_iinc (i := 8) (v := (l8 + (1 : Int32))) 6 [(8, .int (l8 + (1 : Int32))), (0, .ref l0), (3, .int l3), (4, .int l4), (5, .int l5), (6, .int l6), (7, .int l7)] dX12_spots_102 rfl rfl (Nat.le_of_ble_eq_true rfl) rfl ?_
        refine eg_goto 75 dX12_spots_105 rfl ?_
        exact eg_sub [1, 2, 3, 4, 5, 6, 0] [(0, .ref l0), (3, .int l3), (4, .int l4), (5, .int l5), (6, .int l6), (7, .int l7), (8, .int (l8 + (1 : Int32)))] rfl (hrec h4 l0 l3 l4 l5 l6 l7 (l8 + (1 : Int32)) hF)
      · replace hF := eg_if c7 hF
        refine eg_iinc (i := 5) (v := (l5 + (1 : Int32))) 3 [(5, .int (l5 + (1 : Int32))), (0, .ref l0), (3, .int l3), (4, .int l4), (6, .int l6), (7, .int l7), (8, .int l8)] dX12_spots_99 rfl rfl (Nat.le_of_ble_eq_true rfl) rfl ?_
        refine eg_iinc (i := 8) (v := (l8 + (1 : Int32))) 6 [(8, .int (l8 + (1 : Int32))), (5, .int (l5 + (1 : Int32))), (0, .ref l0), (3, .int l3), (4, .int l4), (6, .int l6), (7, .int l7)] dX12_spots_102 rfl rfl (Nat.le_of_ble_eq_true rfl) rfl ?_
        refine eg_goto 75 dX12_spots_105 rfl ?_
        exact eg_sub [2, 3, 4, 1, 5, 6, 0] [(0, .ref l0), (3, .int l3), (4, .int l4), (5, .int (l5 + (1 : Int32))), (6, .int l6), (7, .int l7), (8, .int (l8 + (1 : Int32)))] rfl (hrec h4 l0 l3 l4 (l5 + (1 : Int32)) l6 l7 (l8 + (1 : Int32)) hF)
def fX12_spots_L47 : Nat → eg_H → Nat → Int32 → Int32 → Int32 → Int32 → Option (Int32 × eg_H)
  | 0, _, _, _, _, _, _ => none
  | n + 1, h, l0, l3, l4, l5, l6 =>
    (eg_gR h 12 15 l0).bind fun p1 =>
    (fX11_highest h p1).bind fun ⟨v4, h3⟩ =>
    if v4 < l6 then
      (some (l5, h3))
    else
      (eg_gR h3 12 15 l0).bind fun p7 =>
      (fX11_wholes h3 p7 l3 l6).bind fun ⟨v10, h9⟩ =>
      (fX12_spots_L75 eg_F h9 l0 l3 l4 l5 l6 v10 (-5 : Int32)).bind fun e =>
      match e with
      | (p14, v15, v16, v17, v18, h19) =>
        fX12_spots_L47 n h19 p14 v15 v16 v17 (v18 + (1 : Int32))
set_option maxRecDepth 20000 in
theorem fX12_spots_L47_ok {h0 : eg_H} {Z : eg_C → State → Prop} {N S : Nat} : ∀ (n : Nat) (h : eg_H) (l0 : Nat) (l3 : Int32) (l4 : Int32) (l5 : Int32) (l6 : Int32) (eE : Int32 × eg_H), fX12_spots_L47 n h l0 l3 l4 l5 l6 = some eE → (hk0 : ∀ (l5 : Int32) (h : eg_H), eE = (l5, h) → eg_AW (RX12, cX12_spots, 9, 4, none, "spots", (some .int)) Z N S h0 114 [(5, .int l5)] [] h) → eg_AW (RX12, cX12_spots, 9, 4, none, "spots", (some .int)) Z N S h0 47 [(0, .ref l0), (3, .int l3), (4, .int l4), (5, .int l5), (6, .int l6)] [] h := by
  intro n
  induction n with
  | zero => intro h l0 l3 l4 l5 l6 eE hF; exact absurd hF (by intro q; cases q)
  | succ n ih =>
    intro h l0 l3 l4 l5 l6 eE hF hk0
    have hrec := fun (h' : eg_H) (l0 : Nat) (l3 : Int32) (l4 : Int32) (l5 : Int32) (l6 : Int32) hq => ih h' l0 l3 l4 l5 l6 eE hq hk0
    refine eg_iload (i := 6) 4 dX12_spots_47 rfl ?_
    refine eg_aload_n (i := 0) 0 dX12_spots_49 rfl rfl ?_
    replace hF := eg_bind hF; obtain ⟨p1, e2, hF⟩ := hF
    refine eg_getR dX12_spots_50 e2 (Nat.le_of_ble_eq_true rfl) (Nat.le_of_ble_eq_true rfl) rfl ew_371 ?_
    replace hF := eg_bind hF; obtain ⟨⟨v4, h3⟩, e5, hF⟩ := hF
    refine eg_callV (c := 11) (n := 0) [] dX12_spots_53 (mX11_highest e5) rfl (fX11_highest_O e5) (Nat.le_of_ble_eq_true rfl) rfl ew_914 ew_915 ew_916 ew_106 ew_917 hy_X11_highest rfl (Nat.le_of_ble_eq_true rfl) (Nat.le_of_ble_eq_true rfl) (Nat.le_of_ble_eq_true rfl) ?_
    refine eg_ic_gt 114 dX12_spots_56 rfl (fun c6 => ?_) (fun c6 => ?_)
    · replace hF := eg_it c6 hF
      exact eg_sub [3] [(5, .int l5)] rfl (hk0 l5 h3 (Option.some.inj hF).symm)
    · replace hF := eg_if c6 hF
      refine eg_aload_n (i := 0) 0 dX12_spots_59 rfl rfl ?_
      replace hF := eg_bind hF; obtain ⟨p7, e8, hF⟩ := hF
      refine eg_getR dX12_spots_60 e8 (Nat.le_of_ble_eq_true rfl) (Nat.le_of_ble_eq_true rfl) rfl ew_371 ?_
      refine eg_iload_n (i := 3) 1 dX12_spots_63 rfl rfl ?_
      refine eg_iload (i := 6) 4 dX12_spots_64 rfl ?_
      replace hF := eg_bind hF; obtain ⟨⟨v10, h9⟩, e11, hF⟩ := hF
      refine eg_callV (c := 11) (n := 2) [.int l3, .int l6] dX12_spots_66 (mX11_wholes e11) rfl (fX11_wholes_O e11) (Nat.le_of_ble_eq_true rfl) rfl ew_815 ew_816 ew_817 ew_106 ew_818 hy_X11_wholes rfl (Nat.le_of_ble_eq_true rfl) (Nat.le_of_ble_eq_true rfl) (Nat.le_of_ble_eq_true rfl) ?_
      refine eg_istore (i := 7) [(7, .int v10), (0, .ref l0), (3, .int l3), (4, .int l4), (5, .int l5), (6, .int l6)] dX12_spots_69 (Nat.le_of_ble_eq_true rfl) rfl ?_
      refine eg_bipush (v := (-5 : Int32)) dX12_spots_71 (by decide) ?_
      refine eg_istore (i := 8) [(8, .int (-5 : Int32)), (7, .int v10), (0, .ref l0), (3, .int l3), (4, .int l4), (5, .int l5), (6, .int l6)] dX12_spots_73 (Nat.le_of_ble_eq_true rfl) rfl ?_
      replace hF := eg_bind hF; obtain ⟨x13, e12, hF⟩ := hF
      refine eg_sub [2, 3, 4, 5, 6, 1, 0] [(0, .ref l0), (3, .int l3), (4, .int l4), (5, .int l5), (6, .int l6), (7, .int v10), (8, .int (-5 : Int32))] rfl (fX12_spots_L75_ok eg_F h9 l0 l3 l4 l5 l6 v10 (-5 : Int32) x13 e12 ?_)
      · intro p14 v15 v16 v17 v18 h19 e20
        subst e20
        refine eg_iinc (i := 6) (v := (v18 + (1 : Int32))) 4 [(6, .int (v18 + (1 : Int32))), (0, .ref p14), (3, .int v15), (4, .int v16), (5, .int v17)] dX12_spots_108 rfl rfl (Nat.le_of_ble_eq_true rfl) rfl ?_
        refine eg_goto 47 dX12_spots_111 rfl ?_
        exact eg_sub [1, 2, 3, 4, 0] [(0, .ref p14), (3, .int v15), (4, .int v16), (5, .int v17), (6, .int (v18 + (1 : Int32)))] rfl (hrec h19 p14 v15 v16 v17 (v18 + (1 : Int32)) hF)
def fX12_spots (h : eg_H) (l0 : Nat) (l1 : Int32) (l2 : Int32) (l3 : Int32) (l4 : Int32) : Option (Int32 × eg_H) :=
  if eg_isO h 12 l0 then (
    (fX12_isThrow h l0 l1 l2 l3).bind fun ⟨v2, h1⟩ =>
    if v2 = 0 then
      (some ((-1 : Int32), h1))
    else
      if l4 < 0 then
        (some ((-1 : Int32), h1))
      else
        if l4 ≤ (11 : Int32) then
          ((eg_gR h1 12 15 l0).bind fun p7 =>
          (eg_gR h1 12 3 l0).bind fun p9 =>
          (fX7_told h1 p9 (0 : Int32)).bind fun ⟨v12, h11⟩ =>
          (fX11_take h11 p7 l1 l2 v12).bind fun h14 =>
          (fX12_spots_L47 eg_F h14 l0 l3 l4 (0 : Int32) (0 : Int32)).bind fun e =>
          match e with
          | (v18, h19) =>
            some (v18, h19))
        else
          some ((-1 : Int32), h1)) else none
theorem fX12_spots_O {h : eg_H} {l0 : Nat} {l1 : Int32} {l2 : Int32} {l3 : Int32} {l4 : Int32} {rE : Int32} {hE : eg_H} (hF : fX12_spots h l0 l1 l2 l3 l4 = some (rE, hE)) : eg_isO h 12 l0 := (eg_ifn hF).1
set_option maxRecDepth 20000 in
theorem mX12_spots {h : eg_H} {l0 : Nat} {l1 : Int32} {l2 : Int32} {l3 : Int32} {l4 : Int32} {rE : Int32} {hE : eg_H} (hF : fX12_spots h l0 l1 l2 l3 l4 = some (rE, hE)) : eg_Met yX12_spots cX12_spots 9 (some .int) 4 [.ref l0, .int l1, .int l2, .int l3, .int l4] h (some (.int rE)) hE := by
  refine eg_enter rfl (Nat.le_of_ble_eq_true rfl) ?_
  show eg_AW (RX12, cX12_spots, 9, 4, none, "spots", (some .int)) (eg_Zm (some (.int rE)) hE h) (eg_nc hE) (eg_ns hE) h 0 [(0, .ref l0), (1, .int l1), (2, .int l2), (3, .int l3), (4, .int l4)] [] h
  replace hF := (eg_ifn hF).2
  refine eg_aload_n (i := 0) 0 dX12_spots_0 rfl rfl ?_
  refine eg_iload_n (i := 1) 1 dX12_spots_1 rfl rfl ?_
  refine eg_iload_n (i := 2) 2 dX12_spots_2 rfl rfl ?_
  refine eg_iload_n (i := 3) 3 dX12_spots_3 rfl rfl ?_
  replace hF := eg_bind hF; obtain ⟨⟨v2, h1⟩, e3, hF⟩ := hF
  refine eg_callV (c := 12) (n := 3) [.int l1, .int l2, .int l3] dX12_spots_4 (mX12_isThrow e3) rfl (fX12_isThrow_O e3) (Nat.le_of_ble_eq_true rfl) rfl ew_782 ew_784 ew_23 ew_100 ew_785 hy_X12_isThrow rfl (Nat.le_of_ble_eq_true rfl) (Nat.le_of_ble_eq_true rfl) (Nat.le_of_ble_eq_true rfl) ?_
  refine eg_if_eq 22 dX12_spots_7 rfl (fun c4 => ?_) (fun c4 => ?_)
  · replace hF := eg_it c4 hF
    refine eg_iconst (v := (-1 : Int32)) dX12_spots_22 (by decide) ?_
    exact eg_iretE dX12_spots_23 hF
  · replace hF := eg_if c4 hF
    refine eg_iload (i := 4) 4 dX12_spots_10 rfl ?_
    refine eg_if_lt 22 dX12_spots_12 rfl (fun c5 => ?_) (fun c5 => ?_)
    · replace hF := eg_it c5 hF
      refine eg_iconst (v := (-1 : Int32)) dX12_spots_22 (by decide) ?_
      exact eg_iretE dX12_spots_23 hF
    · replace hF := eg_if c5 hF
      refine eg_iload (i := 4) 4 dX12_spots_15 rfl ?_
      refine eg_bipush (v := (11 : Int32)) dX12_spots_17 (by decide) ?_
      refine eg_ic_le 24 dX12_spots_19 rfl (fun c6 => ?_) (fun c6 => ?_)
      · replace hF := eg_it c6 hF
        refine eg_aload_n (i := 0) 0 dX12_spots_24 rfl rfl ?_
        replace hF := eg_bind hF; obtain ⟨p7, e8, hF⟩ := hF
        refine eg_getR dX12_spots_25 e8 (Nat.le_of_ble_eq_true rfl) (Nat.le_of_ble_eq_true rfl) rfl ew_371 ?_
        refine eg_iload_n (i := 1) 1 dX12_spots_28 rfl rfl ?_
        refine eg_iload_n (i := 2) 2 dX12_spots_29 rfl rfl ?_
        refine eg_aload_n (i := 0) 0 dX12_spots_30 rfl rfl ?_
        replace hF := eg_bind hF; obtain ⟨p9, e10, hF⟩ := hF
        refine eg_getR dX12_spots_31 e10 (Nat.le_of_ble_eq_true rfl) (Nat.le_of_ble_eq_true rfl) rfl ew_359 ?_
        refine eg_iconst (v := (0 : Int32)) dX12_spots_34 (by decide) ?_
        replace hF := eg_bind hF; obtain ⟨⟨v12, h11⟩, e13, hF⟩ := hF
        refine eg_callV (c := 7) (n := 1) [.int (0 : Int32)] dX12_spots_35 (mX7_told e13) rfl (fX7_told_O e13) (Nat.le_of_ble_eq_true rfl) rfl ew_717 ew_718 ew_719 ew_104 ew_720 hy_X7_told rfl (Nat.le_of_ble_eq_true rfl) (Nat.le_of_ble_eq_true rfl) (Nat.le_of_ble_eq_true rfl) ?_
        replace hF := eg_bind hF; obtain ⟨h14, e15, hF⟩ := hF
        refine eg_callV (c := 11) (n := 3) [.int l1, .int l2, .int v12] dX12_spots_38 (mX11_take e15) rfl (fX11_take_O e15) (Nat.le_of_ble_eq_true rfl) rfl ew_802 ew_803 ew_804 ew_106 ew_805 hy_X11_take rfl (Nat.le_of_ble_eq_true rfl) (Nat.le_of_ble_eq_true rfl) (Nat.le_of_ble_eq_true rfl) ?_
        refine eg_iconst (v := (0 : Int32)) dX12_spots_41 (by decide) ?_
        refine eg_istore (i := 5) [(5, .int (0 : Int32)), (0, .ref l0), (1, .int l1), (2, .int l2), (3, .int l3), (4, .int l4)] dX12_spots_42 (Nat.le_of_ble_eq_true rfl) rfl ?_
        refine eg_iconst (v := (0 : Int32)) dX12_spots_44 (by decide) ?_
        refine eg_istore (i := 6) [(6, .int (0 : Int32)), (5, .int (0 : Int32)), (0, .ref l0), (1, .int l1), (2, .int l2), (3, .int l3), (4, .int l4)] dX12_spots_45 (Nat.le_of_ble_eq_true rfl) rfl ?_
        replace hF := eg_bind hF; obtain ⟨x17, e16, hF⟩ := hF
        refine eg_sub [2, 5, 6, 1, 0] [(0, .ref l0), (3, .int l3), (4, .int l4), (5, .int (0 : Int32)), (6, .int (0 : Int32))] rfl (fX12_spots_L47_ok eg_F h14 l0 l3 l4 (0 : Int32) (0 : Int32) x17 e16 ?_)
        · intro v18 h19 e20
          subst e20
          refine eg_iload (i := 5) 0 dX12_spots_114 rfl ?_
          exact eg_iretE dX12_spots_116 hF
      · replace hF := eg_if c6 hF
        refine eg_iconst (v := (-1 : Int32)) dX12_spots_22 (by decide) ?_
        exact eg_iretE dX12_spots_23 hF
theorem dX12_spare_0 : decode cX12_spare 0 = .ok (.aload_n 0, 1) := by decide +kernel
theorem dX12_spare_1 : decode cX12_spare 1 = .ok (.getfield 35, 3) := by decide +kernel
theorem dX12_spare_4 : decode cX12_spare 4 = .ok (.iload_n 1, 1) := by decide +kernel
theorem dX12_spare_5 : decode cX12_spare 5 = .ok (.invokevirtual 284, 3) := by decide +kernel
theorem dX12_spare_8 : decode cX12_spare 8 = .ok (.ifCond .eq 17, 3) := by decide +kernel
theorem dX12_spare_11 : decode cX12_spare 11 = .ok (.iload_n 2, 1) := by decide +kernel
theorem dX12_spare_12 : decode cX12_spare 12 = .ok (.invokestatic 216, 3) := by decide +kernel
theorem dX12_spare_15 : decode cX12_spare 15 = .ok (.ifCond .eq 10, 3) := by decide +kernel
theorem dX12_spare_18 : decode cX12_spare 18 = .ok (.iload_n 3, 1) := by decide +kernel
theorem dX12_spare_19 : decode cX12_spare 19 = .ok (.invokestatic 227, 3) := by decide +kernel
theorem dX12_spare_22 : decode cX12_spare 22 = .ok (.ifCond .ne 5, 3) := by decide +kernel
theorem dX12_spare_25 : decode cX12_spare 25 = .ok (.iconst (-1), 1) := by decide +kernel
theorem dX12_spare_26 : decode cX12_spare 26 = .ok (.ireturn, 1) := by decide +kernel
theorem dX12_spare_27 : decode cX12_spare 27 = .ok (.iconst (-1), 1) := by decide +kernel
theorem dX12_spare_28 : decode cX12_spare 28 = .ok (.istore 4, 2) := by decide +kernel
theorem dX12_spare_30 : decode cX12_spare 30 = .ok (.iconst 0, 1) := by decide +kernel
theorem dX12_spare_31 : decode cX12_spare 31 = .ok (.istore 5, 2) := by decide +kernel
theorem dX12_spare_33 : decode cX12_spare 33 = .ok (.iload 5, 2) := by decide +kernel
theorem dX12_spare_35 : decode cX12_spare 35 = .ok (.aload_n 0, 1) := by decide +kernel
theorem dX12_spare_36 : decode cX12_spare 36 = .ok (.getfield 35, 3) := by decide +kernel
theorem dX12_spare_39 : decode cX12_spare 39 = .ok (.invokevirtual 287, 3) := by decide +kernel
theorem dX12_spare_42 : decode cX12_spare 42 = .ok (.if_icmp .ge 59, 3) := by decide +kernel
theorem dX12_spare_45 : decode cX12_spare 45 = .ok (.iload 4, 2) := by decide +kernel
theorem dX12_spare_47 : decode cX12_spare 47 = .ok (.iconst (-1), 1) := by decide +kernel
theorem dX12_spare_48 : decode cX12_spare 48 = .ok (.if_icmp .eq 27, 3) := by decide +kernel
theorem dX12_spare_51 : decode cX12_spare 51 = .ok (.aload_n 0, 1) := by decide +kernel
theorem dX12_spare_52 : decode cX12_spare 52 = .ok (.getfield 35, 3) := by decide +kernel
theorem dX12_spare_55 : decode cX12_spare 55 = .ok (.iload 5, 2) := by decide +kernel
theorem dX12_spare_57 : decode cX12_spare 57 = .ok (.invokevirtual 290, 3) := by decide +kernel
theorem dX12_spare_60 : decode cX12_spare 60 = .ok (.aload_n 0, 1) := by decide +kernel
theorem dX12_spare_61 : decode cX12_spare 61 = .ok (.getfield 35, 3) := by decide +kernel
theorem dX12_spare_64 : decode cX12_spare 64 = .ok (.iload 4, 2) := by decide +kernel
theorem dX12_spare_66 : decode cX12_spare 66 = .ok (.invokevirtual 290, 3) := by decide +kernel
theorem dX12_spare_69 : decode cX12_spare 69 = .ok (.if_icmp .lt 6, 3) := by decide +kernel
theorem dX12_spare_72 : decode cX12_spare 72 = .ok (.goto 23, 3) := by decide +kernel
theorem dX12_spare_75 : decode cX12_spare 75 = .ok (.aload_n 0, 1) := by decide +kernel
theorem dX12_spare_76 : decode cX12_spare 76 = .ok (.iload_n 1, 1) := by decide +kernel
theorem dX12_spare_77 : decode cX12_spare 77 = .ok (.bipush 10, 2) := by decide +kernel
theorem dX12_spare_79 : decode cX12_spare 79 = .ok (.iload 5, 2) := by decide +kernel
theorem dX12_spare_81 : decode cX12_spare 81 = .ok (.imul, 1) := by decide +kernel
theorem dX12_spare_82 : decode cX12_spare 82 = .ok (.iload_n 2, 1) := by decide +kernel
theorem dX12_spare_83 : decode cX12_spare 83 = .ok (.iadd, 1) := by decide +kernel
theorem dX12_spare_84 : decode cX12_spare 84 = .ok (.iload_n 3, 1) := by decide +kernel
theorem dX12_spare_85 : decode cX12_spare 85 = .ok (.invokevirtual 272, 3) := by decide +kernel
theorem dX12_spare_88 : decode cX12_spare 88 = .ok (.ifCond .eq 7, 3) := by decide +kernel
theorem dX12_spare_91 : decode cX12_spare 91 = .ok (.iload 5, 2) := by decide +kernel
theorem dX12_spare_93 : decode cX12_spare 93 = .ok (.istore 4, 2) := by decide +kernel
theorem dX12_spare_95 : decode cX12_spare 95 = .ok (.iinc 5 1, 3) := by decide +kernel
theorem dX12_spare_98 : decode cX12_spare 98 = .ok (.goto (-65), 3) := by decide +kernel
theorem dX12_spare_101 : decode cX12_spare 101 = .ok (.iload 4, 2) := by decide +kernel
theorem dX12_spare_103 : decode cX12_spare 103 = .ok (.ireturn, 1) := by decide +kernel
def fX12_spare_j75 (rec : eg_H → Nat → Int32 → Int32 → Int32 → Int32 → Int32 → Option (Int32 × eg_H)) (h : eg_H) (l0 : Nat) (l1 : Int32) (l2 : Int32) (l3 : Int32) (l4 : Int32) (l5 : Int32) : Option (Int32 × eg_H) :=
  (fX12_isSure h l0 l1 (((10 : Int32) * l5) + l2) l3).bind fun ⟨v2, h1⟩ =>
  if v2 = 0 then
    (rec h1 l0 l1 l2 l3 l4 (l5 + (1 : Int32)))
  else
    rec h1 l0 l1 l2 l3 l5 (l5 + (1 : Int32))
set_option maxRecDepth 20000 in
theorem fX12_spare_j75_ok {rec : eg_H → Nat → Int32 → Int32 → Int32 → Int32 → Int32 → Option (Int32 × eg_H)} {h0 : eg_H} {Z : eg_C → State → Prop} {N S : Nat} (h : eg_H) (l0 : Nat) (l1 : Int32) (l2 : Int32) (l3 : Int32) (l4 : Int32) (l5 : Int32) (eE : Int32 × eg_H) (hF : fX12_spare_j75 rec h l0 l1 l2 l3 l4 l5 = some eE) (hrec : ∀ (h : eg_H) (l0 : Nat) (l1 : Int32) (l2 : Int32) (l3 : Int32) (l4 : Int32) (l5 : Int32), rec h l0 l1 l2 l3 l4 l5 = some eE → eg_AW (RX12, cX12_spare, 6, 7, none, "spare", (some .int)) Z N S h0 33 [(0, .ref l0), (1, .int l1), (2, .int l2), (3, .int l3), (4, .int l4), (5, .int l5)] [] h) (hk0 : ∀ (l4 : Int32) (h : eg_H), eE = (l4, h) → eg_AW (RX12, cX12_spare, 6, 7, none, "spare", (some .int)) Z N S h0 101 [(4, .int l4)] [] h) : eg_AW (RX12, cX12_spare, 6, 7, none, "spare", (some .int)) Z N S h0 75 [(0, .ref l0), (1, .int l1), (2, .int l2), (3, .int l3), (4, .int l4), (5, .int l5)] [] h := by
  refine eg_aload_n (i := 0) 0 dX12_spare_75 rfl rfl ?_
  refine eg_iload_n (i := 1) 1 dX12_spare_76 rfl rfl ?_
  refine eg_bipush (v := (10 : Int32)) dX12_spare_77 (by decide) ?_
  refine eg_iload (i := 5) 5 dX12_spare_79 rfl ?_
  refine eg_imul dX12_spare_81 ?_
  refine eg_iload_n (i := 2) 2 dX12_spare_82 rfl rfl ?_
  refine eg_iadd dX12_spare_83 ?_
  refine eg_iload_n (i := 3) 3 dX12_spare_84 rfl rfl ?_
  replace hF := eg_bind hF; obtain ⟨⟨v2, h1⟩, e3, hF⟩ := hF
  refine eg_callV (c := 12) (n := 3) [.int l1, .int (((10 : Int32) * l5) + l2), .int l3] dX12_spare_85 (mX12_isSure e3) rfl (fX12_isSure_O e3) (Nat.le_of_ble_eq_true rfl) rfl ew_901 ew_903 ew_28 ew_100 ew_904 hy_X12_isSure rfl (Nat.le_of_ble_eq_true rfl) (Nat.le_of_ble_eq_true rfl) (Nat.le_of_ble_eq_true rfl) ?_
  refine eg_if_eq 95 dX12_spare_88 rfl (fun c4 => ?_) (fun c4 => ?_)
  · replace hF := eg_it c4 hF
    refine eg_iinc (i := 5) (v := (l5 + (1 : Int32))) 5 [(5, .int (l5 + (1 : Int32))), (0, .ref l0), (1, .int l1), (2, .int l2), (3, .int l3), (4, .int l4)] dX12_spare_95 rfl rfl (Nat.le_of_ble_eq_true rfl) rfl ?_
    refine eg_goto 33 dX12_spare_98 rfl ?_
    exact eg_sub [1, 2, 3, 4, 5, 0] [(0, .ref l0), (1, .int l1), (2, .int l2), (3, .int l3), (4, .int l4), (5, .int (l5 + (1 : Int32)))] rfl (hrec h1 l0 l1 l2 l3 l4 (l5 + (1 : Int32)) hF)
  · replace hF := eg_if c4 hF
    refine eg_iload (i := 5) 5 dX12_spare_91 rfl ?_
    refine eg_istore (i := 4) [(4, .int l5), (0, .ref l0), (1, .int l1), (2, .int l2), (3, .int l3), (5, .int l5)] dX12_spare_93 (Nat.le_of_ble_eq_true rfl) rfl ?_
    refine eg_iinc (i := 5) (v := (l5 + (1 : Int32))) 5 [(5, .int (l5 + (1 : Int32))), (4, .int l5), (0, .ref l0), (1, .int l1), (2, .int l2), (3, .int l3)] dX12_spare_95 rfl rfl (Nat.le_of_ble_eq_true rfl) rfl ?_
    refine eg_goto 33 dX12_spare_98 rfl ?_
    exact eg_sub [2, 3, 4, 5, 1, 0] [(0, .ref l0), (1, .int l1), (2, .int l2), (3, .int l3), (4, .int l5), (5, .int (l5 + (1 : Int32)))] rfl (hrec h1 l0 l1 l2 l3 l5 (l5 + (1 : Int32)) hF)
def fX12_spare_L33 : Nat → eg_H → Nat → Int32 → Int32 → Int32 → Int32 → Int32 → Option (Int32 × eg_H)
  | 0, _, _, _, _, _, _, _ => none
  | n + 1, h, l0, l1, l2, l3, l4, l5 =>
    (eg_gR h 12 3 l0).bind fun p1 =>
    (fX7_eggs h p1).bind fun ⟨v4, h3⟩ =>
    if v4 ≤ l5 then
      (some (l4, h3))
    else
      if l4 = (-1 : Int32) then
        (fX12_spare_j75 (fX12_spare_L33 n) h3 l0 l1 l2 l3 l4 l5)
      else
        (eg_gR h3 12 3 l0).bind fun p8 =>
        (fX7_limit h3 p8 l5).bind fun ⟨v11, h10⟩ =>
        (eg_gR h10 12 3 l0).bind fun p13 =>
        (fX7_limit h10 p13 l4).bind fun ⟨v16, h15⟩ =>
        if v11 < v16 then
          (fX12_spare_j75 (fX12_spare_L33 n) h15 l0 l1 l2 l3 l4 l5)
        else
          fX12_spare_L33 n h15 l0 l1 l2 l3 l4 (l5 + (1 : Int32))
set_option maxRecDepth 20000 in
theorem fX12_spare_L33_ok {h0 : eg_H} {Z : eg_C → State → Prop} {N S : Nat} : ∀ (n : Nat) (h : eg_H) (l0 : Nat) (l1 : Int32) (l2 : Int32) (l3 : Int32) (l4 : Int32) (l5 : Int32) (eE : Int32 × eg_H), fX12_spare_L33 n h l0 l1 l2 l3 l4 l5 = some eE → (hk0 : ∀ (l4 : Int32) (h : eg_H), eE = (l4, h) → eg_AW (RX12, cX12_spare, 6, 7, none, "spare", (some .int)) Z N S h0 101 [(4, .int l4)] [] h) → eg_AW (RX12, cX12_spare, 6, 7, none, "spare", (some .int)) Z N S h0 33 [(0, .ref l0), (1, .int l1), (2, .int l2), (3, .int l3), (4, .int l4), (5, .int l5)] [] h := by
  intro n
  induction n with
  | zero => intro h l0 l1 l2 l3 l4 l5 eE hF; exact absurd hF (by intro q; cases q)
  | succ n ih =>
    intro h l0 l1 l2 l3 l4 l5 eE hF hk0
    have hrec := fun (h' : eg_H) (l0 : Nat) (l1 : Int32) (l2 : Int32) (l3 : Int32) (l4 : Int32) (l5 : Int32) hq => ih h' l0 l1 l2 l3 l4 l5 eE hq hk0
    refine eg_iload (i := 5) 5 dX12_spare_33 rfl ?_
    refine eg_aload_n (i := 0) 0 dX12_spare_35 rfl rfl ?_
    replace hF := eg_bind hF; obtain ⟨p1, e2, hF⟩ := hF
    refine eg_getR dX12_spare_36 e2 (Nat.le_of_ble_eq_true rfl) (Nat.le_of_ble_eq_true rfl) rfl ew_359 ?_
    replace hF := eg_bind hF; obtain ⟨⟨v4, h3⟩, e5, hF⟩ := hF
    refine eg_callV (c := 7) (n := 0) [] dX12_spare_39 (mX7_eggs e5) rfl (fX7_eggs_O e5) (Nat.le_of_ble_eq_true rfl) rfl ew_922 ew_923 ew_924 ew_104 ew_925 hy_X7_eggs rfl (Nat.le_of_ble_eq_true rfl) (Nat.le_of_ble_eq_true rfl) (Nat.le_of_ble_eq_true rfl) ?_
    refine eg_ic_ge 101 dX12_spare_42 rfl (fun c6 => ?_) (fun c6 => ?_)
    · replace hF := eg_it c6 hF
      exact eg_sub [4] [(4, .int l4)] rfl (hk0 l4 h3 (Option.some.inj hF).symm)
    · replace hF := eg_if c6 hF
      refine eg_iload (i := 4) 4 dX12_spare_45 rfl ?_
      refine eg_iconst (v := (-1 : Int32)) dX12_spare_47 (by decide) ?_
      refine eg_ic_eq 75 dX12_spare_48 rfl (fun c7 => ?_) (fun c7 => ?_)
      · replace hF := eg_it c7 hF
        exact (fX12_spare_j75_ok h3 l0 l1 l2 l3 l4 l5 eE hF hrec hk0)
      · replace hF := eg_if c7 hF
        refine eg_aload_n (i := 0) 0 dX12_spare_51 rfl rfl ?_
        replace hF := eg_bind hF; obtain ⟨p8, e9, hF⟩ := hF
        refine eg_getR dX12_spare_52 e9 (Nat.le_of_ble_eq_true rfl) (Nat.le_of_ble_eq_true rfl) rfl ew_359 ?_
        refine eg_iload (i := 5) 5 dX12_spare_55 rfl ?_
        replace hF := eg_bind hF; obtain ⟨⟨v11, h10⟩, e12, hF⟩ := hF
        refine eg_callV (c := 7) (n := 1) [.int l5] dX12_spare_57 (mX7_limit e12) rfl (fX7_limit_O e12) (Nat.le_of_ble_eq_true rfl) rfl ew_926 ew_807 ew_808 ew_104 ew_809 hy_X7_limit rfl (Nat.le_of_ble_eq_true rfl) (Nat.le_of_ble_eq_true rfl) (Nat.le_of_ble_eq_true rfl) ?_
        refine eg_aload_n (i := 0) 0 dX12_spare_60 rfl rfl ?_
        replace hF := eg_bind hF; obtain ⟨p13, e14, hF⟩ := hF
        refine eg_getR dX12_spare_61 e14 (Nat.le_of_ble_eq_true rfl) (Nat.le_of_ble_eq_true rfl) rfl ew_359 ?_
        refine eg_iload (i := 4) 4 dX12_spare_64 rfl ?_
        replace hF := eg_bind hF; obtain ⟨⟨v16, h15⟩, e17, hF⟩ := hF
        refine eg_callV (c := 7) (n := 1) [.int l4] dX12_spare_66 (mX7_limit e17) rfl (fX7_limit_O e17) (Nat.le_of_ble_eq_true rfl) rfl ew_926 ew_807 ew_808 ew_104 ew_809 hy_X7_limit rfl (Nat.le_of_ble_eq_true rfl) (Nat.le_of_ble_eq_true rfl) (Nat.le_of_ble_eq_true rfl) ?_
        refine eg_ic_lt 75 dX12_spare_69 rfl (fun c18 => ?_) (fun c18 => ?_)
        · replace hF := eg_it c18 hF
          exact (fX12_spare_j75_ok h15 l0 l1 l2 l3 l4 l5 eE hF hrec hk0)
        · replace hF := eg_if c18 hF
          refine eg_goto 95 dX12_spare_72 rfl ?_
          refine eg_iinc (i := 5) (v := (l5 + (1 : Int32))) 5 [(5, .int (l5 + (1 : Int32))), (0, .ref l0), (1, .int l1), (2, .int l2), (3, .int l3), (4, .int l4)] dX12_spare_95 rfl rfl (Nat.le_of_ble_eq_true rfl) rfl ?_
          refine eg_goto 33 dX12_spare_98 rfl ?_
          exact eg_sub [1, 2, 3, 4, 5, 0] [(0, .ref l0), (1, .int l1), (2, .int l2), (3, .int l3), (4, .int l4), (5, .int (l5 + (1 : Int32)))] rfl (hrec h15 l0 l1 l2 l3 l4 (l5 + (1 : Int32)) hF)
def fX12_spare (h : eg_H) (l0 : Nat) (l1 : Int32) (l2 : Int32) (l3 : Int32) : Option (Int32 × eg_H) :=
  if eg_isO h 12 l0 then (
    (eg_gR h 12 3 l0).bind fun p1 =>
    (fX7_isPair h p1 l1).bind fun ⟨v4, h3⟩ =>
    if v4 = 0 then
      (some ((-1 : Int32), h3))
    else
      (fX12_isEnd h3 l2).bind fun ⟨v8, h7⟩ =>
      if v8 = 0 then
        (some ((-1 : Int32), h7))
      else
        (fX12_isYards h7 l3).bind fun ⟨v12, h11⟩ =>
        if v12 = 0 then
          (some ((-1 : Int32), h11))
        else
          (fX12_spare_L33 eg_F h11 l0 l1 l2 l3 (-1 : Int32) (0 : Int32)).bind fun e =>
          match e with
          | (v17, h18) =>
            some (v17, h18)) else none
theorem fX12_spare_O {h : eg_H} {l0 : Nat} {l1 : Int32} {l2 : Int32} {l3 : Int32} {rE : Int32} {hE : eg_H} (hF : fX12_spare h l0 l1 l2 l3 = some (rE, hE)) : eg_isO h 12 l0 := (eg_ifn hF).1
set_option maxRecDepth 20000 in
theorem mX12_spare {h : eg_H} {l0 : Nat} {l1 : Int32} {l2 : Int32} {l3 : Int32} {rE : Int32} {hE : eg_H} (hF : fX12_spare h l0 l1 l2 l3 = some (rE, hE)) : eg_Met yX12_spare cX12_spare 6 (some .int) 7 [.ref l0, .int l1, .int l2, .int l3] h (some (.int rE)) hE := by
  refine eg_enter rfl (Nat.le_of_ble_eq_true rfl) ?_
  show eg_AW (RX12, cX12_spare, 6, 7, none, "spare", (some .int)) (eg_Zm (some (.int rE)) hE h) (eg_nc hE) (eg_ns hE) h 0 [(0, .ref l0), (1, .int l1), (2, .int l2), (3, .int l3)] [] h
  replace hF := (eg_ifn hF).2
  refine eg_aload_n (i := 0) 0 dX12_spare_0 rfl rfl ?_
  replace hF := eg_bind hF; obtain ⟨p1, e2, hF⟩ := hF
  refine eg_getR dX12_spare_1 e2 (Nat.le_of_ble_eq_true rfl) (Nat.le_of_ble_eq_true rfl) rfl ew_359 ?_
  refine eg_iload_n (i := 1) 1 dX12_spare_4 rfl rfl ?_
  replace hF := eg_bind hF; obtain ⟨⟨v4, h3⟩, e5, hF⟩ := hF
  refine eg_callV (c := 7) (n := 1) [.int l1] dX12_spare_5 (mX7_isPair e5) rfl (fX7_isPair_O e5) (Nat.le_of_ble_eq_true rfl) rfl ew_790 ew_791 ew_792 ew_104 ew_793 hy_X7_isPair rfl (Nat.le_of_ble_eq_true rfl) (Nat.le_of_ble_eq_true rfl) (Nat.le_of_ble_eq_true rfl) ?_
  refine eg_if_eq 25 dX12_spare_8 rfl (fun c6 => ?_) (fun c6 => ?_)
  · replace hF := eg_it c6 hF
    refine eg_iconst (v := (-1 : Int32)) dX12_spare_25 (by decide) ?_
    exact eg_iretE dX12_spare_26 hF
  · replace hF := eg_if c6 hF
    refine eg_iload_n (i := 2) 2 dX12_spare_11 rfl rfl ?_
    replace hF := eg_bind hF; obtain ⟨⟨v8, h7⟩, e9, hF⟩ := hF
    refine eg_callS (n := 1) [.int l2] dX12_spare_12 (mX12_isEnd e9) rfl ew_733 ew_734 ew_100 ew_735 hy_X12_isEnd.2 rfl (Nat.le_of_ble_eq_true rfl) (Nat.le_of_ble_eq_true rfl) (Nat.le_of_ble_eq_true rfl) ?_
    refine eg_if_eq 25 dX12_spare_15 rfl (fun c10 => ?_) (fun c10 => ?_)
    · replace hF := eg_it c10 hF
      refine eg_iconst (v := (-1 : Int32)) dX12_spare_25 (by decide) ?_
      exact eg_iretE dX12_spare_26 hF
    · replace hF := eg_if c10 hF
      refine eg_iload_n (i := 3) 3 dX12_spare_18 rfl rfl ?_
      replace hF := eg_bind hF; obtain ⟨⟨v12, h11⟩, e13, hF⟩ := hF
      refine eg_callS (n := 1) [.int l3] dX12_spare_19 (mX12_isYards e13) rfl ew_752 ew_753 ew_100 ew_754 hy_X12_isYards.2 rfl (Nat.le_of_ble_eq_true rfl) (Nat.le_of_ble_eq_true rfl) (Nat.le_of_ble_eq_true rfl) ?_
      refine eg_if_ne 27 dX12_spare_22 rfl (fun c14 => ?_) (fun c14 => ?_)
      · replace hF := eg_it c14 hF
        refine eg_iconst (v := (-1 : Int32)) dX12_spare_25 (by decide) ?_
        exact eg_iretE dX12_spare_26 hF
      · replace hF := eg_if c14 hF
        refine eg_iconst (v := (-1 : Int32)) dX12_spare_27 (by decide) ?_
        refine eg_istore (i := 4) [(4, .int (-1 : Int32)), (0, .ref l0), (1, .int l1), (2, .int l2), (3, .int l3)] dX12_spare_28 (Nat.le_of_ble_eq_true rfl) rfl ?_
        refine eg_iconst (v := (0 : Int32)) dX12_spare_30 (by decide) ?_
        refine eg_istore (i := 5) [(5, .int (0 : Int32)), (4, .int (-1 : Int32)), (0, .ref l0), (1, .int l1), (2, .int l2), (3, .int l3)] dX12_spare_31 (Nat.le_of_ble_eq_true rfl) rfl ?_
        replace hF := eg_bind hF; obtain ⟨x16, e15, hF⟩ := hF
        refine eg_sub [2, 3, 4, 5, 1, 0] [(0, .ref l0), (1, .int l1), (2, .int l2), (3, .int l3), (4, .int (-1 : Int32)), (5, .int (0 : Int32))] rfl (fX12_spare_L33_ok eg_F h11 l0 l1 l2 l3 (-1 : Int32) (0 : Int32) x16 e15 ?_)
        · intro v17 h18 e19
          subst e19
          refine eg_iload (i := 4) 0 dX12_spare_101 rfl ?_
          exact eg_iretE dX12_spare_103 hF
theorem dX12_least_0 : decode cX12_least 0 = .ok (.aload_n 0, 1) := by decide +kernel
theorem dX12_least_1 : decode cX12_least 1 = .ok (.iload_n 1, 1) := by decide +kernel
theorem dX12_least_2 : decode cX12_least 2 = .ok (.iload_n 2, 1) := by decide +kernel
theorem dX12_least_3 : decode cX12_least 3 = .ok (.iload_n 3, 1) := by decide +kernel
theorem dX12_least_4 : decode cX12_least 4 = .ok (.invokevirtual 237, 3) := by decide +kernel
theorem dX12_least_7 : decode cX12_least 7 = .ok (.ifCond .eq 14, 3) := by decide +kernel
theorem dX12_least_10 : decode cX12_least 10 = .ok (.iload 4, 2) := by decide +kernel
theorem dX12_least_12 : decode cX12_least 12 = .ok (.ifCond .lt 9, 3) := by decide +kernel
theorem dX12_least_15 : decode cX12_least 15 = .ok (.iload 4, 2) := by decide +kernel
theorem dX12_least_17 : decode cX12_least 17 = .ok (.iconst 1, 1) := by decide +kernel
theorem dX12_least_18 : decode cX12_least 18 = .ok (.if_icmp .le 5, 3) := by decide +kernel
theorem dX12_least_21 : decode cX12_least 21 = .ok (.iconst (-1), 1) := by decide +kernel
theorem dX12_least_22 : decode cX12_least 22 = .ok (.ireturn, 1) := by decide +kernel
theorem dX12_least_23 : decode cX12_least 23 = .ok (.aload_n 0, 1) := by decide +kernel
theorem dX12_least_24 : decode cX12_least 24 = .ok (.getfield 92, 3) := by decide +kernel
theorem dX12_least_27 : decode cX12_least 27 = .ok (.iload_n 1, 1) := by decide +kernel
theorem dX12_least_28 : decode cX12_least 28 = .ok (.iload_n 2, 1) := by decide +kernel
theorem dX12_least_29 : decode cX12_least 29 = .ok (.aload_n 0, 1) := by decide +kernel
theorem dX12_least_30 : decode cX12_least 30 = .ok (.getfield 35, 3) := by decide +kernel
theorem dX12_least_33 : decode cX12_least 33 = .ok (.iconst 0, 1) := by decide +kernel
theorem dX12_least_34 : decode cX12_least 34 = .ok (.invokevirtual 209, 3) := by decide +kernel
theorem dX12_least_37 : decode cX12_least 37 = .ok (.invokevirtual 244, 3) := by decide +kernel
theorem dX12_least_40 : decode cX12_least 40 = .ok (.iload 4, 2) := by decide +kernel
theorem dX12_least_42 : decode cX12_least 42 = .ok (.ifCond .ne 8, 3) := by decide +kernel
theorem dX12_least_45 : decode cX12_least 45 = .ok (.bipush 9, 2) := by decide +kernel
theorem dX12_least_47 : decode cX12_least 47 = .ok (.goto 4, 3) := by decide +kernel
theorem dX12_least_50 : decode cX12_least 50 = .ok (.iconst 5, 1) := by decide +kernel
theorem dX12_least_51 : decode cX12_least 51 = .ok (.istore 5, 2) := by decide +kernel
theorem dX12_least_53 : decode cX12_least 53 = .ok (.iconst 0, 1) := by decide +kernel
theorem dX12_least_54 : decode cX12_least 54 = .ok (.istore 6, 2) := by decide +kernel
theorem dX12_least_56 : decode cX12_least 56 = .ok (.iload 6, 2) := by decide +kernel
theorem dX12_least_58 : decode cX12_least 58 = .ok (.iload 5, 2) := by decide +kernel
theorem dX12_least_60 : decode cX12_least 60 = .ok (.if_icmp .gt 59, 3) := by decide +kernel
theorem dX12_least_63 : decode cX12_least 63 = .ok (.iload 4, 2) := by decide +kernel
theorem dX12_least_65 : decode cX12_least 65 = .ok (.ifCond .ne 15, 3) := by decide +kernel
theorem dX12_least_68 : decode cX12_least 68 = .ok (.aload_n 0, 1) := by decide +kernel
theorem dX12_least_69 : decode cX12_least 69 = .ok (.getfield 92, 3) := by decide +kernel
theorem dX12_least_72 : decode cX12_least 72 = .ok (.iload 6, 2) := by decide +kernel
theorem dX12_least_74 : decode cX12_least 74 = .ok (.invokevirtual 263, 3) := by decide +kernel
theorem dX12_least_77 : decode cX12_least 77 = .ok (.goto 12, 3) := by decide +kernel
theorem dX12_least_80 : decode cX12_least 80 = .ok (.aload_n 0, 1) := by decide +kernel
theorem dX12_least_81 : decode cX12_least 81 = .ok (.getfield 92, 3) := by decide +kernel
theorem dX12_least_84 : decode cX12_least 84 = .ok (.iload 6, 2) := by decide +kernel
theorem dX12_least_86 : decode cX12_least 86 = .ok (.invokevirtual 266, 3) := by decide +kernel
theorem dX12_least_89 : decode cX12_least 89 = .ok (.aload_n 0, 1) := by decide +kernel
theorem dX12_least_90 : decode cX12_least 90 = .ok (.getfield 92, 3) := by decide +kernel
theorem dX12_least_93 : decode cX12_least 93 = .ok (.iload_n 3, 1) := by decide +kernel
theorem dX12_least_94 : decode cX12_least 94 = .ok (.invokevirtual 293, 3) := by decide +kernel
theorem dX12_least_97 : decode cX12_least 97 = .ok (.invokestatic 260, 3) := by decide +kernel
theorem dX12_least_100 : decode cX12_least 100 = .ok (.aload_n 0, 1) := by decide +kernel
theorem dX12_least_101 : decode cX12_least 101 = .ok (.getfield 92, 3) := by decide +kernel
theorem dX12_least_104 : decode cX12_least 104 = .ok (.invokevirtual 296, 3) := by decide +kernel
theorem dX12_least_107 : decode cX12_least 107 = .ok (.if_icmp .ne 6, 3) := by decide +kernel
theorem dX12_least_110 : decode cX12_least 110 = .ok (.iload 6, 2) := by decide +kernel
theorem dX12_least_112 : decode cX12_least 112 = .ok (.ireturn, 1) := by decide +kernel
theorem dX12_least_113 : decode cX12_least 113 = .ok (.iinc 6 1, 3) := by decide +kernel
theorem dX12_least_116 : decode cX12_least 116 = .ok (.goto (-60), 3) := by decide +kernel
theorem dX12_least_119 : decode cX12_least 119 = .ok (.iconst (-1), 1) := by decide +kernel
theorem dX12_least_120 : decode cX12_least 120 = .ok (.ireturn, 1) := by decide +kernel
def fX12_least_j89 (rec : eg_H → Nat → Int32 → Int32 → Int32 → Int32 → Option ((eg_H) ⊕ (Int32 × eg_H))) (h : eg_H) (l0 : Nat) (l3 : Int32) (l4 : Int32) (l5 : Int32) (l6 : Int32) : Option ((eg_H) ⊕ (Int32 × eg_H)) :=
  (eg_gR h 12 15 l0).bind fun p1 =>
  (fX11_seek h p1 l3).bind fun ⟨v4, h3⟩ =>
  (fX11_goodIn h3 v4).bind fun ⟨v7, h6⟩ =>
  (eg_gR h6 12 15 l0).bind fun p9 =>
  (fX11_slips h6 p9).bind fun ⟨v12, h11⟩ =>
  if v7 = v12 then
    (some (.inr (l6, h11)))
  else
    rec h11 l0 l3 l4 l5 (l6 + (1 : Int32))
set_option maxRecDepth 20000 in
theorem fX12_least_j89_ok {rec : eg_H → Nat → Int32 → Int32 → Int32 → Int32 → Option ((eg_H) ⊕ (Int32 × eg_H))} {h0 : eg_H} {Z : eg_C → State → Prop} {N S : Nat} (h : eg_H) (l0 : Nat) (l3 : Int32) (l4 : Int32) (l5 : Int32) (l6 : Int32) (eE : (eg_H) ⊕ (Int32 × eg_H)) (hF : fX12_least_j89 rec h l0 l3 l4 l5 l6 = some eE) (hrec : ∀ (h : eg_H) (l0 : Nat) (l3 : Int32) (l4 : Int32) (l5 : Int32) (l6 : Int32), rec h l0 l3 l4 l5 l6 = some eE → eg_AW (RX12, cX12_least, 7, 5, none, "least", (some .int)) Z N S h0 56 [(0, .ref l0), (3, .int l3), (4, .int l4), (5, .int l5), (6, .int l6)] [] h) (hk0 : ∀  (h : eg_H), eE = (.inl h) → eg_AW (RX12, cX12_least, 7, 5, none, "least", (some .int)) Z N S h0 119 [] [] h) (hk1 : ∀ (l6 : Int32) (h : eg_H), eE = (.inr (l6, h)) → eg_AW (RX12, cX12_least, 7, 5, none, "least", (some .int)) Z N S h0 110 [(6, .int l6)] [] h) : eg_AW (RX12, cX12_least, 7, 5, none, "least", (some .int)) Z N S h0 89 [(0, .ref l0), (3, .int l3), (4, .int l4), (5, .int l5), (6, .int l6)] [] h := by
  refine eg_aload_n (i := 0) 0 dX12_least_89 rfl rfl ?_
  replace hF := eg_bind hF; obtain ⟨p1, e2, hF⟩ := hF
  refine eg_getR dX12_least_90 e2 (Nat.le_of_ble_eq_true rfl) (Nat.le_of_ble_eq_true rfl) rfl ew_371 ?_
  refine eg_iload_n (i := 3) 1 dX12_least_93 rfl rfl ?_
  replace hF := eg_bind hF; obtain ⟨⟨v4, h3⟩, e5, hF⟩ := hF
  refine eg_callV (c := 11) (n := 1) [.int l3] dX12_least_94 (mX11_seek e5) rfl (fX11_seek_O e5) (Nat.le_of_ble_eq_true rfl) rfl ew_931 ew_864 ew_865 ew_106 ew_866 hy_X11_seek rfl (Nat.le_of_ble_eq_true rfl) (Nat.le_of_ble_eq_true rfl) (Nat.le_of_ble_eq_true rfl) ?_
  replace hF := eg_bind hF; obtain ⟨⟨v7, h6⟩, e8, hF⟩ := hF
  refine eg_callS (n := 1) [.int v4] dX12_least_97 (mX11_goodIn e8) rfl ew_878 ew_879 ew_106 ew_880 hy_X11_goodIn.2 rfl (Nat.le_of_ble_eq_true rfl) (Nat.le_of_ble_eq_true rfl) (Nat.le_of_ble_eq_true rfl) ?_
  refine eg_aload_n (i := 0) 0 dX12_least_100 rfl rfl ?_
  replace hF := eg_bind hF; obtain ⟨p9, e10, hF⟩ := hF
  refine eg_getR dX12_least_101 e10 (Nat.le_of_ble_eq_true rfl) (Nat.le_of_ble_eq_true rfl) rfl ew_371 ?_
  replace hF := eg_bind hF; obtain ⟨⟨v12, h11⟩, e13, hF⟩ := hF
  refine eg_callV (c := 11) (n := 0) [] dX12_least_104 (mX11_slips e13) rfl (fX11_slips_O e13) (Nat.le_of_ble_eq_true rfl) rfl ew_932 ew_933 ew_934 ew_106 ew_935 hy_X11_slips rfl (Nat.le_of_ble_eq_true rfl) (Nat.le_of_ble_eq_true rfl) (Nat.le_of_ble_eq_true rfl) ?_
  refine eg_ic_ne 113 dX12_least_107 rfl (fun c14 => ?_) (fun c14 => ?_)
  · replace hF := eg_it c14 hF
    exact eg_sub [4] [(6, .int l6)] rfl (hk1 l6 h11 (Option.some.inj hF).symm)
  · replace hF := eg_if c14 hF
    refine eg_iinc (i := 6) (v := (l6 + (1 : Int32))) 4 [(6, .int (l6 + (1 : Int32))), (0, .ref l0), (3, .int l3), (4, .int l4), (5, .int l5)] dX12_least_113 rfl rfl (Nat.le_of_ble_eq_true rfl) rfl ?_
    refine eg_goto 56 dX12_least_116 rfl ?_
    exact eg_sub [1, 2, 3, 4, 0] [(0, .ref l0), (3, .int l3), (4, .int l4), (5, .int l5), (6, .int (l6 + (1 : Int32)))] rfl (hrec h11 l0 l3 l4 l5 (l6 + (1 : Int32)) hF)
def fX12_least_L56 : Nat → eg_H → Nat → Int32 → Int32 → Int32 → Int32 → Option ((eg_H) ⊕ (Int32 × eg_H))
  | 0, _, _, _, _, _, _ => none
  | n + 1, h, l0, l3, l4, l5, l6 =>
    if l5 < l6 then
      (some (.inl h))
    else
      if l4 = 0 then
        ((eg_gR h 12 15 l0).bind fun p3 =>
        (fX11_useArm h p3 l6).bind fun h5 =>
        fX12_least_j89 (fX12_least_L56 n) h5 l0 l3 l4 l5 l6)
      else
        (eg_gR h 12 15 l0).bind fun p7 =>
        (fX11_useRun h p7 l6).bind fun h9 =>
        fX12_least_j89 (fX12_least_L56 n) h9 l0 l3 l4 l5 l6
set_option maxRecDepth 20000 in
theorem fX12_least_L56_ok {h0 : eg_H} {Z : eg_C → State → Prop} {N S : Nat} : ∀ (n : Nat) (h : eg_H) (l0 : Nat) (l3 : Int32) (l4 : Int32) (l5 : Int32) (l6 : Int32) (eE : (eg_H) ⊕ (Int32 × eg_H)), fX12_least_L56 n h l0 l3 l4 l5 l6 = some eE → (hk0 : ∀  (h : eg_H), eE = (.inl h) → eg_AW (RX12, cX12_least, 7, 5, none, "least", (some .int)) Z N S h0 119 [] [] h) → (hk1 : ∀ (l6 : Int32) (h : eg_H), eE = (.inr (l6, h)) → eg_AW (RX12, cX12_least, 7, 5, none, "least", (some .int)) Z N S h0 110 [(6, .int l6)] [] h) → eg_AW (RX12, cX12_least, 7, 5, none, "least", (some .int)) Z N S h0 56 [(0, .ref l0), (3, .int l3), (4, .int l4), (5, .int l5), (6, .int l6)] [] h := by
  intro n
  induction n with
  | zero => intro h l0 l3 l4 l5 l6 eE hF; exact absurd hF (by intro q; cases q)
  | succ n ih =>
    intro h l0 l3 l4 l5 l6 eE hF hk0 hk1
    have hrec := fun (h' : eg_H) (l0 : Nat) (l3 : Int32) (l4 : Int32) (l5 : Int32) (l6 : Int32) hq => ih h' l0 l3 l4 l5 l6 eE hq hk0 hk1
    refine eg_iload (i := 6) 4 dX12_least_56 rfl ?_
    refine eg_iload (i := 5) 3 dX12_least_58 rfl ?_
    refine eg_ic_gt 119 dX12_least_60 rfl (fun c1 => ?_) (fun c1 => ?_)
    · replace hF := eg_it c1 hF
      exact eg_sub [] [] rfl (hk0 h (Option.some.inj hF).symm)
    · replace hF := eg_if c1 hF
      refine eg_iload (i := 4) 2 dX12_least_63 rfl ?_
      refine eg_if_ne 80 dX12_least_65 rfl (fun c2 => ?_) (fun c2 => ?_)
      · replace hF := eg_it c2 hF
        refine eg_aload_n (i := 0) 0 dX12_least_68 rfl rfl ?_
        replace hF := eg_bind hF; obtain ⟨p3, e4, hF⟩ := hF
        refine eg_getR dX12_least_69 e4 (Nat.le_of_ble_eq_true rfl) (Nat.le_of_ble_eq_true rfl) rfl ew_371 ?_
        refine eg_iload (i := 6) 4 dX12_least_72 rfl ?_
        replace hF := eg_bind hF; obtain ⟨h5, e6, hF⟩ := hF
        refine eg_callV (c := 11) (n := 1) [.int l6] dX12_least_74 (mX11_useArm e6) rfl (fX11_useArm_O e6) (Nat.le_of_ble_eq_true rfl) rfl ew_885 ew_886 ew_887 ew_106 ew_888 hy_X11_useArm rfl (Nat.le_of_ble_eq_true rfl) (Nat.le_of_ble_eq_true rfl) (Nat.le_of_ble_eq_true rfl) ?_
        refine eg_goto 89 dX12_least_77 rfl ?_
        exact (fX12_least_j89_ok h5 l0 l3 l4 l5 l6 eE hF hrec hk0 hk1)
      · replace hF := eg_if c2 hF
        refine eg_aload_n (i := 0) 0 dX12_least_80 rfl rfl ?_
        replace hF := eg_bind hF; obtain ⟨p7, e8, hF⟩ := hF
        refine eg_getR dX12_least_81 e8 (Nat.le_of_ble_eq_true rfl) (Nat.le_of_ble_eq_true rfl) rfl ew_371 ?_
        refine eg_iload (i := 6) 4 dX12_least_84 rfl ?_
        replace hF := eg_bind hF; obtain ⟨h9, e10, hF⟩ := hF
        refine eg_callV (c := 11) (n := 1) [.int l6] dX12_least_86 (mX11_useRun e10) rfl (fX11_useRun_O e10) (Nat.le_of_ble_eq_true rfl) rfl ew_893 ew_894 ew_895 ew_106 ew_896 hy_X11_useRun rfl (Nat.le_of_ble_eq_true rfl) (Nat.le_of_ble_eq_true rfl) (Nat.le_of_ble_eq_true rfl) ?_
        exact (fX12_least_j89_ok h9 l0 l3 l4 l5 l6 eE hF hrec hk0 hk1)
def fX12_least_j51 (h : eg_H) (l0 : Nat) (l3 : Int32) (l4 : Int32) (s0 : Int32) : Option (Int32 × eg_H) :=
  (fX12_least_L56 eg_F h l0 l3 l4 s0 (0 : Int32)).bind fun e =>
  match e with
  | .inl h3 =>
    some ((-1 : Int32), h3)
  | .inr (v5, h6) =>
    some (v5, h6)
set_option maxRecDepth 20000 in
theorem fX12_least_j51_ok {h0 : eg_H} (h : eg_H) (l0 : Nat) (l3 : Int32) (l4 : Int32) (s0 : Int32) {rE : Int32} {hE : eg_H} (hF : fX12_least_j51 h l0 l3 l4 s0 = some (rE, hE)) : eg_AW (RX12, cX12_least, 7, 5, none, "least", (some .int)) (eg_Zm (some (.int rE)) hE h0) (eg_nc hE) (eg_ns hE) h0 51 [(0, .ref l0), (3, .int l3), (4, .int l4)] [.int s0] h := by
  refine eg_istore (i := 5) [(5, .int s0), (0, .ref l0), (3, .int l3), (4, .int l4)] dX12_least_51 (Nat.le_of_ble_eq_true rfl) rfl ?_
  refine eg_iconst (v := (0 : Int32)) dX12_least_53 (by decide) ?_
  refine eg_istore (i := 6) [(6, .int (0 : Int32)), (5, .int s0), (0, .ref l0), (3, .int l3), (4, .int l4)] dX12_least_54 (Nat.le_of_ble_eq_true rfl) rfl ?_
  replace hF := eg_bind hF; obtain ⟨x2, e1, hF⟩ := hF
  refine eg_sub [2, 3, 4, 1, 0] [(0, .ref l0), (3, .int l3), (4, .int l4), (5, .int s0), (6, .int (0 : Int32))] rfl (fX12_least_L56_ok eg_F h l0 l3 l4 s0 (0 : Int32) x2 e1 ?_ ?_)
  · intro h3 e4
    subst e4
    refine eg_iconst (v := (-1 : Int32)) dX12_least_119 (by decide) ?_
    exact eg_iretE dX12_least_120 hF
  · intro v5 h6 e7
    subst e7
    refine eg_iload (i := 6) 0 dX12_least_110 rfl ?_
    exact eg_iretE dX12_least_112 hF
def fX12_least (h : eg_H) (l0 : Nat) (l1 : Int32) (l2 : Int32) (l3 : Int32) (l4 : Int32) : Option (Int32 × eg_H) :=
  if eg_isO h 12 l0 then (
    (fX12_isThrow h l0 l1 l2 l3).bind fun ⟨v2, h1⟩ =>
    if v2 = 0 then
      (some ((-1 : Int32), h1))
    else
      if l4 < 0 then
        (some ((-1 : Int32), h1))
      else
        if l4 ≤ (1 : Int32) then
          ((eg_gR h1 12 15 l0).bind fun p7 =>
          (eg_gR h1 12 3 l0).bind fun p9 =>
          (fX7_told h1 p9 (0 : Int32)).bind fun ⟨v12, h11⟩ =>
          (fX11_take h11 p7 l1 l2 v12).bind fun h14 =>
          if l4 = 0 then
            (fX12_least_j51 h14 l0 l3 l4 (9 : Int32))
          else
            fX12_least_j51 h14 l0 l3 l4 (5 : Int32))
        else
          some ((-1 : Int32), h1)) else none
theorem fX12_least_O {h : eg_H} {l0 : Nat} {l1 : Int32} {l2 : Int32} {l3 : Int32} {l4 : Int32} {rE : Int32} {hE : eg_H} (hF : fX12_least h l0 l1 l2 l3 l4 = some (rE, hE)) : eg_isO h 12 l0 := (eg_ifn hF).1
set_option maxRecDepth 20000 in
theorem mX12_least {h : eg_H} {l0 : Nat} {l1 : Int32} {l2 : Int32} {l3 : Int32} {l4 : Int32} {rE : Int32} {hE : eg_H} (hF : fX12_least h l0 l1 l2 l3 l4 = some (rE, hE)) : eg_Met yX12_least cX12_least 7 (some .int) 5 [.ref l0, .int l1, .int l2, .int l3, .int l4] h (some (.int rE)) hE := by
  refine eg_enter rfl (Nat.le_of_ble_eq_true rfl) ?_
  show eg_AW (RX12, cX12_least, 7, 5, none, "least", (some .int)) (eg_Zm (some (.int rE)) hE h) (eg_nc hE) (eg_ns hE) h 0 [(0, .ref l0), (1, .int l1), (2, .int l2), (3, .int l3), (4, .int l4)] [] h
  replace hF := (eg_ifn hF).2
  refine eg_aload_n (i := 0) 0 dX12_least_0 rfl rfl ?_
  refine eg_iload_n (i := 1) 1 dX12_least_1 rfl rfl ?_
  refine eg_iload_n (i := 2) 2 dX12_least_2 rfl rfl ?_
  refine eg_iload_n (i := 3) 3 dX12_least_3 rfl rfl ?_
  replace hF := eg_bind hF; obtain ⟨⟨v2, h1⟩, e3, hF⟩ := hF
  refine eg_callV (c := 12) (n := 3) [.int l1, .int l2, .int l3] dX12_least_4 (mX12_isThrow e3) rfl (fX12_isThrow_O e3) (Nat.le_of_ble_eq_true rfl) rfl ew_782 ew_784 ew_23 ew_100 ew_785 hy_X12_isThrow rfl (Nat.le_of_ble_eq_true rfl) (Nat.le_of_ble_eq_true rfl) (Nat.le_of_ble_eq_true rfl) ?_
  refine eg_if_eq 21 dX12_least_7 rfl (fun c4 => ?_) (fun c4 => ?_)
  · replace hF := eg_it c4 hF
    refine eg_iconst (v := (-1 : Int32)) dX12_least_21 (by decide) ?_
    exact eg_iretE dX12_least_22 hF
  · replace hF := eg_if c4 hF
    refine eg_iload (i := 4) 4 dX12_least_10 rfl ?_
    refine eg_if_lt 21 dX12_least_12 rfl (fun c5 => ?_) (fun c5 => ?_)
    · replace hF := eg_it c5 hF
      refine eg_iconst (v := (-1 : Int32)) dX12_least_21 (by decide) ?_
      exact eg_iretE dX12_least_22 hF
    · replace hF := eg_if c5 hF
      refine eg_iload (i := 4) 4 dX12_least_15 rfl ?_
      refine eg_iconst (v := (1 : Int32)) dX12_least_17 (by decide) ?_
      refine eg_ic_le 23 dX12_least_18 rfl (fun c6 => ?_) (fun c6 => ?_)
      · replace hF := eg_it c6 hF
        refine eg_aload_n (i := 0) 0 dX12_least_23 rfl rfl ?_
        replace hF := eg_bind hF; obtain ⟨p7, e8, hF⟩ := hF
        refine eg_getR dX12_least_24 e8 (Nat.le_of_ble_eq_true rfl) (Nat.le_of_ble_eq_true rfl) rfl ew_371 ?_
        refine eg_iload_n (i := 1) 1 dX12_least_27 rfl rfl ?_
        refine eg_iload_n (i := 2) 2 dX12_least_28 rfl rfl ?_
        refine eg_aload_n (i := 0) 0 dX12_least_29 rfl rfl ?_
        replace hF := eg_bind hF; obtain ⟨p9, e10, hF⟩ := hF
        refine eg_getR dX12_least_30 e10 (Nat.le_of_ble_eq_true rfl) (Nat.le_of_ble_eq_true rfl) rfl ew_359 ?_
        refine eg_iconst (v := (0 : Int32)) dX12_least_33 (by decide) ?_
        replace hF := eg_bind hF; obtain ⟨⟨v12, h11⟩, e13, hF⟩ := hF
        refine eg_callV (c := 7) (n := 1) [.int (0 : Int32)] dX12_least_34 (mX7_told e13) rfl (fX7_told_O e13) (Nat.le_of_ble_eq_true rfl) rfl ew_717 ew_718 ew_719 ew_104 ew_720 hy_X7_told rfl (Nat.le_of_ble_eq_true rfl) (Nat.le_of_ble_eq_true rfl) (Nat.le_of_ble_eq_true rfl) ?_
        replace hF := eg_bind hF; obtain ⟨h14, e15, hF⟩ := hF
        refine eg_callV (c := 11) (n := 3) [.int l1, .int l2, .int v12] dX12_least_37 (mX11_take e15) rfl (fX11_take_O e15) (Nat.le_of_ble_eq_true rfl) rfl ew_802 ew_803 ew_804 ew_106 ew_805 hy_X11_take rfl (Nat.le_of_ble_eq_true rfl) (Nat.le_of_ble_eq_true rfl) (Nat.le_of_ble_eq_true rfl) ?_
        refine eg_iload (i := 4) 4 dX12_least_40 rfl ?_
        refine eg_if_ne 50 dX12_least_42 rfl (fun c16 => ?_) (fun c16 => ?_)
        · replace hF := eg_it c16 hF
          refine eg_bipush (v := (9 : Int32)) dX12_least_45 (by decide) ?_
          refine eg_goto 51 dX12_least_47 rfl ?_
          exact eg_sub [0, 3, 4] [(0, .ref l0), (3, .int l3), (4, .int l4)] rfl (fX12_least_j51_ok h14 l0 l3 l4 (9 : Int32) hF)
        · replace hF := eg_if c16 hF
          refine eg_iconst (v := (5 : Int32)) dX12_least_50 (by decide) ?_
          exact eg_sub [0, 3, 4] [(0, .ref l0), (3, .int l3), (4, .int l4)] rfl (fX12_least_j51_ok h14 l0 l3 l4 (5 : Int32) hF)
      · replace hF := eg_if c6 hF
        refine eg_iconst (v := (-1 : Int32)) dX12_least_21 (by decide) ?_
        exact eg_iretE dX12_least_22 hF
theorem dX12_loft_0 : decode cX12_loft 0 = .ok (.aload_n 0, 1) := by decide +kernel
theorem dX12_loft_1 : decode cX12_loft 1 = .ok (.iload_n 1, 1) := by decide +kernel
theorem dX12_loft_2 : decode cX12_loft 2 = .ok (.iload_n 2, 1) := by decide +kernel
theorem dX12_loft_3 : decode cX12_loft 3 = .ok (.iload_n 3, 1) := by decide +kernel
theorem dX12_loft_4 : decode cX12_loft 4 = .ok (.invokevirtual 237, 3) := by decide +kernel
theorem dX12_loft_7 : decode cX12_loft 7 = .ok (.ifCond .eq 14, 3) := by decide +kernel
theorem dX12_loft_10 : decode cX12_loft 10 = .ok (.iload 5, 2) := by decide +kernel
theorem dX12_loft_12 : decode cX12_loft 12 = .ok (.ifCond .lt 9, 3) := by decide +kernel
theorem dX12_loft_15 : decode cX12_loft 15 = .ok (.iload 5, 2) := by decide +kernel
theorem dX12_loft_17 : decode cX12_loft 17 = .ok (.iconst 1, 1) := by decide +kernel
theorem dX12_loft_18 : decode cX12_loft 18 = .ok (.if_icmp .le 6, 3) := by decide +kernel
theorem dX12_loft_21 : decode cX12_loft 21 = .ok (.ldc 223, 2) := by decide +kernel
theorem dX12_loft_23 : decode cX12_loft 23 = .ok (.ireturn, 1) := by decide +kernel
theorem dX12_loft_24 : decode cX12_loft 24 = .ok (.aload_n 0, 1) := by decide +kernel
theorem dX12_loft_25 : decode cX12_loft 25 = .ok (.getfield 92, 3) := by decide +kernel
theorem dX12_loft_28 : decode cX12_loft 28 = .ok (.iload_n 1, 1) := by decide +kernel
theorem dX12_loft_29 : decode cX12_loft 29 = .ok (.iload_n 2, 1) := by decide +kernel
theorem dX12_loft_30 : decode cX12_loft 30 = .ok (.aload_n 0, 1) := by decide +kernel
theorem dX12_loft_31 : decode cX12_loft 31 = .ok (.getfield 35, 3) := by decide +kernel
theorem dX12_loft_34 : decode cX12_loft 34 = .ok (.iconst 0, 1) := by decide +kernel
theorem dX12_loft_35 : decode cX12_loft 35 = .ok (.invokevirtual 209, 3) := by decide +kernel
theorem dX12_loft_38 : decode cX12_loft 38 = .ok (.invokevirtual 244, 3) := by decide +kernel
theorem dX12_loft_41 : decode cX12_loft 41 = .ok (.iload 4, 2) := by decide +kernel
theorem dX12_loft_43 : decode cX12_loft 43 = .ok (.ifCond .lt 15, 3) := by decide +kernel
theorem dX12_loft_46 : decode cX12_loft 46 = .ok (.iload 4, 2) := by decide +kernel
theorem dX12_loft_48 : decode cX12_loft 48 = .ok (.aload_n 0, 1) := by decide +kernel
theorem dX12_loft_49 : decode cX12_loft 49 = .ok (.getfield 92, 3) := by decide +kernel
theorem dX12_loft_52 : decode cX12_loft 52 = .ok (.invokevirtual 275, 3) := by decide +kernel
theorem dX12_loft_55 : decode cX12_loft 55 = .ok (.if_icmp .le 6, 3) := by decide +kernel
theorem dX12_loft_58 : decode cX12_loft 58 = .ok (.ldc 223, 2) := by decide +kernel
theorem dX12_loft_60 : decode cX12_loft 60 = .ok (.ireturn, 1) := by decide +kernel
theorem dX12_loft_61 : decode cX12_loft 61 = .ok (.aload_n 0, 1) := by decide +kernel
theorem dX12_loft_62 : decode cX12_loft 62 = .ok (.getfield 92, 3) := by decide +kernel
theorem dX12_loft_65 : decode cX12_loft 65 = .ok (.iload_n 3, 1) := by decide +kernel
theorem dX12_loft_66 : decode cX12_loft 66 = .ok (.iload 4, 2) := by decide +kernel
theorem dX12_loft_68 : decode cX12_loft 68 = .ok (.invokevirtual 278, 3) := by decide +kernel
theorem dX12_loft_71 : decode cX12_loft 71 = .ok (.istore 6, 2) := by decide +kernel
theorem dX12_loft_73 : decode cX12_loft 73 = .ok (.iconst (-1), 1) := by decide +kernel
theorem dX12_loft_74 : decode cX12_loft 74 = .ok (.istore 7, 2) := by decide +kernel
theorem dX12_loft_76 : decode cX12_loft 76 = .ok (.iconst 0, 1) := by decide +kernel
theorem dX12_loft_77 : decode cX12_loft 77 = .ok (.istore 8, 2) := by decide +kernel
theorem dX12_loft_79 : decode cX12_loft 79 = .ok (.iconst 0, 1) := by decide +kernel
theorem dX12_loft_80 : decode cX12_loft 80 = .ok (.istore 9, 2) := by decide +kernel
theorem dX12_loft_82 : decode cX12_loft 82 = .ok (.iload 9, 2) := by decide +kernel
theorem dX12_loft_84 : decode cX12_loft 84 = .ok (.bipush 10, 2) := by decide +kernel
theorem dX12_loft_86 : decode cX12_loft 86 = .ok (.if_icmp .gt 62, 3) := by decide +kernel
theorem dX12_loft_89 : decode cX12_loft 89 = .ok (.iload 9, 2) := by decide +kernel
theorem dX12_loft_91 : decode cX12_loft 91 = .ok (.iconst 2, 1) := by decide +kernel
theorem dX12_loft_92 : decode cX12_loft 92 = .ok (.irem, 1) := by decide +kernel
theorem dX12_loft_93 : decode cX12_loft 93 = .ok (.ifCond .ne 10, 3) := by decide +kernel
theorem dX12_loft_96 : decode cX12_loft 96 = .ok (.iload 9, 2) := by decide +kernel
theorem dX12_loft_98 : decode cX12_loft 98 = .ok (.iconst 2, 1) := by decide +kernel
theorem dX12_loft_99 : decode cX12_loft 99 = .ok (.idiv, 1) := by decide +kernel
theorem dX12_loft_100 : decode cX12_loft 100 = .ok (.goto 10, 3) := by decide +kernel
theorem dX12_loft_103 : decode cX12_loft 103 = .ok (.iload 9, 2) := by decide +kernel
theorem dX12_loft_105 : decode cX12_loft 105 = .ok (.iconst 1, 1) := by decide +kernel
theorem dX12_loft_106 : decode cX12_loft 106 = .ok (.iadd, 1) := by decide +kernel
theorem dX12_loft_107 : decode cX12_loft 107 = .ok (.ineg, 1) := by decide +kernel
theorem dX12_loft_108 : decode cX12_loft 108 = .ok (.iconst 2, 1) := by decide +kernel
theorem dX12_loft_109 : decode cX12_loft 109 = .ok (.idiv, 1) := by decide +kernel
theorem dX12_loft_110 : decode cX12_loft 110 = .ok (.istore 10, 2) := by decide +kernel
theorem dX12_loft_112 : decode cX12_loft 112 = .ok (.aload_n 0, 1) := by decide +kernel
theorem dX12_loft_113 : decode cX12_loft 113 = .ok (.getfield 92, 3) := by decide +kernel
theorem dX12_loft_116 : decode cX12_loft 116 = .ok (.iload 6, 2) := by decide +kernel
theorem dX12_loft_118 : decode cX12_loft 118 = .ok (.iload 4, 2) := by decide +kernel
theorem dX12_loft_120 : decode cX12_loft 120 = .ok (.iload 10, 2) := by decide +kernel
theorem dX12_loft_122 : decode cX12_loft 122 = .ok (.invokevirtual 281, 3) := by decide +kernel
theorem dX12_loft_125 : decode cX12_loft 125 = .ok (.istore 11, 2) := by decide +kernel
theorem dX12_loft_127 : decode cX12_loft 127 = .ok (.iload 11, 2) := by decide +kernel
theorem dX12_loft_129 : decode cX12_loft 129 = .ok (.iload 7, 2) := by decide +kernel
theorem dX12_loft_131 : decode cX12_loft 131 = .ok (.if_icmp .le 11, 3) := by decide +kernel
theorem dX12_loft_134 : decode cX12_loft 134 = .ok (.iload 11, 2) := by decide +kernel
theorem dX12_loft_136 : decode cX12_loft 136 = .ok (.istore 7, 2) := by decide +kernel
theorem dX12_loft_138 : decode cX12_loft 138 = .ok (.iload 10, 2) := by decide +kernel
theorem dX12_loft_140 : decode cX12_loft 140 = .ok (.istore 8, 2) := by decide +kernel
theorem dX12_loft_142 : decode cX12_loft 142 = .ok (.iinc 9 1, 3) := by decide +kernel
theorem dX12_loft_145 : decode cX12_loft 145 = .ok (.goto (-63), 3) := by decide +kernel
theorem dX12_loft_148 : decode cX12_loft 148 = .ok (.iload 5, 2) := by decide +kernel
theorem dX12_loft_150 : decode cX12_loft 150 = .ok (.ifCond .ne 8, 3) := by decide +kernel
theorem dX12_loft_153 : decode cX12_loft 153 = .ok (.iload 8, 2) := by decide +kernel
theorem dX12_loft_155 : decode cX12_loft 155 = .ok (.goto 5, 3) := by decide +kernel
theorem dX12_loft_158 : decode cX12_loft 158 = .ok (.iload 7, 2) := by decide +kernel
theorem dX12_loft_160 : decode cX12_loft 160 = .ok (.ireturn, 1) := by decide +kernel
def fX12_loft_j110 (rec : eg_H → Nat → Int32 → Int32 → Int32 → Int32 → Int32 → Int32 → Option (Int32 × Int32 × Int32 × eg_H)) (h : eg_H) (l0 : Nat) (l4 : Int32) (l5 : Int32) (l6 : Int32) (l7 : Int32) (l8 : Int32) (l9 : Int32) (s0 : Int32) : Option (Int32 × Int32 × Int32 × eg_H) :=
  (eg_gR h 12 15 l0).bind fun p1 =>
  (fX11_goodOf h p1 l6 l4 s0).bind fun ⟨v4, h3⟩ =>
  if v4 ≤ l7 then
    (rec h3 l0 l4 l5 l6 l7 l8 (l9 + (1 : Int32)))
  else
    rec h3 l0 l4 l5 l6 v4 s0 (l9 + (1 : Int32))
set_option maxRecDepth 20000 in
theorem fX12_loft_j110_ok {rec : eg_H → Nat → Int32 → Int32 → Int32 → Int32 → Int32 → Int32 → Option (Int32 × Int32 × Int32 × eg_H)} {h0 : eg_H} {Z : eg_C → State → Prop} {N S : Nat} (h : eg_H) (l0 : Nat) (l4 : Int32) (l5 : Int32) (l6 : Int32) (l7 : Int32) (l8 : Int32) (l9 : Int32) (s0 : Int32) (eE : Int32 × Int32 × Int32 × eg_H) (hF : fX12_loft_j110 rec h l0 l4 l5 l6 l7 l8 l9 s0 = some eE) (hrec : ∀ (h : eg_H) (l0 : Nat) (l4 : Int32) (l5 : Int32) (l6 : Int32) (l7 : Int32) (l8 : Int32) (l9 : Int32), rec h l0 l4 l5 l6 l7 l8 l9 = some eE → eg_AW (RX12, cX12_loft, 12, 4, none, "loft", (some .int)) Z N S h0 82 [(0, .ref l0), (4, .int l4), (5, .int l5), (6, .int l6), (7, .int l7), (8, .int l8), (9, .int l9)] [] h) (hk0 : ∀ (l5 : Int32) (l7 : Int32) (l8 : Int32) (h : eg_H), eE = (l5, l7, l8, h) → eg_AW (RX12, cX12_loft, 12, 4, none, "loft", (some .int)) Z N S h0 148 [(5, .int l5), (7, .int l7), (8, .int l8)] [] h) : eg_AW (RX12, cX12_loft, 12, 4, none, "loft", (some .int)) Z N S h0 110 [(0, .ref l0), (4, .int l4), (5, .int l5), (6, .int l6), (7, .int l7), (8, .int l8), (9, .int l9)] [.int s0] h := by
  refine eg_istore (i := 10) [(10, .int s0), (0, .ref l0), (4, .int l4), (5, .int l5), (6, .int l6), (7, .int l7), (8, .int l8), (9, .int l9)] dX12_loft_110 (Nat.le_of_ble_eq_true rfl) rfl ?_
  refine eg_aload_n (i := 0) 1 dX12_loft_112 rfl rfl ?_
  replace hF := eg_bind hF; obtain ⟨p1, e2, hF⟩ := hF
  refine eg_getR dX12_loft_113 e2 (Nat.le_of_ble_eq_true rfl) (Nat.le_of_ble_eq_true rfl) rfl ew_371 ?_
  refine eg_iload (i := 6) 4 dX12_loft_116 rfl ?_
  refine eg_iload (i := 4) 2 dX12_loft_118 rfl ?_
  refine eg_iload (i := 10) 0 dX12_loft_120 rfl ?_
  replace hF := eg_bind hF; obtain ⟨⟨v4, h3⟩, e5, hF⟩ := hF
  refine eg_callV (c := 11) (n := 3) [.int l6, .int l4, .int s0] dX12_loft_122 (mX11_goodOf e5) rfl (fX11_goodOf_O e5) (Nat.le_of_ble_eq_true rfl) rfl ew_820 ew_821 ew_822 ew_106 ew_823 hy_X11_goodOf rfl (Nat.le_of_ble_eq_true rfl) (Nat.le_of_ble_eq_true rfl) (Nat.le_of_ble_eq_true rfl) ?_
  refine eg_istore (i := 11) [(11, .int v4), (10, .int s0), (0, .ref l0), (4, .int l4), (5, .int l5), (6, .int l6), (7, .int l7), (8, .int l8), (9, .int l9)] dX12_loft_125 (Nat.le_of_ble_eq_true rfl) rfl ?_
  refine eg_iload (i := 11) 0 dX12_loft_127 rfl ?_
  refine eg_iload (i := 7) 6 dX12_loft_129 rfl ?_
  refine eg_ic_le 142 dX12_loft_131 rfl (fun c6 => ?_) (fun c6 => ?_)
  · replace hF := eg_it c6 hF
    refine eg_iinc (i := 9) (v := (l9 + (1 : Int32))) 8 [(9, .int (l9 + (1 : Int32))), (11, .int v4), (10, .int s0), (0, .ref l0), (4, .int l4), (5, .int l5), (6, .int l6), (7, .int l7), (8, .int l8)] dX12_loft_142 rfl rfl (Nat.le_of_ble_eq_true rfl) rfl ?_
    refine eg_goto 82 dX12_loft_145 rfl ?_
    exact eg_sub [3, 4, 5, 6, 7, 8, 0] [(0, .ref l0), (4, .int l4), (5, .int l5), (6, .int l6), (7, .int l7), (8, .int l8), (9, .int (l9 + (1 : Int32)))] rfl (hrec h3 l0 l4 l5 l6 l7 l8 (l9 + (1 : Int32)) hF)
  · replace hF := eg_if c6 hF
    refine eg_iload (i := 11) 0 dX12_loft_134 rfl ?_
    refine eg_istore (i := 7) [(7, .int v4), (11, .int v4), (10, .int s0), (0, .ref l0), (4, .int l4), (5, .int l5), (6, .int l6), (8, .int l8), (9, .int l9)] dX12_loft_136 (Nat.le_of_ble_eq_true rfl) rfl ?_
    refine eg_iload (i := 10) 2 dX12_loft_138 rfl ?_
    refine eg_istore (i := 8) [(8, .int s0), (7, .int v4), (11, .int v4), (10, .int s0), (0, .ref l0), (4, .int l4), (5, .int l5), (6, .int l6), (9, .int l9)] dX12_loft_140 (Nat.le_of_ble_eq_true rfl) rfl ?_
    refine eg_iinc (i := 9) (v := (l9 + (1 : Int32))) 8 [(9, .int (l9 + (1 : Int32))), (8, .int s0), (7, .int v4), (11, .int v4), (10, .int s0), (0, .ref l0), (4, .int l4), (5, .int l5), (6, .int l6)] dX12_loft_142 rfl rfl (Nat.le_of_ble_eq_true rfl) rfl ?_
    refine eg_goto 82 dX12_loft_145 rfl ?_
    exact eg_sub [5, 6, 7, 8, 2, 1, 0] [(0, .ref l0), (4, .int l4), (5, .int l5), (6, .int l6), (7, .int v4), (8, .int s0), (9, .int (l9 + (1 : Int32)))] rfl (hrec h3 l0 l4 l5 l6 v4 s0 (l9 + (1 : Int32)) hF)
def fX12_loft_L82 : Nat → eg_H → Nat → Int32 → Int32 → Int32 → Int32 → Int32 → Int32 → Option (Int32 × Int32 × Int32 × eg_H)
  | 0, _, _, _, _, _, _, _, _ => none
  | n + 1, h, l0, l4, l5, l6, l7, l8, l9 =>
    if (10 : Int32) < l9 then
      (some (l5, l7, l8, h))
    else
      if (l9 % (2 : Int32)) = 0 then
        (fX12_loft_j110 (fX12_loft_L82 n) h l0 l4 l5 l6 l7 l8 l9 (l9 / (2 : Int32)))
      else
        fX12_loft_j110 (fX12_loft_L82 n) h l0 l4 l5 l6 l7 l8 l9 ((-(l9 + (1 : Int32))) / (2 : Int32))
set_option maxRecDepth 20000 in
theorem fX12_loft_L82_ok {h0 : eg_H} {Z : eg_C → State → Prop} {N S : Nat} : ∀ (n : Nat) (h : eg_H) (l0 : Nat) (l4 : Int32) (l5 : Int32) (l6 : Int32) (l7 : Int32) (l8 : Int32) (l9 : Int32) (eE : Int32 × Int32 × Int32 × eg_H), fX12_loft_L82 n h l0 l4 l5 l6 l7 l8 l9 = some eE → (hk0 : ∀ (l5 : Int32) (l7 : Int32) (l8 : Int32) (h : eg_H), eE = (l5, l7, l8, h) → eg_AW (RX12, cX12_loft, 12, 4, none, "loft", (some .int)) Z N S h0 148 [(5, .int l5), (7, .int l7), (8, .int l8)] [] h) → eg_AW (RX12, cX12_loft, 12, 4, none, "loft", (some .int)) Z N S h0 82 [(0, .ref l0), (4, .int l4), (5, .int l5), (6, .int l6), (7, .int l7), (8, .int l8), (9, .int l9)] [] h := by
  intro n
  induction n with
  | zero => intro h l0 l4 l5 l6 l7 l8 l9 eE hF; exact absurd hF (by intro q; cases q)
  | succ n ih =>
    intro h l0 l4 l5 l6 l7 l8 l9 eE hF hk0
    have hrec := fun (h' : eg_H) (l0 : Nat) (l4 : Int32) (l5 : Int32) (l6 : Int32) (l7 : Int32) (l8 : Int32) (l9 : Int32) hq => ih h' l0 l4 l5 l6 l7 l8 l9 eE hq hk0
    refine eg_iload (i := 9) 6 dX12_loft_82 rfl ?_
    refine eg_bipush (v := (10 : Int32)) dX12_loft_84 (by decide) ?_
    refine eg_ic_gt 148 dX12_loft_86 rfl (fun c1 => ?_) (fun c1 => ?_)
    · replace hF := eg_it c1 hF
      exact eg_sub [2, 4, 5] [(5, .int l5), (7, .int l7), (8, .int l8)] rfl (hk0 l5 l7 l8 h (Option.some.inj hF).symm)
    · replace hF := eg_if c1 hF
      refine eg_iload (i := 9) 6 dX12_loft_89 rfl ?_
      refine eg_iconst (v := (2 : Int32)) dX12_loft_91 (by decide) ?_
      refine eg_irem dX12_loft_92 (by decide) ?_
      refine eg_if_ne 103 dX12_loft_93 rfl (fun c2 => ?_) (fun c2 => ?_)
      · replace hF := eg_it c2 hF
        refine eg_iload (i := 9) 6 dX12_loft_96 rfl ?_
        refine eg_iconst (v := (2 : Int32)) dX12_loft_98 (by decide) ?_
        refine eg_idiv dX12_loft_99 (by decide) ?_
        refine eg_goto 110 dX12_loft_100 rfl ?_
        exact (fX12_loft_j110_ok h l0 l4 l5 l6 l7 l8 l9 (l9 / (2 : Int32)) eE hF hrec hk0)
      · replace hF := eg_if c2 hF
        refine eg_iload (i := 9) 6 dX12_loft_103 rfl ?_
        refine eg_iconst (v := (1 : Int32)) dX12_loft_105 (by decide) ?_
        refine eg_iadd dX12_loft_106 ?_
        refine eg_ineg dX12_loft_107 ?_
        refine eg_iconst (v := (2 : Int32)) dX12_loft_108 (by decide) ?_
        refine eg_idiv dX12_loft_109 (by decide) ?_
        exact (fX12_loft_j110_ok h l0 l4 l5 l6 l7 l8 l9 ((-(l9 + (1 : Int32))) / (2 : Int32)) eE hF hrec hk0)
def fX12_loft (h : eg_H) (l0 : Nat) (l1 : Int32) (l2 : Int32) (l3 : Int32) (l4 : Int32) (l5 : Int32) : Option (Int32 × eg_H) :=
  if eg_isO h 12 l0 then (
    (fX12_isThrow h l0 l1 l2 l3).bind fun ⟨v2, h1⟩ =>
    if v2 = 0 then
      (some ((-1000000 : Int32), h1))
    else
      if l5 < 0 then
        (some ((-1000000 : Int32), h1))
      else
        if l5 ≤ (1 : Int32) then
          ((eg_gR h1 12 15 l0).bind fun p7 =>
          (eg_gR h1 12 3 l0).bind fun p9 =>
          (fX7_told h1 p9 (0 : Int32)).bind fun ⟨v12, h11⟩ =>
          (fX11_take h11 p7 l1 l2 v12).bind fun h14 =>
          if l4 < 0 then
            (some ((-1000000 : Int32), h14))
          else
            (eg_gR h14 12 15 l0).bind fun p17 =>
            (fX11_highest h14 p17).bind fun ⟨v20, h19⟩ =>
            if l4 ≤ v20 then
              ((eg_gR h19 12 15 l0).bind fun p23 =>
              (fX11_wholes h19 p23 l3 l4).bind fun ⟨v26, h25⟩ =>
              (fX12_loft_L82 eg_F h25 l0 l4 l5 v26 (-1 : Int32) (0 : Int32) (0 : Int32)).bind fun e =>
              match e with
              | (v30, v31, v32, h33) =>
                if v30 = 0 then
                  (some (v32, h33))
                else
                  some (v31, h33))
            else
              some ((-1000000 : Int32), h19))
        else
          some ((-1000000 : Int32), h1)) else none
theorem fX12_loft_O {h : eg_H} {l0 : Nat} {l1 : Int32} {l2 : Int32} {l3 : Int32} {l4 : Int32} {l5 : Int32} {rE : Int32} {hE : eg_H} (hF : fX12_loft h l0 l1 l2 l3 l4 l5 = some (rE, hE)) : eg_isO h 12 l0 := (eg_ifn hF).1
set_option maxRecDepth 20000 in
theorem mX12_loft {h : eg_H} {l0 : Nat} {l1 : Int32} {l2 : Int32} {l3 : Int32} {l4 : Int32} {l5 : Int32} {rE : Int32} {hE : eg_H} (hF : fX12_loft h l0 l1 l2 l3 l4 l5 = some (rE, hE)) : eg_Met yX12_loft cX12_loft 12 (some .int) 4 [.ref l0, .int l1, .int l2, .int l3, .int l4, .int l5] h (some (.int rE)) hE := by
  refine eg_enter rfl (Nat.le_of_ble_eq_true rfl) ?_
  show eg_AW (RX12, cX12_loft, 12, 4, none, "loft", (some .int)) (eg_Zm (some (.int rE)) hE h) (eg_nc hE) (eg_ns hE) h 0 [(0, .ref l0), (1, .int l1), (2, .int l2), (3, .int l3), (4, .int l4), (5, .int l5)] [] h
  replace hF := (eg_ifn hF).2
  refine eg_aload_n (i := 0) 0 dX12_loft_0 rfl rfl ?_
  refine eg_iload_n (i := 1) 1 dX12_loft_1 rfl rfl ?_
  refine eg_iload_n (i := 2) 2 dX12_loft_2 rfl rfl ?_
  refine eg_iload_n (i := 3) 3 dX12_loft_3 rfl rfl ?_
  replace hF := eg_bind hF; obtain ⟨⟨v2, h1⟩, e3, hF⟩ := hF
  refine eg_callV (c := 12) (n := 3) [.int l1, .int l2, .int l3] dX12_loft_4 (mX12_isThrow e3) rfl (fX12_isThrow_O e3) (Nat.le_of_ble_eq_true rfl) rfl ew_782 ew_784 ew_23 ew_100 ew_785 hy_X12_isThrow rfl (Nat.le_of_ble_eq_true rfl) (Nat.le_of_ble_eq_true rfl) (Nat.le_of_ble_eq_true rfl) ?_
  refine eg_if_eq 21 dX12_loft_7 rfl (fun c4 => ?_) (fun c4 => ?_)
  · replace hF := eg_it c4 hF
    refine eg_ldc (v := (-1000000 : Int32)) dX12_loft_21 ew_739 ?_
    exact eg_iretE dX12_loft_23 hF
  · replace hF := eg_if c4 hF
    refine eg_iload (i := 5) 5 dX12_loft_10 rfl ?_
    refine eg_if_lt 21 dX12_loft_12 rfl (fun c5 => ?_) (fun c5 => ?_)
    · replace hF := eg_it c5 hF
      refine eg_ldc (v := (-1000000 : Int32)) dX12_loft_21 ew_739 ?_
      exact eg_iretE dX12_loft_23 hF
    · replace hF := eg_if c5 hF
      refine eg_iload (i := 5) 5 dX12_loft_15 rfl ?_
      refine eg_iconst (v := (1 : Int32)) dX12_loft_17 (by decide) ?_
      refine eg_ic_le 24 dX12_loft_18 rfl (fun c6 => ?_) (fun c6 => ?_)
      · replace hF := eg_it c6 hF
        refine eg_aload_n (i := 0) 0 dX12_loft_24 rfl rfl ?_
        replace hF := eg_bind hF; obtain ⟨p7, e8, hF⟩ := hF
        refine eg_getR dX12_loft_25 e8 (Nat.le_of_ble_eq_true rfl) (Nat.le_of_ble_eq_true rfl) rfl ew_371 ?_
        refine eg_iload_n (i := 1) 1 dX12_loft_28 rfl rfl ?_
        refine eg_iload_n (i := 2) 2 dX12_loft_29 rfl rfl ?_
        refine eg_aload_n (i := 0) 0 dX12_loft_30 rfl rfl ?_
        replace hF := eg_bind hF; obtain ⟨p9, e10, hF⟩ := hF
        refine eg_getR dX12_loft_31 e10 (Nat.le_of_ble_eq_true rfl) (Nat.le_of_ble_eq_true rfl) rfl ew_359 ?_
        refine eg_iconst (v := (0 : Int32)) dX12_loft_34 (by decide) ?_
        replace hF := eg_bind hF; obtain ⟨⟨v12, h11⟩, e13, hF⟩ := hF
        refine eg_callV (c := 7) (n := 1) [.int (0 : Int32)] dX12_loft_35 (mX7_told e13) rfl (fX7_told_O e13) (Nat.le_of_ble_eq_true rfl) rfl ew_717 ew_718 ew_719 ew_104 ew_720 hy_X7_told rfl (Nat.le_of_ble_eq_true rfl) (Nat.le_of_ble_eq_true rfl) (Nat.le_of_ble_eq_true rfl) ?_
        replace hF := eg_bind hF; obtain ⟨h14, e15, hF⟩ := hF
        refine eg_callV (c := 11) (n := 3) [.int l1, .int l2, .int v12] dX12_loft_38 (mX11_take e15) rfl (fX11_take_O e15) (Nat.le_of_ble_eq_true rfl) rfl ew_802 ew_803 ew_804 ew_106 ew_805 hy_X11_take rfl (Nat.le_of_ble_eq_true rfl) (Nat.le_of_ble_eq_true rfl) (Nat.le_of_ble_eq_true rfl) ?_
        refine eg_iload (i := 4) 4 dX12_loft_41 rfl ?_
        refine eg_if_lt 58 dX12_loft_43 rfl (fun c16 => ?_) (fun c16 => ?_)
        · replace hF := eg_it c16 hF
          refine eg_ldc (v := (-1000000 : Int32)) dX12_loft_58 ew_739 ?_
          exact eg_iretE dX12_loft_60 hF
        · replace hF := eg_if c16 hF
          refine eg_iload (i := 4) 4 dX12_loft_46 rfl ?_
          refine eg_aload_n (i := 0) 0 dX12_loft_48 rfl rfl ?_
          replace hF := eg_bind hF; obtain ⟨p17, e18, hF⟩ := hF
          refine eg_getR dX12_loft_49 e18 (Nat.le_of_ble_eq_true rfl) (Nat.le_of_ble_eq_true rfl) rfl ew_371 ?_
          replace hF := eg_bind hF; obtain ⟨⟨v20, h19⟩, e21, hF⟩ := hF
          refine eg_callV (c := 11) (n := 0) [] dX12_loft_52 (mX11_highest e21) rfl (fX11_highest_O e21) (Nat.le_of_ble_eq_true rfl) rfl ew_914 ew_915 ew_916 ew_106 ew_917 hy_X11_highest rfl (Nat.le_of_ble_eq_true rfl) (Nat.le_of_ble_eq_true rfl) (Nat.le_of_ble_eq_true rfl) ?_
          refine eg_ic_le 61 dX12_loft_55 rfl (fun c22 => ?_) (fun c22 => ?_)
          · replace hF := eg_it c22 hF
            refine eg_aload_n (i := 0) 0 dX12_loft_61 rfl rfl ?_
            replace hF := eg_bind hF; obtain ⟨p23, e24, hF⟩ := hF
            refine eg_getR dX12_loft_62 e24 (Nat.le_of_ble_eq_true rfl) (Nat.le_of_ble_eq_true rfl) rfl ew_371 ?_
            refine eg_iload_n (i := 3) 3 dX12_loft_65 rfl rfl ?_
            refine eg_iload (i := 4) 4 dX12_loft_66 rfl ?_
            replace hF := eg_bind hF; obtain ⟨⟨v26, h25⟩, e27, hF⟩ := hF
            refine eg_callV (c := 11) (n := 2) [.int l3, .int l4] dX12_loft_68 (mX11_wholes e27) rfl (fX11_wholes_O e27) (Nat.le_of_ble_eq_true rfl) rfl ew_815 ew_816 ew_817 ew_106 ew_818 hy_X11_wholes rfl (Nat.le_of_ble_eq_true rfl) (Nat.le_of_ble_eq_true rfl) (Nat.le_of_ble_eq_true rfl) ?_
            refine eg_istore (i := 6) [(6, .int v26), (0, .ref l0), (1, .int l1), (2, .int l2), (3, .int l3), (4, .int l4), (5, .int l5)] dX12_loft_71 (Nat.le_of_ble_eq_true rfl) rfl ?_
            refine eg_iconst (v := (-1 : Int32)) dX12_loft_73 (by decide) ?_
            refine eg_istore (i := 7) [(7, .int (-1 : Int32)), (6, .int v26), (0, .ref l0), (1, .int l1), (2, .int l2), (3, .int l3), (4, .int l4), (5, .int l5)] dX12_loft_74 (Nat.le_of_ble_eq_true rfl) rfl ?_
            refine eg_iconst (v := (0 : Int32)) dX12_loft_76 (by decide) ?_
            refine eg_istore (i := 8) [(8, .int (0 : Int32)), (7, .int (-1 : Int32)), (6, .int v26), (0, .ref l0), (1, .int l1), (2, .int l2), (3, .int l3), (4, .int l4), (5, .int l5)] dX12_loft_77 (Nat.le_of_ble_eq_true rfl) rfl ?_
            refine eg_iconst (v := (0 : Int32)) dX12_loft_79 (by decide) ?_
            refine eg_istore (i := 9) [(9, .int (0 : Int32)), (8, .int (0 : Int32)), (7, .int (-1 : Int32)), (6, .int v26), (0, .ref l0), (1, .int l1), (2, .int l2), (3, .int l3), (4, .int l4), (5, .int l5)] dX12_loft_80 (Nat.le_of_ble_eq_true rfl) rfl ?_
            replace hF := eg_bind hF; obtain ⟨x29, e28, hF⟩ := hF
            refine eg_sub [4, 8, 9, 3, 2, 1, 0] [(0, .ref l0), (4, .int l4), (5, .int l5), (6, .int v26), (7, .int (-1 : Int32)), (8, .int (0 : Int32)), (9, .int (0 : Int32))] rfl (fX12_loft_L82_ok eg_F h25 l0 l4 l5 v26 (-1 : Int32) (0 : Int32) (0 : Int32) x29 e28 ?_)
            · intro v30 v31 v32 h33 e35
              subst e35
              refine eg_iload (i := 5) 0 dX12_loft_148 rfl ?_
              refine eg_if_ne 158 dX12_loft_150 rfl (fun c34 => ?_) (fun c34 => ?_)
              · replace hF := eg_it c34 hF
                refine eg_iload (i := 8) 2 dX12_loft_153 rfl ?_
                refine eg_goto 160 dX12_loft_155 rfl ?_
                exact eg_iretE dX12_loft_160 hF
              · replace hF := eg_if c34 hF
                refine eg_iload (i := 7) 1 dX12_loft_158 rfl ?_
                exact eg_iretE dX12_loft_160 hF
          · replace hF := eg_if c22 hF
            refine eg_ldc (v := (-1000000 : Int32)) dX12_loft_58 ew_739 ?_
            exact eg_iretE dX12_loft_60 hF
      · replace hF := eg_if c6 hF
        refine eg_ldc (v := (-1000000 : Int32)) dX12_loft_21 ew_739 ?_
        exact eg_iretE dX12_loft_23 hF
