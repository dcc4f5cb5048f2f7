theorem dX13_feed_0 : decode cX13_feed 0 = .ok (.aload_n 0, 1) := by decide +kernel
theorem dX13_feed_1 : decode cX13_feed 1 = .ok (.iconst 0, 1) := by decide +kernel
theorem dX13_feed_2 : decode cX13_feed 2 = .ok (.putfield 148, 3) := by decide +kernel
theorem dX13_feed_5 : decode cX13_feed 5 = .ok (.aload_n 0, 1) := by decide +kernel
theorem dX13_feed_6 : decode cX13_feed 6 = .ok (.getfield 161, 3) := by decide +kernel
theorem dX13_feed_9 : decode cX13_feed 9 = .ok (.iload_n 1, 1) := by decide +kernel
theorem dX13_feed_10 : decode cX13_feed 10 = .ok (.invokestatic 163, 3) := by decide +kernel
theorem dX13_feed_13 : decode cX13_feed 13 = .ok (.iadd, 1) := by decide +kernel
theorem dX13_feed_14 : decode cX13_feed 14 = .ok (.iload_n 2, 1) := by decide +kernel
theorem dX13_feed_15 : decode cX13_feed 15 = .ok (.invokestatic 163, 3) := by decide +kernel
theorem dX13_feed_18 : decode cX13_feed 18 = .ok (.iadd, 1) := by decide +kernel
theorem dX13_feed_19 : decode cX13_feed 19 = .ok (.iload_n 3, 1) := by decide +kernel
theorem dX13_feed_20 : decode cX13_feed 20 = .ok (.invokestatic 163, 3) := by decide +kernel
theorem dX13_feed_23 : decode cX13_feed 23 = .ok (.iadd, 1) := by decide +kernel
theorem dX13_feed_24 : decode cX13_feed 24 = .ok (.iload 4, 2) := by decide +kernel
theorem dX13_feed_26 : decode cX13_feed 26 = .ok (.invokestatic 163, 3) := by decide +kernel
theorem dX13_feed_29 : decode cX13_feed 29 = .ok (.iadd, 1) := by decide +kernel
theorem dX13_feed_30 : decode cX13_feed 30 = .ok (.iload 5, 2) := by decide +kernel
theorem dX13_feed_32 : decode cX13_feed 32 = .ok (.invokestatic 163, 3) := by decide +kernel
theorem dX13_feed_35 : decode cX13_feed 35 = .ok (.iadd, 1) := by decide +kernel
theorem dX13_feed_36 : decode cX13_feed 36 = .ok (.sipush 160, 3) := by decide +kernel
theorem dX13_feed_39 : decode cX13_feed 39 = .ok (.if_icmp .le 5, 3) := by decide +kernel
theorem dX13_feed_42 : decode cX13_feed 42 = .ok (.iconst (-1), 1) := by decide +kernel
theorem dX13_feed_43 : decode cX13_feed 43 = .ok (.ireturn, 1) := by decide +kernel
theorem dX13_feed_44 : decode cX13_feed 44 = .ok (.aload_n 0, 1) := by decide +kernel
theorem dX13_feed_45 : decode cX13_feed 45 = .ok (.iload_n 1, 1) := by decide +kernel
theorem dX13_feed_46 : decode cX13_feed 46 = .ok (.invokevirtual 167, 3) := by decide +kernel
theorem dX13_feed_49 : decode cX13_feed 49 = .ok (.aload_n 0, 1) := by decide +kernel
theorem dX13_feed_50 : decode cX13_feed 50 = .ok (.iload_n 2, 1) := by decide +kernel
theorem dX13_feed_51 : decode cX13_feed 51 = .ok (.invokevirtual 167, 3) := by decide +kernel
theorem dX13_feed_54 : decode cX13_feed 54 = .ok (.aload_n 0, 1) := by decide +kernel
theorem dX13_feed_55 : decode cX13_feed 55 = .ok (.iload_n 3, 1) := by decide +kernel
theorem dX13_feed_56 : decode cX13_feed 56 = .ok (.invokevirtual 167, 3) := by decide +kernel
theorem dX13_feed_59 : decode cX13_feed 59 = .ok (.aload_n 0, 1) := by decide +kernel
theorem dX13_feed_60 : decode cX13_feed 60 = .ok (.iload 4, 2) := by decide +kernel
theorem dX13_feed_62 : decode cX13_feed 62 = .ok (.invokevirtual 167, 3) := by decide +kernel
theorem dX13_feed_65 : decode cX13_feed 65 = .ok (.aload_n 0, 1) := by decide +kernel
theorem dX13_feed_66 : decode cX13_feed 66 = .ok (.iload 5, 2) := by decide +kernel
theorem dX13_feed_68 : decode cX13_feed 68 = .ok (.invokevirtual 167, 3) := by decide +kernel
theorem dX13_feed_71 : decode cX13_feed 71 = .ok (.aload_n 0, 1) := by decide +kernel
theorem dX13_feed_72 : decode cX13_feed 72 = .ok (.getfield 161, 3) := by decide +kernel
theorem dX13_feed_75 : decode cX13_feed 75 = .ok (.ireturn, 1) := by decide +kernel
def fX13_feed (h : eg_H) (l0 : Nat) (l1 : Int32) (l2 : Int32) (l3 : Int32) (l4 : Int32) (l5 : Int32) : Option (Int32 × eg_H) :=
  if eg_isO h 13 l0 then (
    (eg_pI h 13 0 l0 (0 : Int32)).bind fun h1 =>
    (eg_gI h1 13 6 l0).bind fun v3 =>
    (fX13_bytesIn h1 l1).bind fun ⟨v6, h5⟩ =>
    (fX13_bytesIn h5 l2).bind fun ⟨v9, h8⟩ =>
    (fX13_bytesIn h8 l3).bind fun ⟨v12, h11⟩ =>
    (fX13_bytesIn h11 l4).bind fun ⟨v15, h14⟩ =>
    (fX13_bytesIn h14 l5).bind fun ⟨v18, h17⟩ =>
    if (((((v3 + v6) + v9) + v12) + v15) + v18) ≤ (160 : Int32) then
      ((fX13_put h17 l0 l1).bind fun h21 =>
      (fX13_put h21 l0 l2).bind fun h23 =>
      (fX13_put h23 l0 l3).bind fun h25 =>
      (fX13_put h25 l0 l4).bind fun h27 =>
      (fX13_put h27 l0 l5).bind fun h29 =>
      (eg_gI h29 13 6 l0).bind fun v31 =>
      some (v31, h29))
    else
      some ((-1 : Int32), h17)) else none
theorem fX13_feed_O {h : eg_H} {l0 : Nat} {l1 : Int32} {l2 : Int32} {l3 : Int32} {l4 : Int32} {l5 : Int32} {rE : Int32} {hE : eg_H} (hF : fX13_feed h l0 l1 l2 l3 l4 l5 = some (rE, hE)) : eg_isO h 13 l0 := (eg_ifn hF).1
set_option maxRecDepth 20000 in
theorem mX13_feed {h : eg_H} {l0 : Nat} {l1 : Int32} {l2 : Int32} {l3 : Int32} {l4 : Int32} {l5 : Int32} {rE : Int32} {hE : eg_H} (hF : fX13_feed h l0 l1 l2 l3 l4 l5 = some (rE, hE)) : eg_Met yX13_feed cX13_feed 6 (some .int) 2 [.ref l0, .int l1, .int l2, .int l3, .int l4, .int l5] h (some (.int rE)) hE := by
  refine eg_enter rfl (Nat.le_of_ble_eq_true rfl) ?_
  show eg_AW (RX13, cX13_feed, 6, 2, none, "feed", (some .int)) (eg_Zm (some (.int rE)) hE h) (eg_nc hE) (eg_ns hE) h 0 [(0, .ref l0), (1, .int l1), (2, .int l2), (3, .int l3), (4, .int l4), (5, .int l5)] [] h
  replace hF := (eg_ifn hF).2
  refine eg_aload_n (i := 0) 0 dX13_feed_0 rfl rfl ?_
  refine eg_iconst (v := (0 : Int32)) dX13_feed_1 (by decide) ?_
  replace hF := eg_bind hF; obtain ⟨h1, e2, hF⟩ := hF
  refine eg_putI dX13_feed_2 e2 (Nat.le_of_ble_eq_true rfl) (Nat.le_of_ble_eq_true rfl) rfl ew_1434 (Or.inl rfl) ?_
  refine eg_aload_n (i := 0) 0 dX13_feed_5 rfl rfl ?_
  replace hF := eg_bind hF; obtain ⟨v3, e4, hF⟩ := hF
  refine eg_getI dX13_feed_6 e4 (Nat.le_of_ble_eq_true rfl) (Nat.le_of_ble_eq_true rfl) rfl ew_1440 ?_
  refine eg_iload_n (i := 1) 1 dX13_feed_9 rfl rfl ?_
  replace hF := eg_bind hF; obtain ⟨⟨v6, h5⟩, e7, hF⟩ := hF
  refine eg_callS (n := 1) [.int l1] dX13_feed_10 (mX13_bytesIn e7) rfl ew_1681 ew_1682 ew_110 ew_1683 hy_X13_bytesIn.2 rfl (Nat.le_of_ble_eq_true rfl) (Nat.le_of_ble_eq_true rfl) (Nat.le_of_ble_eq_true rfl) ?_
  refine eg_iadd dX13_feed_13 ?_
  refine eg_iload_n (i := 2) 2 dX13_feed_14 rfl rfl ?_
  replace hF := eg_bind hF; obtain ⟨⟨v9, h8⟩, e10, hF⟩ := hF
  refine eg_callS (n := 1) [.int l2] dX13_feed_15 (mX13_bytesIn e10) rfl ew_1681 ew_1682 ew_110 ew_1683 hy_X13_bytesIn.2 rfl (Nat.le_of_ble_eq_true rfl) (Nat.le_of_ble_eq_true rfl) (Nat.le_of_ble_eq_true rfl) ?_
  refine eg_iadd dX13_feed_18 ?_
  refine eg_iload_n (i := 3) 3 dX13_feed_19 rfl rfl ?_
  replace hF := eg_bind hF; obtain ⟨⟨v12, h11⟩, e13, hF⟩ := hF
  refine eg_callS (n := 1) [.int l3] dX13_feed_20 (mX13_bytesIn e13) rfl ew_1681 ew_1682 ew_110 ew_1683 hy_X13_bytesIn.2 rfl (Nat.le_of_ble_eq_true rfl) (Nat.le_of_ble_eq_true rfl) (Nat.le_of_ble_eq_true rfl) ?_
  refine eg_iadd dX13_feed_23 ?_
  refine eg_iload (i := 4) 4 dX13_feed_24 rfl ?_
  replace hF := eg_bind hF; obtain ⟨⟨v15, h14⟩, e16, hF⟩ := hF
  refine eg_callS (n := 1) [.int l4] dX13_feed_26 (mX13_bytesIn e16) rfl ew_1681 ew_1682 ew_110 ew_1683 hy_X13_bytesIn.2 rfl (Nat.le_of_ble_eq_true rfl) (Nat.le_of_ble_eq_true rfl) (Nat.le_of_ble_eq_true rfl) ?_
  refine eg_iadd dX13_feed_29 ?_
  refine eg_iload (i := 5) 5 dX13_feed_30 rfl ?_
  replace hF := eg_bind hF; obtain ⟨⟨v18, h17⟩, e19, hF⟩ := hF
  refine eg_callS (n := 1) [.int l5] dX13_feed_32 (mX13_bytesIn e19) rfl ew_1681 ew_1682 ew_110 ew_1683 hy_X13_bytesIn.2 rfl (Nat.le_of_ble_eq_true rfl) (Nat.le_of_ble_eq_true rfl) (Nat.le_of_ble_eq_true rfl) ?_
  refine eg_iadd dX13_feed_35 ?_
  refine eg_sipush (v := (160 : Int32)) dX13_feed_36 (by decide) ?_
  refine eg_ic_le 44 dX13_feed_39 rfl (fun c20 => ?_) (fun c20 => ?_)
  · replace hF := eg_it c20 hF
    refine eg_aload_n (i := 0) 0 dX13_feed_44 rfl rfl ?_
    refine eg_iload_n (i := 1) 1 dX13_feed_45 rfl rfl ?_
    replace hF := eg_bind hF; obtain ⟨h21, e22, hF⟩ := hF
    refine eg_callV (c := 13) (n := 1) [.int l1] dX13_feed_46 (mX13_put e22) rfl (fX13_put_O e22) (Nat.le_of_ble_eq_true rfl) rfl ew_1684 ew_1686 ew_50 ew_110 ew_1687 hy_X13_put rfl (Nat.le_of_ble_eq_true rfl) (Nat.le_of_ble_eq_true rfl) (Nat.le_of_ble_eq_true rfl) ?_
    refine eg_aload_n (i := 0) 0 dX13_feed_49 rfl rfl ?_
    refine eg_iload_n (i := 2) 2 dX13_feed_50 rfl rfl ?_
    replace hF := eg_bind hF; obtain ⟨h23, e24, hF⟩ := hF
    refine eg_callV (c := 13) (n := 1) [.int l2] dX13_feed_51 (mX13_put e24) rfl (fX13_put_O e24) (Nat.le_of_ble_eq_true rfl) rfl ew_1684 ew_1686 ew_50 ew_110 ew_1687 hy_X13_put rfl (Nat.le_of_ble_eq_true rfl) (Nat.le_of_ble_eq_true rfl) (Nat.le_of_ble_eq_true rfl) ?_
    refine eg_aload_n (i := 0) 0 dX13_feed_54 rfl rfl ?_
    refine eg_iload_n (i := 3) 3 dX13_feed_55 rfl rfl ?_
    replace hF := eg_bind hF; obtain ⟨h25, e26, hF⟩ := hF
    refine eg_callV (c := 13) (n := 1) [.int l3] dX13_feed_56 (mX13_put e26) rfl (fX13_put_O e26) (Nat.le_of_ble_eq_true rfl) rfl ew_1684 ew_1686 ew_50 ew_110 ew_1687 hy_X13_put rfl (Nat.le_of_ble_eq_true rfl) (Nat.le_of_ble_eq_true rfl) (Nat.le_of_ble_eq_true rfl) ?_
    refine eg_aload_n (i := 0) 0 dX13_feed_59 rfl rfl ?_
    refine eg_iload (i := 4) 4 dX13_feed_60 rfl ?_
    replace hF := eg_bind hF; obtain ⟨h27, e28, hF⟩ := hF
    refine eg_callV (c := 13) (n := 1) [.int l4] dX13_feed_62 (mX13_put e28) rfl (fX13_put_O e28) (Nat.le_of_ble_eq_true rfl) rfl ew_1684 ew_1686 ew_50 ew_110 ew_1687 hy_X13_put rfl (Nat.le_of_ble_eq_true rfl) (Nat.le_of_ble_eq_true rfl) (Nat.le_of_ble_eq_true rfl) ?_
    refine eg_aload_n (i := 0) 0 dX13_feed_65 rfl rfl ?_
    refine eg_iload (i := 5) 5 dX13_feed_66 rfl ?_
    replace hF := eg_bind hF; obtain ⟨h29, e30, hF⟩ := hF
    refine eg_callV (c := 13) (n := 1) [.int l5] dX13_feed_68 (mX13_put e30) rfl (fX13_put_O e30) (Nat.le_of_ble_eq_true rfl) rfl ew_1684 ew_1686 ew_50 ew_110 ew_1687 hy_X13_put rfl (Nat.le_of_ble_eq_true rfl) (Nat.le_of_ble_eq_true rfl) (Nat.le_of_ble_eq_true rfl) ?_
    refine eg_aload_n (i := 0) 0 dX13_feed_71 rfl rfl ?_
    replace hF := eg_bind hF; obtain ⟨v31, e32, hF⟩ := hF
    refine eg_getI dX13_feed_72 e32 (Nat.le_of_ble_eq_true rfl) (Nat.le_of_ble_eq_true rfl) rfl ew_1440 ?_
    exact eg_iretE dX13_feed_75 hF
  · replace hF := eg_if c20 hF
    refine eg_iconst (v := (-1 : Int32)) dX13_feed_42 (by decide) ?_
    exact eg_iretE dX13_feed_43 hF
theorem dX13_end_0 : decode cX13_end 0 = .ok (.aload_n 0, 1) := by decide +kernel
theorem dX13_end_1 : decode cX13_end 1 = .ok (.iconst 0, 1) := by decide +kernel
theorem dX13_end_2 : decode cX13_end 2 = .ok (.putfield 148, 3) := by decide +kernel
theorem dX13_end_5 : decode cX13_end 5 = .ok (.iload_n 1, 1) := by decide +kernel
theorem dX13_end_6 : decode cX13_end 6 = .ok (.ifCond .lt 11, 3) := by decide +kernel
theorem dX13_end_9 : decode cX13_end 9 = .ok (.iload_n 1, 1) := by decide +kernel
theorem dX13_end_10 : decode cX13_end 10 = .ok (.aload_n 0, 1) := by decide +kernel
theorem dX13_end_11 : decode cX13_end 11 = .ok (.getfield 161, 3) := by decide +kernel
theorem dX13_end_14 : decode cX13_end 14 = .ok (.if_icmp .le 5, 3) := by decide +kernel
theorem dX13_end_17 : decode cX13_end 17 = .ok (.iconst 0, 1) := by decide +kernel
theorem dX13_end_18 : decode cX13_end 18 = .ok (.ireturn, 1) := by decide +kernel
theorem dX13_end_19 : decode cX13_end 19 = .ok (.aload_n 0, 1) := by decide +kernel
theorem dX13_end_20 : decode cX13_end 20 = .ok (.iload_n 1, 1) := by decide +kernel
theorem dX13_end_21 : decode cX13_end 21 = .ok (.putfield 161, 3) := by decide +kernel
theorem dX13_end_24 : decode cX13_end 24 = .ok (.iconst 1, 1) := by decide +kernel
theorem dX13_end_25 : decode cX13_end 25 = .ok (.ireturn, 1) := by decide +kernel
def fX13_end (h : eg_H) (l0 : Nat) (l1 : Int32) : Option (Int32 × eg_H) :=
  if eg_isO h 13 l0 then (
    (eg_pI h 13 0 l0 (0 : Int32)).bind fun h1 =>
    if l1 < 0 then
      (some ((0 : Int32), h1))
    else
      (eg_gI h1 13 6 l0).bind fun v4 =>
      if l1 ≤ v4 then
        ((eg_pI h1 13 6 l0 l1).bind fun h7 =>
        some ((1 : Int32), h7))
      else
        some ((0 : Int32), h1)) else none
theorem fX13_end_O {h : eg_H} {l0 : Nat} {l1 : Int32} {rE : Int32} {hE : eg_H} (hF : fX13_end h l0 l1 = some (rE, hE)) : eg_isO h 13 l0 := (eg_ifn hF).1
set_option maxRecDepth 20000 in
theorem mX13_end {h : eg_H} {l0 : Nat} {l1 : Int32} {rE : Int32} {hE : eg_H} (hF : fX13_end h l0 l1 = some (rE, hE)) : eg_Met yX13_end cX13_end 2 (some .boolean) 1 [.ref l0, .int l1] h (some (.int rE)) hE := by
  refine eg_enter rfl (Nat.le_of_ble_eq_true rfl) ?_
  show eg_AW (RX13, cX13_end, 2, 1, none, "end", (some .boolean)) (eg_Zm (some (.int rE)) hE h) (eg_nc hE) (eg_ns hE) h 0 [(0, .ref l0), (1, .int l1)] [] h
  replace hF := (eg_ifn hF).2
  refine eg_aload_n (i := 0) 0 dX13_end_0 rfl rfl ?_
  refine eg_iconst (v := (0 : Int32)) dX13_end_1 (by decide) ?_
  replace hF := eg_bind hF; obtain ⟨h1, e2, hF⟩ := hF
  refine eg_putI dX13_end_2 e2 (Nat.le_of_ble_eq_true rfl) (Nat.le_of_ble_eq_true rfl) rfl ew_1434 (Or.inl rfl) ?_
  refine eg_iload_n (i := 1) 1 dX13_end_5 rfl rfl ?_
  refine eg_if_lt 17 dX13_end_6 rfl (fun c3 => ?_) (fun c3 => ?_)
  · replace hF := eg_it c3 hF
    refine eg_iconst (v := (0 : Int32)) dX13_end_17 (by decide) ?_
    exact eg_zretE dX13_end_18 (Or.inl rfl) hF
  · replace hF := eg_if c3 hF
    refine eg_iload_n (i := 1) 1 dX13_end_9 rfl rfl ?_
    refine eg_aload_n (i := 0) 0 dX13_end_10 rfl rfl ?_
    replace hF := eg_bind hF; obtain ⟨v4, e5, hF⟩ := hF
    refine eg_getI dX13_end_11 e5 (Nat.le_of_ble_eq_true rfl) (Nat.le_of_ble_eq_true rfl) rfl ew_1440 ?_
    refine eg_ic_le 19 dX13_end_14 rfl (fun c6 => ?_) (fun c6 => ?_)
    · replace hF := eg_it c6 hF
      refine eg_aload_n (i := 0) 0 dX13_end_19 rfl rfl ?_
      refine eg_iload_n (i := 1) 1 dX13_end_20 rfl rfl ?_
      replace hF := eg_bind hF; obtain ⟨h7, e8, hF⟩ := hF
      refine eg_putI dX13_end_21 e8 (Nat.le_of_ble_eq_true rfl) (Nat.le_of_ble_eq_true rfl) rfl ew_1440 (Or.inl rfl) ?_
      refine eg_iconst (v := (1 : Int32)) dX13_end_24 (by decide) ?_
      exact eg_zretE dX13_end_25 (Or.inr rfl) hF
    · replace hF := eg_if c6 hF
      refine eg_iconst (v := (0 : Int32)) dX13_end_17 (by decide) ?_
      exact eg_zretE dX13_end_18 (Or.inl rfl) hF
theorem dX13_look_0 : decode cX13_look 0 = .ok (.aload_n 0, 1) := by decide +kernel
theorem dX13_look_1 : decode cX13_look 1 = .ok (.getfield 171, 3) := by decide +kernel
theorem dX13_look_4 : decode cX13_look 4 = .ok (.aload_n 0, 1) := by decide +kernel
theorem dX13_look_5 : decode cX13_look 5 = .ok (.getfield 174, 3) := by decide +kernel
theorem dX13_look_8 : decode cX13_look 8 = .ok (.if_icmp .ge 35, 3) := by decide +kernel
theorem dX13_look_11 : decode cX13_look 11 = .ok (.aload_n 0, 1) := by decide +kernel
theorem dX13_look_12 : decode cX13_look 12 = .ok (.getfield 23, 3) := by decide +kernel
theorem dX13_look_15 : decode cX13_look 15 = .ok (.aload_n 0, 1) := by decide +kernel
theorem dX13_look_16 : decode cX13_look 16 = .ok (.getfield 177, 3) := by decide +kernel
theorem dX13_look_19 : decode cX13_look 19 = .ok (.aload_n 0, 1) := by decide +kernel
theorem dX13_look_20 : decode cX13_look 20 = .ok (.getfield 171, 3) := by decide +kernel
theorem dX13_look_23 : decode cX13_look 23 = .ok (.iadd, 1) := by decide +kernel
theorem dX13_look_24 : decode cX13_look 24 = .ok (.baload, 1) := by decide +kernel
theorem dX13_look_25 : decode cX13_look 25 = .ok (.bipush 32, 2) := by decide +kernel
theorem dX13_look_27 : decode cX13_look 27 = .ok (.if_icmp .ne 16, 3) := by decide +kernel
theorem dX13_look_30 : decode cX13_look 30 = .ok (.aload_n 0, 1) := by decide +kernel
theorem dX13_look_31 : decode cX13_look 31 = .ok (.dup, 1) := by decide +kernel
theorem dX13_look_32 : decode cX13_look 32 = .ok (.getfield 171, 3) := by decide +kernel
theorem dX13_look_35 : decode cX13_look 35 = .ok (.iconst 1, 1) := by decide +kernel
theorem dX13_look_36 : decode cX13_look 36 = .ok (.iadd, 1) := by decide +kernel
theorem dX13_look_37 : decode cX13_look 37 = .ok (.putfield 171, 3) := by decide +kernel
theorem dX13_look_40 : decode cX13_look 40 = .ok (.goto (-40), 3) := by decide +kernel
theorem dX13_look_43 : decode cX13_look 43 = .ok (.aload_n 0, 1) := by decide +kernel
theorem dX13_look_44 : decode cX13_look 44 = .ok (.getfield 171, 3) := by decide +kernel
theorem dX13_look_47 : decode cX13_look 47 = .ok (.aload_n 0, 1) := by decide +kernel
theorem dX13_look_48 : decode cX13_look 48 = .ok (.getfield 174, 3) := by decide +kernel
theorem dX13_look_51 : decode cX13_look 51 = .ok (.if_icmp .ge 24, 3) := by decide +kernel
theorem dX13_look_54 : decode cX13_look 54 = .ok (.aload_n 0, 1) := by decide +kernel
theorem dX13_look_55 : decode cX13_look 55 = .ok (.getfield 23, 3) := by decide +kernel
theorem dX13_look_58 : decode cX13_look 58 = .ok (.aload_n 0, 1) := by decide +kernel
theorem dX13_look_59 : decode cX13_look 59 = .ok (.getfield 177, 3) := by decide +kernel
theorem dX13_look_62 : decode cX13_look 62 = .ok (.aload_n 0, 1) := by decide +kernel
theorem dX13_look_63 : decode cX13_look 63 = .ok (.getfield 171, 3) := by decide +kernel
theorem dX13_look_66 : decode cX13_look 66 = .ok (.iadd, 1) := by decide +kernel
theorem dX13_look_67 : decode cX13_look 67 = .ok (.baload, 1) := by decide +kernel
theorem dX13_look_68 : decode cX13_look 68 = .ok (.sipush 255, 3) := by decide +kernel
theorem dX13_look_71 : decode cX13_look 71 = .ok (.iand, 1) := by decide +kernel
theorem dX13_look_72 : decode cX13_look 72 = .ok (.goto 4, 3) := by decide +kernel
theorem dX13_look_75 : decode cX13_look 75 = .ok (.iconst (-1), 1) := by decide +kernel
theorem dX13_look_76 : decode cX13_look 76 = .ok (.ireturn, 1) := by decide +kernel
def fX13_look_L0 : Nat → eg_H → Nat → Option (Nat × eg_H)
  | 0, _, _ => none
  | n + 1, h, l0 =>
    (eg_gI h 13 10 l0).bind fun v1 =>
    (eg_gI h 13 9 l0).bind fun v3 =>
    if v3 ≤ v1 then
      (some (l0, h))
    else
      (eg_gR h 13 5 l0).bind fun p6 =>
      (eg_gI h 13 8 l0).bind fun v8 =>
      (eg_gI h 13 10 l0).bind fun v10 =>
      (eg_aI h 102 p6 (v8 + v10)).bind fun v12 =>
      if v12 = (32 : Int32) then
        ((eg_gI h 13 10 l0).bind fun v15 =>
        (eg_pI h 13 10 l0 (v15 + (1 : Int32))).bind fun h17 =>
        fX13_look_L0 n h17 l0)
      else
        some (l0, h)
set_option maxRecDepth 20000 in
theorem fX13_look_L0_ok {h0 : eg_H} {Z : eg_C → State → Prop} {N S : Nat} : ∀ (n : Nat) (h : eg_H) (l0 : Nat) (eE : Nat × eg_H), fX13_look_L0 n h l0 = some eE → (hk0 : ∀ (l0 : Nat) (h : eg_H), eE = (l0, h) → eg_AW (RX13, cX13_look, 1, 1, none, "look", (some .int)) Z N S h0 43 [(0, .ref l0)] [] h) → eg_AW (RX13, cX13_look, 1, 1, none, "look", (some .int)) Z N S h0 0 [(0, .ref l0)] [] h := by
  intro n
  induction n with
  | zero => intro h l0 eE hF; exact absurd hF (by intro q; cases q)
  | succ n ih =>
    intro h l0 eE hF hk0
    have hrec := fun (h' : eg_H) (l0 : Nat) hq => ih h' l0 eE hq hk0
    refine eg_aload_n (i := 0) 0 dX13_look_0 rfl rfl ?_
    replace hF := eg_bind hF; obtain ⟨v1, e2, hF⟩ := hF
    refine eg_getI dX13_look_1 e2 (Nat.le_of_ble_eq_true rfl) (Nat.le_of_ble_eq_true rfl) rfl ew_1444 ?_
    refine eg_aload_n (i := 0) 0 dX13_look_4 rfl rfl ?_
    replace hF := eg_bind hF; obtain ⟨v3, e4, hF⟩ := hF
    refine eg_getI dX13_look_5 e4 (Nat.le_of_ble_eq_true rfl) (Nat.le_of_ble_eq_true rfl) rfl ew_1443 ?_
    refine eg_ic_ge 43 dX13_look_8 rfl (fun c5 => ?_) (fun c5 => ?_)
    · replace hF := eg_it c5 hF
      exact (hk0 l0 h (Option.some.inj hF).symm)
    · replace hF := eg_if c5 hF
      refine eg_aload_n (i := 0) 0 dX13_look_11 rfl rfl ?_
      replace hF := eg_bind hF; obtain ⟨p6, e7, hF⟩ := hF
      refine eg_getR dX13_look_12 e7 (Nat.le_of_ble_eq_true rfl) (Nat.le_of_ble_eq_true rfl) rfl ew_1439 ?_
      refine eg_aload_n (i := 0) 0 dX13_look_15 rfl rfl ?_
      replace hF := eg_bind hF; obtain ⟨v8, e9, hF⟩ := hF
      refine eg_getI dX13_look_16 e9 (Nat.le_of_ble_eq_true rfl) (Nat.le_of_ble_eq_true rfl) rfl ew_1442 ?_
      refine eg_aload_n (i := 0) 0 dX13_look_19 rfl rfl ?_
      replace hF := eg_bind hF; obtain ⟨v10, e11, hF⟩ := hF
      refine eg_getI dX13_look_20 e11 (Nat.le_of_ble_eq_true rfl) (Nat.le_of_ble_eq_true rfl) rfl ew_1444 ?_
      refine eg_iadd dX13_look_23 ?_
      replace hF := eg_bind hF; obtain ⟨v12, e13, hF⟩ := hF
      refine eg_bald dX13_look_24 e13 ?_
      refine eg_bipush (v := (32 : Int32)) dX13_look_25 (by decide) ?_
      refine eg_ic_ne 43 dX13_look_27 rfl (fun c14 => ?_) (fun c14 => ?_)
      · replace hF := eg_it c14 hF
        refine eg_aload_n (i := 0) 0 dX13_look_30 rfl rfl ?_
        refine eg_dup dX13_look_31 rfl ?_
        replace hF := eg_bind hF; obtain ⟨v15, e16, hF⟩ := hF
        refine eg_getI dX13_look_32 e16 (Nat.le_of_ble_eq_true rfl) (Nat.le_of_ble_eq_true rfl) rfl ew_1444 ?_
        refine eg_iconst (v := (1 : Int32)) dX13_look_35 (by decide) ?_
        refine eg_iadd dX13_look_36 ?_
        replace hF := eg_bind hF; obtain ⟨h17, e18, hF⟩ := hF
        refine eg_putI dX13_look_37 e18 (Nat.le_of_ble_eq_true rfl) (Nat.le_of_ble_eq_true rfl) rfl ew_1444 (Or.inl rfl) ?_
        refine eg_goto 0 dX13_look_40 rfl ?_
        exact (hrec h17 l0 hF)
      · replace hF := eg_if c14 hF
        exact (hk0 l0 h (Option.some.inj hF).symm)
def fX13_look_j43 (h : eg_H) (l0 : Nat) : Option (Int32 × eg_H) :=
  (eg_gI h 13 10 l0).bind fun v1 =>
  (eg_gI h 13 9 l0).bind fun v3 =>
  if v3 ≤ v1 then
    (some ((-1 : Int32), h))
  else
    (eg_gR h 13 5 l0).bind fun p6 =>
    (eg_gI h 13 8 l0).bind fun v8 =>
    (eg_gI h 13 10 l0).bind fun v10 =>
    (eg_aI h 102 p6 (v8 + v10)).bind fun v12 =>
    some ((v12 &&& (255 : Int32)), h)
set_option maxRecDepth 20000 in
theorem fX13_look_j43_ok {h0 : eg_H} (h : eg_H) (l0 : Nat) {rE : Int32} {hE : eg_H} (hF : fX13_look_j43 h l0 = some (rE, hE)) : eg_AW (RX13, cX13_look, 1, 1, none, "look", (some .int)) (eg_Zm (some (.int rE)) hE h0) (eg_nc hE) (eg_ns hE) h0 43 [(0, .ref l0)] [] h := by
  refine eg_aload_n (i := 0) 0 dX13_look_43 rfl rfl ?_
  replace hF := eg_bind hF; obtain ⟨v1, e2, hF⟩ := hF
  refine eg_getI dX13_look_44 e2 (Nat.le_of_ble_eq_true rfl) (Nat.le_of_ble_eq_true rfl) rfl ew_1444 ?_
  refine eg_aload_n (i := 0) 0 dX13_look_47 rfl rfl ?_
  replace hF := eg_bind hF; obtain ⟨v3, e4, hF⟩ := hF
  refine eg_getI dX13_look_48 e4 (Nat.le_of_ble_eq_true rfl) (Nat.le_of_ble_eq_true rfl) rfl ew_1443 ?_
  refine eg_ic_ge 75 dX13_look_51 rfl (fun c5 => ?_) (fun c5 => ?_)
  · replace hF := eg_it c5 hF
    refine eg_iconst (v := (-1 : Int32)) dX13_look_75 (by decide) ?_
    exact eg_iretE dX13_look_76 hF
  · replace hF := eg_if c5 hF
    refine eg_aload_n (i := 0) 0 dX13_look_54 rfl rfl ?_
    replace hF := eg_bind hF; obtain ⟨p6, e7, hF⟩ := hF
    refine eg_getR dX13_look_55 e7 (Nat.le_of_ble_eq_true rfl) (Nat.le_of_ble_eq_true rfl) rfl ew_1439 ?_
    refine eg_aload_n (i := 0) 0 dX13_look_58 rfl rfl ?_
    replace hF := eg_bind hF; obtain ⟨v8, e9, hF⟩ := hF
    refine eg_getI dX13_look_59 e9 (Nat.le_of_ble_eq_true rfl) (Nat.le_of_ble_eq_true rfl) rfl ew_1442 ?_
    refine eg_aload_n (i := 0) 0 dX13_look_62 rfl rfl ?_
    replace hF := eg_bind hF; obtain ⟨v10, e11, hF⟩ := hF
    refine eg_getI dX13_look_63 e11 (Nat.le_of_ble_eq_true rfl) (Nat.le_of_ble_eq_true rfl) rfl ew_1444 ?_
    refine eg_iadd dX13_look_66 ?_
    replace hF := eg_bind hF; obtain ⟨v12, e13, hF⟩ := hF
    refine eg_bald dX13_look_67 e13 ?_
    refine eg_sipush (v := (255 : Int32)) dX13_look_68 (by decide) ?_
    refine eg_iand dX13_look_71 ?_
    refine eg_goto 76 dX13_look_72 rfl ?_
    exact eg_iretE dX13_look_76 hF
def fX13_look (h : eg_H) (l0 : Nat) : Option (Int32 × eg_H) :=
  if eg_isO h 13 l0 then (
    (fX13_look_L0 eg_F h l0).bind fun e =>
    match e with
    | (p3, h4) =>
      fX13_look_j43 h4 p3) else none
theorem fX13_look_O {h : eg_H} {l0 : Nat} {rE : Int32} {hE : eg_H} (hF : fX13_look h l0 = some (rE, hE)) : eg_isO h 13 l0 := (eg_ifn hF).1
set_option maxRecDepth 20000 in
theorem mX13_look {h : eg_H} {l0 : Nat} {rE : Int32} {hE : eg_H} (hF : fX13_look h l0 = some (rE, hE)) : eg_Met yX13_look cX13_look 1 (some .int) 1 [.ref l0] h (some (.int rE)) hE := by
  refine eg_enter rfl (Nat.le_of_ble_eq_true rfl) ?_
  show eg_AW (RX13, cX13_look, 1, 1, none, "look", (some .int)) (eg_Zm (some (.int rE)) hE h) (eg_nc hE) (eg_ns hE) h 0 [(0, .ref l0)] [] h
  replace hF := (eg_ifn hF).2
  replace hF := eg_bind hF; obtain ⟨x2, e1, hF⟩ := hF
  refine (fX13_look_L0_ok eg_F h l0 x2 e1 ?_)
  · intro p3 h4 e5
    subst e5
    exact (fX13_look_j43_ok h4 p3 hF)
theorem dX13_fails_0 : decode cX13_fails 0 = .ok (.aload_n 0, 1) := by decide +kernel
theorem dX13_fails_1 : decode cX13_fails 1 = .ok (.getfield 180, 3) := by decide +kernel
theorem dX13_fails_4 : decode cX13_fails 4 = .ok (.iconst (-1), 1) := by decide +kernel
theorem dX13_fails_5 : decode cX13_fails 5 = .ok (.if_icmp .ne 11, 3) := by decide +kernel
theorem dX13_fails_8 : decode cX13_fails 8 = .ok (.aload_n 0, 1) := by decide +kernel
theorem dX13_fails_9 : decode cX13_fails 9 = .ok (.aload_n 0, 1) := by decide +kernel
theorem dX13_fails_10 : decode cX13_fails 10 = .ok (.getfield 171, 3) := by decide +kernel
theorem dX13_fails_13 : decode cX13_fails 13 = .ok (.putfield 180, 3) := by decide +kernel
theorem dX13_fails_16 : decode cX13_fails 16 = .ok (.iconst 0, 1) := by decide +kernel
theorem dX13_fails_17 : decode cX13_fails 17 = .ok (.ireturn, 1) := by decide +kernel
def fX13_fails (h : eg_H) (l0 : Nat) : Option (Int32 × eg_H) :=
  if eg_isO h 13 l0 then (
    (eg_gI h 13 11 l0).bind fun v1 =>
    if v1 = (-1 : Int32) then
      ((eg_gI h 13 10 l0).bind fun v4 =>
      (eg_pI h 13 11 l0 v4).bind fun h6 =>
      some ((0 : Int32), h6))
    else
      some ((0 : Int32), h)) else none
theorem fX13_fails_O {h : eg_H} {l0 : Nat} {rE : Int32} {hE : eg_H} (hF : fX13_fails h l0 = some (rE, hE)) : eg_isO h 13 l0 := (eg_ifn hF).1
set_option maxRecDepth 20000 in
theorem mX13_fails {h : eg_H} {l0 : Nat} {rE : Int32} {hE : eg_H} (hF : fX13_fails h l0 = some (rE, hE)) : eg_Met yX13_fails cX13_fails 1 (some .boolean) 1 [.ref l0] h (some (.int rE)) hE := by
  refine eg_enter rfl (Nat.le_of_ble_eq_true rfl) ?_
  show eg_AW (RX13, cX13_fails, 1, 1, none, "fails", (some .boolean)) (eg_Zm (some (.int rE)) hE h) (eg_nc hE) (eg_ns hE) h 0 [(0, .ref l0)] [] h
  replace hF := (eg_ifn hF).2
  refine eg_aload_n (i := 0) 0 dX13_fails_0 rfl rfl ?_
  replace hF := eg_bind hF; obtain ⟨v1, e2, hF⟩ := hF
  refine eg_getI dX13_fails_1 e2 (Nat.le_of_ble_eq_true rfl) (Nat.le_of_ble_eq_true rfl) rfl ew_1445 ?_
  refine eg_iconst (v := (-1 : Int32)) dX13_fails_4 (by decide) ?_
  refine eg_ic_ne 16 dX13_fails_5 rfl (fun c3 => ?_) (fun c3 => ?_)
  · replace hF := eg_it c3 hF
    refine eg_aload_n (i := 0) 0 dX13_fails_8 rfl rfl ?_
    refine eg_aload_n (i := 0) 0 dX13_fails_9 rfl rfl ?_
    replace hF := eg_bind hF; obtain ⟨v4, e5, hF⟩ := hF
    refine eg_getI dX13_fails_10 e5 (Nat.le_of_ble_eq_true rfl) (Nat.le_of_ble_eq_true rfl) rfl ew_1444 ?_
    replace hF := eg_bind hF; obtain ⟨h6, e7, hF⟩ := hF
    refine eg_putI dX13_fails_13 e7 (Nat.le_of_ble_eq_true rfl) (Nat.le_of_ble_eq_true rfl) rfl ew_1445 (Or.inl rfl) ?_
    refine eg_iconst (v := (0 : Int32)) dX13_fails_16 (by decide) ?_
    exact eg_zretE dX13_fails_17 (Or.inl rfl) hF
  · replace hF := eg_if c3 hF
    refine eg_iconst (v := (0 : Int32)) dX13_fails_16 (by decide) ?_
    exact eg_zretE dX13_fails_17 (Or.inl rfl) hF
theorem dX13_goesIn_0 : decode cX13_goesIn 0 = .ok (.aload_n 0, 1) := by decide +kernel
theorem dX13_goesIn_1 : decode cX13_goesIn 1 = .ok (.getfield 183, 3) := by decide +kernel
theorem dX13_goesIn_4 : decode cX13_goesIn 4 = .ok (.bipush 6, 2) := by decide +kernel
theorem dX13_goesIn_6 : decode cX13_goesIn 6 = .ok (.if_icmp .ne 8, 3) := by decide +kernel
theorem dX13_goesIn_9 : decode cX13_goesIn 9 = .ok (.aload_n 0, 1) := by decide +kernel
theorem dX13_goesIn_10 : decode cX13_goesIn 10 = .ok (.invokevirtual 186, 3) := by decide +kernel
theorem dX13_goesIn_13 : decode cX13_goesIn 13 = .ok (.ireturn, 1) := by decide +kernel
theorem dX13_goesIn_14 : decode cX13_goesIn 14 = .ok (.aload_n 0, 1) := by decide +kernel
theorem dX13_goesIn_15 : decode cX13_goesIn 15 = .ok (.dup, 1) := by decide +kernel
theorem dX13_goesIn_16 : decode cX13_goesIn 16 = .ok (.getfield 183, 3) := by decide +kernel
theorem dX13_goesIn_19 : decode cX13_goesIn 19 = .ok (.iconst 1, 1) := by decide +kernel
theorem dX13_goesIn_20 : decode cX13_goesIn 20 = .ok (.iadd, 1) := by decide +kernel
theorem dX13_goesIn_21 : decode cX13_goesIn 21 = .ok (.putfield 183, 3) := by decide +kernel
theorem dX13_goesIn_24 : decode cX13_goesIn 24 = .ok (.aload_n 0, 1) := by decide +kernel
theorem dX13_goesIn_25 : decode cX13_goesIn 25 = .ok (.dup, 1) := by decide +kernel
theorem dX13_goesIn_26 : decode cX13_goesIn 26 = .ok (.getfield 171, 3) := by decide +kernel
theorem dX13_goesIn_29 : decode cX13_goesIn 29 = .ok (.iconst 1, 1) := by decide +kernel
theorem dX13_goesIn_30 : decode cX13_goesIn 30 = .ok (.iadd, 1) := by decide +kernel
theorem dX13_goesIn_31 : decode cX13_goesIn 31 = .ok (.putfield 171, 3) := by decide +kernel
theorem dX13_goesIn_34 : decode cX13_goesIn 34 = .ok (.iconst 1, 1) := by decide +kernel
theorem dX13_goesIn_35 : decode cX13_goesIn 35 = .ok (.ireturn, 1) := by decide +kernel
def fX13_goesIn (h : eg_H) (l0 : Nat) : Option (Int32 × eg_H) :=
  if eg_isO h 13 l0 then (
    (eg_gI h 13 12 l0).bind fun v1 =>
    if v1 = (6 : Int32) then
      ((fX13_fails h l0).bind fun ⟨v5, h4⟩ =>
      if v5 = 0 ∨ v5 = 1 then some (v5, h4) else none)
    else
      (eg_gI h 13 12 l0).bind fun v8 =>
      (eg_pI h 13 12 l0 (v8 + (1 : Int32))).bind fun h10 =>
      (eg_gI h10 13 10 l0).bind fun v12 =>
      (eg_pI h10 13 10 l0 (v12 + (1 : Int32))).bind fun h14 =>
      some ((1 : Int32), h14)) else none
theorem fX13_goesIn_O {h : eg_H} {l0 : Nat} {rE : Int32} {hE : eg_H} (hF : fX13_goesIn h l0 = some (rE, hE)) : eg_isO h 13 l0 := (eg_ifn hF).1
set_option maxRecDepth 20000 in
theorem mX13_goesIn {h : eg_H} {l0 : Nat} {rE : Int32} {hE : eg_H} (hF : fX13_goesIn h l0 = some (rE, hE)) : eg_Met yX13_goesIn cX13_goesIn 1 (some .boolean) 2 [.ref l0] h (some (.int rE)) hE := by
  refine eg_enter rfl (Nat.le_of_ble_eq_true rfl) ?_
  show eg_AW (RX13, cX13_goesIn, 1, 2, none, "goesIn", (some .boolean)) (eg_Zm (some (.int rE)) hE h) (eg_nc hE) (eg_ns hE) h 0 [(0, .ref l0)] [] h
  replace hF := (eg_ifn hF).2
  refine eg_aload_n (i := 0) 0 dX13_goesIn_0 rfl rfl ?_
  replace hF := eg_bind hF; obtain ⟨v1, e2, hF⟩ := hF
  refine eg_getI dX13_goesIn_1 e2 (Nat.le_of_ble_eq_true rfl) (Nat.le_of_ble_eq_true rfl) rfl ew_1446 ?_
  refine eg_bipush (v := (6 : Int32)) dX13_goesIn_4 (by decide) ?_
  refine eg_ic_ne 14 dX13_goesIn_6 rfl (fun c3 => ?_) (fun c3 => ?_)
  · replace hF := eg_it c3 hF
    refine eg_aload_n (i := 0) 0 dX13_goesIn_9 rfl rfl ?_
    replace hF := eg_bind hF; obtain ⟨⟨v5, h4⟩, e6, hF⟩ := hF
    refine eg_callV (c := 13) (n := 0) [] dX13_goesIn_10 (mX13_fails e6) rfl (fX13_fails_O e6) (Nat.le_of_ble_eq_true rfl) rfl ew_1719 ew_1721 ew_55 ew_110 ew_1722 hy_X13_fails rfl (Nat.le_of_ble_eq_true rfl) (Nat.le_of_ble_eq_true rfl) (Nat.le_of_ble_eq_true rfl) ?_
    replace hF := eg_ifn hF; obtain ⟨c7, hF⟩ := hF
    exact eg_zretE dX13_goesIn_13 c7 hF
  · replace hF := eg_if c3 hF
    refine eg_aload_n (i := 0) 0 dX13_goesIn_14 rfl rfl ?_
    refine eg_dup dX13_goesIn_15 rfl ?_
    replace hF := eg_bind hF; obtain ⟨v8, e9, hF⟩ := hF
    refine eg_getI dX13_goesIn_16 e9 (Nat.le_of_ble_eq_true rfl) (Nat.le_of_ble_eq_true rfl) rfl ew_1446 ?_
    refine eg_iconst (v := (1 : Int32)) dX13_goesIn_19 (by decide) ?_
    refine eg_iadd dX13_goesIn_20 ?_
    replace hF := eg_bind hF; obtain ⟨h10, e11, hF⟩ := hF
    refine eg_putI dX13_goesIn_21 e11 (Nat.le_of_ble_eq_true rfl) (Nat.le_of_ble_eq_true rfl) rfl ew_1446 (Or.inl rfl) ?_
    refine eg_aload_n (i := 0) 0 dX13_goesIn_24 rfl rfl ?_
    refine eg_dup dX13_goesIn_25 rfl ?_
    replace hF := eg_bind hF; obtain ⟨v12, e13, hF⟩ := hF
    refine eg_getI dX13_goesIn_26 e13 (Nat.le_of_ble_eq_true rfl) (Nat.le_of_ble_eq_true rfl) rfl ew_1444 ?_
    refine eg_iconst (v := (1 : Int32)) dX13_goesIn_29 (by decide) ?_
    refine eg_iadd dX13_goesIn_30 ?_
    replace hF := eg_bind hF; obtain ⟨h14, e15, hF⟩ := hF
    refine eg_putI dX13_goesIn_31 e15 (Nat.le_of_ble_eq_true rfl) (Nat.le_of_ble_eq_true rfl) rfl ew_1444 (Or.inl rfl) ?_
    refine eg_iconst (v := (1 : Int32)) dX13_goesIn_34 (by decide) ?_
    exact eg_zretE dX13_goesIn_35 (Or.inr rfl) hF
theorem dX13_takes_0 : decode cX13_takes 0 = .ok (.aload_n 0, 1) := by decide +kernel
theorem dX13_takes_1 : decode cX13_takes 1 = .ok (.getfield 180, 3) := by decide +kernel
theorem dX13_takes_4 : decode cX13_takes 4 = .ok (.iconst (-1), 1) := by decide +kernel
theorem dX13_takes_5 : decode cX13_takes 5 = .ok (.if_icmp .ne 11, 3) := by decide +kernel
theorem dX13_takes_8 : decode cX13_takes 8 = .ok (.aload_n 0, 1) := by decide +kernel
theorem dX13_takes_9 : decode cX13_takes 9 = .ok (.invokevirtual 190, 3) := by decide +kernel
theorem dX13_takes_12 : decode cX13_takes 12 = .ok (.iload_n 1, 1) := by decide +kernel
theorem dX13_takes_13 : decode cX13_takes 13 = .ok (.if_icmp .eq 8, 3) := by decide +kernel
theorem dX13_takes_16 : decode cX13_takes 16 = .ok (.aload_n 0, 1) := by decide +kernel
theorem dX13_takes_17 : decode cX13_takes 17 = .ok (.invokevirtual 186, 3) := by decide +kernel
theorem dX13_takes_20 : decode cX13_takes 20 = .ok (.ireturn, 1) := by decide +kernel
theorem dX13_takes_21 : decode cX13_takes 21 = .ok (.aload_n 0, 1) := by decide +kernel
theorem dX13_takes_22 : decode cX13_takes 22 = .ok (.dup, 1) := by decide +kernel
theorem dX13_takes_23 : decode cX13_takes 23 = .ok (.getfield 171, 3) := by decide +kernel
theorem dX13_takes_26 : decode cX13_takes 26 = .ok (.iconst 1, 1) := by decide +kernel
theorem dX13_takes_27 : decode cX13_takes 27 = .ok (.iadd, 1) := by decide +kernel
theorem dX13_takes_28 : decode cX13_takes 28 = .ok (.putfield 171, 3) := by decide +kernel
theorem dX13_takes_31 : decode cX13_takes 31 = .ok (.iconst 1, 1) := by decide +kernel
theorem dX13_takes_32 : decode cX13_takes 32 = .ok (.ireturn, 1) := by decide +kernel
def fX13_takes (h : eg_H) (l0 : Nat) (l1 : Int32) : Option (Int32 × eg_H) :=
  if eg_isO h 13 l0 then (
    (eg_gI h 13 11 l0).bind fun v1 =>
    if v1 = (-1 : Int32) then
      ((fX13_look h l0).bind fun ⟨v5, h4⟩ =>
      if v5 = l1 then
        ((eg_gI h4 13 10 l0).bind fun v8 =>
        (eg_pI h4 13 10 l0 (v8 + (1 : Int32))).bind fun h10 =>
        some ((1 : Int32), h10))
      else
        (fX13_fails h4 l0).bind fun ⟨v13, h12⟩ =>
        if v13 = 0 ∨ v13 = 1 then some (v13, h12) else none)
    else
      (fX13_fails h l0).bind fun ⟨v17, h16⟩ =>
      if v17 = 0 ∨ v17 = 1 then some (v17, h16) else none) else none
theorem fX13_takes_O {h : eg_H} {l0 : Nat} {l1 : Int32} {rE : Int32} {hE : eg_H} (hF : fX13_takes h l0 l1 = some (rE, hE)) : eg_isO h 13 l0 := (eg_ifn hF).1
set_option maxRecDepth 20000 in
theorem mX13_takes {h : eg_H} {l0 : Nat} {l1 : Int32} {rE : Int32} {hE : eg_H} (hF : fX13_takes h l0 l1 = some (rE, hE)) : eg_Met yX13_takes cX13_takes 2 (some .boolean) 2 [.ref l0, .int l1] h (some (.int rE)) hE := by
  refine eg_enter rfl (Nat.le_of_ble_eq_true rfl) ?_
  show eg_AW (RX13, cX13_takes, 2, 2, none, "takes", (some .boolean)) (eg_Zm (some (.int rE)) hE h) (eg_nc hE) (eg_ns hE) h 0 [(0, .ref l0), (1, .int l1)] [] h
  replace hF := (eg_ifn hF).2
  refine eg_aload_n (i := 0) 0 dX13_takes_0 rfl rfl ?_
  replace hF := eg_bind hF; obtain ⟨v1, e2, hF⟩ := hF
  refine eg_getI dX13_takes_1 e2 (Nat.le_of_ble_eq_true rfl) (Nat.le_of_ble_eq_true rfl) rfl ew_1445 ?_
  refine eg_iconst (v := (-1 : Int32)) dX13_takes_4 (by decide) ?_
  refine eg_ic_ne 16 dX13_takes_5 rfl (fun c3 => ?_) (fun c3 => ?_)
  · replace hF := eg_it c3 hF
    refine eg_aload_n (i := 0) 0 dX13_takes_8 rfl rfl ?_
    replace hF := eg_bind hF; obtain ⟨⟨v5, h4⟩, e6, hF⟩ := hF
    refine eg_callV (c := 13) (n := 0) [] dX13_takes_9 (mX13_look e6) rfl (fX13_look_O e6) (Nat.le_of_ble_eq_true rfl) rfl ew_1715 ew_1717 ew_54 ew_110 ew_1718 hy_X13_look rfl (Nat.le_of_ble_eq_true rfl) (Nat.le_of_ble_eq_true rfl) (Nat.le_of_ble_eq_true rfl) ?_
    refine eg_iload_n (i := 1) 1 dX13_takes_12 rfl rfl ?_
    refine eg_ic_eq 21 dX13_takes_13 rfl (fun c7 => ?_) (fun c7 => ?_)
    · replace hF := eg_it c7 hF
      refine eg_aload_n (i := 0) 0 dX13_takes_21 rfl rfl ?_
      refine eg_dup dX13_takes_22 rfl ?_
      replace hF := eg_bind hF; obtain ⟨v8, e9, hF⟩ := hF
      refine eg_getI dX13_takes_23 e9 (Nat.le_of_ble_eq_true rfl) (Nat.le_of_ble_eq_true rfl) rfl ew_1444 ?_
      refine eg_iconst (v := (1 : Int32)) dX13_takes_26 (by decide) ?_
      refine eg_iadd dX13_takes_27 ?_
      replace hF := eg_bind hF; obtain ⟨h10, e11, hF⟩ := hF
      refine eg_putI dX13_takes_28 e11 (Nat.le_of_ble_eq_true rfl) (Nat.le_of_ble_eq_true rfl) rfl ew_1444 (Or.inl rfl) ?_
      refine eg_iconst (v := (1 : Int32)) dX13_takes_31 (by decide) ?_
      exact eg_zretE dX13_takes_32 (Or.inr rfl) hF
    · replace hF := eg_if c7 hF
      refine eg_aload_n (i := 0) 0 dX13_takes_16 rfl rfl ?_
      replace hF := eg_bind hF; obtain ⟨⟨v13, h12⟩, e14, hF⟩ := hF
      refine eg_callV (c := 13) (n := 0) [] dX13_takes_17 (mX13_fails e14) rfl (fX13_fails_O e14) (Nat.le_of_ble_eq_true rfl) rfl ew_1719 ew_1721 ew_55 ew_110 ew_1722 hy_X13_fails rfl (Nat.le_of_ble_eq_true rfl) (Nat.le_of_ble_eq_true rfl) (Nat.le_of_ble_eq_true rfl) ?_
      replace hF := eg_ifn hF; obtain ⟨c15, hF⟩ := hF
      exact eg_zretE dX13_takes_20 c15 hF
  · replace hF := eg_if c3 hF
    refine eg_aload_n (i := 0) 0 dX13_takes_16 rfl rfl ?_
    replace hF := eg_bind hF; obtain ⟨⟨v17, h16⟩, e18, hF⟩ := hF
    refine eg_callV (c := 13) (n := 0) [] dX13_takes_17 (mX13_fails e18) rfl (fX13_fails_O e18) (Nat.le_of_ble_eq_true rfl) rfl ew_1719 ew_1721 ew_55 ew_110 ew_1722 hy_X13_fails rfl (Nat.le_of_ble_eq_true rfl) (Nat.le_of_ble_eq_true rfl) (Nat.le_of_ble_eq_true rfl) ?_
    replace hF := eg_ifn hF; obtain ⟨c19, hF⟩ := hF
    exact eg_zretE dX13_takes_20 c19 hF
theorem dX13_isDigit_0 : decode cX13_isDigit 0 = .ok (.aload_n 0, 1) := by decide +kernel
theorem dX13_isDigit_1 : decode cX13_isDigit 1 = .ok (.getfield 171, 3) := by decide +kernel
theorem dX13_isDigit_4 : decode cX13_isDigit 4 = .ok (.aload_n 0, 1) := by decide +kernel
theorem dX13_isDigit_5 : decode cX13_isDigit 5 = .ok (.getfield 174, 3) := by decide +kernel
theorem dX13_isDigit_8 : decode cX13_isDigit 8 = .ok (.if_icmp .ge 45, 3) := by decide +kernel
theorem dX13_isDigit_11 : decode cX13_isDigit 11 = .ok (.aload_n 0, 1) := by decide +kernel
theorem dX13_isDigit_12 : decode cX13_isDigit 12 = .ok (.getfield 23, 3) := by decide +kernel
theorem dX13_isDigit_15 : decode cX13_isDigit 15 = .ok (.aload_n 0, 1) := by decide +kernel
theorem dX13_isDigit_16 : decode cX13_isDigit 16 = .ok (.getfield 177, 3) := by decide +kernel
theorem dX13_isDigit_19 : decode cX13_isDigit 19 = .ok (.aload_n 0, 1) := by decide +kernel
theorem dX13_isDigit_20 : decode cX13_isDigit 20 = .ok (.getfield 171, 3) := by decide +kernel
theorem dX13_isDigit_23 : decode cX13_isDigit 23 = .ok (.iadd, 1) := by decide +kernel
theorem dX13_isDigit_24 : decode cX13_isDigit 24 = .ok (.baload, 1) := by decide +kernel
theorem dX13_isDigit_25 : decode cX13_isDigit 25 = .ok (.bipush 48, 2) := by decide +kernel
theorem dX13_isDigit_27 : decode cX13_isDigit 27 = .ok (.if_icmp .lt 26, 3) := by decide +kernel
theorem dX13_isDigit_30 : decode cX13_isDigit 30 = .ok (.aload_n 0, 1) := by decide +kernel
theorem dX13_isDigit_31 : decode cX13_isDigit 31 = .ok (.getfield 23, 3) := by decide +kernel
theorem dX13_isDigit_34 : decode cX13_isDigit 34 = .ok (.aload_n 0, 1) := by decide +kernel
theorem dX13_isDigit_35 : decode cX13_isDigit 35 = .ok (.getfield 177, 3) := by decide +kernel
theorem dX13_isDigit_38 : decode cX13_isDigit 38 = .ok (.aload_n 0, 1) := by decide +kernel
theorem dX13_isDigit_39 : decode cX13_isDigit 39 = .ok (.getfield 171, 3) := by decide +kernel
theorem dX13_isDigit_42 : decode cX13_isDigit 42 = .ok (.iadd, 1) := by decide +kernel
theorem dX13_isDigit_43 : decode cX13_isDigit 43 = .ok (.baload, 1) := by decide +kernel
theorem dX13_isDigit_44 : decode cX13_isDigit 44 = .ok (.bipush 57, 2) := by decide +kernel
theorem dX13_isDigit_46 : decode cX13_isDigit 46 = .ok (.if_icmp .gt 7, 3) := by decide +kernel
theorem dX13_isDigit_49 : decode cX13_isDigit 49 = .ok (.iconst 1, 1) := by decide +kernel
theorem dX13_isDigit_50 : decode cX13_isDigit 50 = .ok (.goto 4, 3) := by decide +kernel
theorem dX13_isDigit_53 : decode cX13_isDigit 53 = .ok (.iconst 0, 1) := by decide +kernel
theorem dX13_isDigit_54 : decode cX13_isDigit 54 = .ok (.ireturn, 1) := by decide +kernel
def fX13_isDigit (h : eg_H) (l0 : Nat) : Option (Int32 × eg_H) :=
  if eg_isO h 13 l0 then (
    (eg_gI h 13 10 l0).bind fun v1 =>
    (eg_gI h 13 9 l0).bind fun v3 =>
    if v3 ≤ v1 then
      (some ((0 : Int32), h))
    else
      (eg_gR h 13 5 l0).bind fun p6 =>
      (eg_gI h 13 8 l0).bind fun v8 =>
      (eg_gI h 13 10 l0).bind fun v10 =>
      (eg_aI h 102 p6 (v8 + v10)).bind fun v12 =>
      if v12 < (48 : Int32) then
        (some ((0 : Int32), h))
      else
        (eg_gR h 13 5 l0).bind fun p15 =>
        (eg_gI h 13 8 l0).bind fun v17 =>
        (eg_gI h 13 10 l0).bind fun v19 =>
        (eg_aI h 102 p15 (v17 + v19)).bind fun v21 =>
        if (57 : Int32) < v21 then
          (some ((0 : Int32), h))
        else
          some ((1 : Int32), h)) else none
theorem fX13_isDigit_O {h : eg_H} {l0 : Nat} {rE : Int32} {hE : eg_H} (hF : fX13_isDigit h l0 = some (rE, hE)) : eg_isO h 13 l0 := (eg_ifn hF).1
set_option maxRecDepth 20000 in
theorem mX13_isDigit {h : eg_H} {l0 : Nat} {rE : Int32} {hE : eg_H} (hF : fX13_isDigit h l0 = some (rE, hE)) : eg_Met yX13_isDigit cX13_isDigit 1 (some .boolean) 1 [.ref l0] h (some (.int rE)) hE := by
  refine eg_enter rfl (Nat.le_of_ble_eq_true rfl) ?_
  show eg_AW (RX13, cX13_isDigit, 1, 1, none, "isDigit", (some .boolean)) (eg_Zm (some (.int rE)) hE h) (eg_nc hE) (eg_ns hE) h 0 [(0, .ref l0)] [] h
  replace hF := (eg_ifn hF).2
  refine eg_aload_n (i := 0) 0 dX13_isDigit_0 rfl rfl ?_
  replace hF := eg_bind hF; obtain ⟨v1, e2, hF⟩ := hF
  refine eg_getI dX13_isDigit_1 e2 (Nat.le_of_ble_eq_true rfl) (Nat.le_of_ble_eq_true rfl) rfl ew_1444 ?_
  refine eg_aload_n (i := 0) 0 dX13_isDigit_4 rfl rfl ?_
  replace hF := eg_bind hF; obtain ⟨v3, e4, hF⟩ := hF
  refine eg_getI dX13_isDigit_5 e4 (Nat.le_of_ble_eq_true rfl) (Nat.le_of_ble_eq_true rfl) rfl ew_1443 ?_
  refine eg_ic_ge 53 dX13_isDigit_8 rfl (fun c5 => ?_) (fun c5 => ?_)
  · replace hF := eg_it c5 hF
    refine eg_iconst (v := (0 : Int32)) dX13_isDigit_53 (by decide) ?_
    exact eg_zretE dX13_isDigit_54 (Or.inl rfl) hF
  · replace hF := eg_if c5 hF
    refine eg_aload_n (i := 0) 0 dX13_isDigit_11 rfl rfl ?_
    replace hF := eg_bind hF; obtain ⟨p6, e7, hF⟩ := hF
    refine eg_getR dX13_isDigit_12 e7 (Nat.le_of_ble_eq_true rfl) (Nat.le_of_ble_eq_true rfl) rfl ew_1439 ?_
    refine eg_aload_n (i := 0) 0 dX13_isDigit_15 rfl rfl ?_
    replace hF := eg_bind hF; obtain ⟨v8, e9, hF⟩ := hF
    refine eg_getI dX13_isDigit_16 e9 (Nat.le_of_ble_eq_true rfl) (Nat.le_of_ble_eq_true rfl) rfl ew_1442 ?_
    refine eg_aload_n (i := 0) 0 dX13_isDigit_19 rfl rfl ?_
    replace hF := eg_bind hF; obtain ⟨v10, e11, hF⟩ := hF
    refine eg_getI dX13_isDigit_20 e11 (Nat.le_of_ble_eq_true rfl) (Nat.le_of_ble_eq_true rfl) rfl ew_1444 ?_
    refine eg_iadd dX13_isDigit_23 ?_
    replace hF := eg_bind hF; obtain ⟨v12, e13, hF⟩ := hF
    refine eg_bald dX13_isDigit_24 e13 ?_
    refine eg_bipush (v := (48 : Int32)) dX13_isDigit_25 (by decide) ?_
    refine eg_ic_lt 53 dX13_isDigit_27 rfl (fun c14 => ?_) (fun c14 => ?_)
    · replace hF := eg_it c14 hF
      refine eg_iconst (v := (0 : Int32)) dX13_isDigit_53 (by decide) ?_
      exact eg_zretE dX13_isDigit_54 (Or.inl rfl) hF
    · replace hF := eg_if c14 hF
      refine eg_aload_n (i := 0) 0 dX13_isDigit_30 rfl rfl ?_
      replace hF := eg_bind hF; obtain ⟨p15, e16, hF⟩ := hF
      refine eg_getR dX13_isDigit_31 e16 (Nat.le_of_ble_eq_true rfl) (Nat.le_of_ble_eq_true rfl) rfl ew_1439 ?_
      refine eg_aload_n (i := 0) 0 dX13_isDigit_34 rfl rfl ?_
      replace hF := eg_bind hF; obtain ⟨v17, e18, hF⟩ := hF
      refine eg_getI dX13_isDigit_35 e18 (Nat.le_of_ble_eq_true rfl) (Nat.le_of_ble_eq_true rfl) rfl ew_1442 ?_
      refine eg_aload_n (i := 0) 0 dX13_isDigit_38 rfl rfl ?_
      replace hF := eg_bind hF; obtain ⟨v19, e20, hF⟩ := hF
      refine eg_getI dX13_isDigit_39 e20 (Nat.le_of_ble_eq_true rfl) (Nat.le_of_ble_eq_true rfl) rfl ew_1444 ?_
      refine eg_iadd dX13_isDigit_42 ?_
      replace hF := eg_bind hF; obtain ⟨v21, e22, hF⟩ := hF
      refine eg_bald dX13_isDigit_43 e22 ?_
      refine eg_bipush (v := (57 : Int32)) dX13_isDigit_44 (by decide) ?_
      refine eg_ic_gt 53 dX13_isDigit_46 rfl (fun c23 => ?_) (fun c23 => ?_)
      · replace hF := eg_it c23 hF
        refine eg_iconst (v := (0 : Int32)) dX13_isDigit_53 (by decide) ?_
        exact eg_zretE dX13_isDigit_54 (Or.inl rfl) hF
      · replace hF := eg_if c23 hF
        refine eg_iconst (v := (1 : Int32)) dX13_isDigit_49 (by decide) ?_
        refine eg_goto 54 dX13_isDigit_50 rfl ?_
        exact eg_zretE dX13_isDigit_54 (Or.inr rfl) hF
theorem dX13_within_0 : decode cX13_within 0 = .ok (.ldc2_w 193, 3) := by decide +kernel
theorem dX13_within_3 : decode cX13_within 3 = .ok (.ldc2_w 195, 3) := by decide +kernel
theorem dX13_within_6 : decode cX13_within 6 = .ok (.lload_n 0, 1) := by decide +kernel
theorem dX13_within_7 : decode cX13_within 7 = .ok (.invokestatic 197, 3) := by decide +kernel
theorem dX13_within_10 : decode cX13_within 10 = .ok (.invokestatic 203, 3) := by decide +kernel
theorem dX13_within_13 : decode cX13_within 13 = .ok (.l2i, 1) := by decide +kernel
theorem dX13_within_14 : decode cX13_within 14 = .ok (.ireturn, 1) := by decide +kernel
def fX13_within (h : eg_H) (l0 : Int64) : Option (Int32 × eg_H) :=
  some ((eg_maxL (-1000000 : Int64) (eg_minL (1000000 : Int64) l0)).toInt32, h)
set_option maxRecDepth 20000 in
theorem mX13_within {h : eg_H} {l0 : Int64} {rE : Int32} {hE : eg_H} (hF : fX13_within h l0 = some (rE, hE)) : eg_Met yX13_within cX13_within 2 (some .int) 1 [.long l0] h (some (.int rE)) hE := by
  refine eg_enter rfl (Nat.le_of_ble_eq_true rfl) ?_
  show eg_AW (RX13, cX13_within, 2, 1, none, "within", (some .int)) (eg_Zm (some (.int rE)) hE h) (eg_nc hE) (eg_ns hE) h 0 [(0, .long l0)] [] h
  refine eg_ldc2 (v := (-1000000 : Int64)) dX13_within_0 ew_1844 ?_
  refine eg_ldc2 (v := (1000000 : Int64)) dX13_within_3 ew_1845 ?_
  refine eg_lload_n (i := 0) 0 dX13_within_6 rfl rfl ?_
  refine eg_mminL dX13_within_7 ew_1846 (Nat.le_of_ble_eq_true rfl) (Nat.le_of_ble_eq_true rfl) ?_
  refine eg_mmaxL dX13_within_10 ew_1849 (Nat.le_of_ble_eq_true rfl) (Nat.le_of_ble_eq_true rfl) ?_
  refine eg_l2i dX13_within_13 ?_
  exact eg_iretE dX13_within_14 hF
theorem dX13_atom_0 : decode cX13_atom 0 = .ok (.aload_n 0, 1) := by decide +kernel
theorem dX13_atom_1 : decode cX13_atom 1 = .ok (.invokevirtual 190, 3) := by decide +kernel
theorem dX13_atom_4 : decode cX13_atom 4 = .ok (.istore_n 1, 1) := by decide +kernel
theorem dX13_atom_5 : decode cX13_atom 5 = .ok (.ldc 32, 2) := by decide +kernel
theorem dX13_atom_7 : decode cX13_atom 7 = .ok (.iload_n 1, 1) := by decide +kernel
theorem dX13_atom_8 : decode cX13_atom 8 = .ok (.invokestatic 206, 3) := by decide +kernel
theorem dX13_atom_11 : decode cX13_atom 11 = .ok (.ifCond .eq 20, 3) := by decide +kernel
theorem dX13_atom_14 : decode cX13_atom 14 = .ok (.aload_n 0, 1) := by decide +kernel
theorem dX13_atom_15 : decode cX13_atom 15 = .ok (.dup, 1) := by decide +kernel
theorem dX13_atom_16 : decode cX13_atom 16 = .ok (.getfield 171, 3) := by decide +kernel
theorem dX13_atom_19 : decode cX13_atom 19 = .ok (.iconst 1, 1) := by decide +kernel
theorem dX13_atom_20 : decode cX13_atom 20 = .ok (.iadd, 1) := by decide +kernel
theorem dX13_atom_21 : decode cX13_atom 21 = .ok (.putfield 171, 3) := by decide +kernel
theorem dX13_atom_24 : decode cX13_atom 24 = .ok (.aload_n 0, 1) := by decide +kernel
theorem dX13_atom_25 : decode cX13_atom 25 = .ok (.getfield 20, 3) := by decide +kernel
theorem dX13_atom_28 : decode cX13_atom 28 = .ok (.iload_n 1, 1) := by decide +kernel
theorem dX13_atom_29 : decode cX13_atom 29 = .ok (.iaload, 1) := by decide +kernel
theorem dX13_atom_30 : decode cX13_atom 30 = .ok (.ireturn, 1) := by decide +kernel
theorem dX13_atom_31 : decode cX13_atom 31 = .ok (.iload_n 1, 1) := by decide +kernel
theorem dX13_atom_32 : decode cX13_atom 32 = .ok (.bipush 91, 2) := by decide +kernel
theorem dX13_atom_34 : decode cX13_atom 34 = .ok (.if_icmp .ne 40, 3) := by decide +kernel
theorem dX13_atom_37 : decode cX13_atom 37 = .ok (.aload_n 0, 1) := by decide +kernel
theorem dX13_atom_38 : decode cX13_atom 38 = .ok (.invokevirtual 210, 3) := by decide +kernel
theorem dX13_atom_41 : decode cX13_atom 41 = .ok (.ifCond .ne 5, 3) := by decide +kernel
theorem dX13_atom_44 : decode cX13_atom 44 = .ok (.iconst 0, 1) := by decide +kernel
theorem dX13_atom_45 : decode cX13_atom 45 = .ok (.ireturn, 1) := by decide +kernel
theorem dX13_atom_46 : decode cX13_atom 46 = .ok (.aload_n 0, 1) := by decide +kernel
theorem dX13_atom_47 : decode cX13_atom 47 = .ok (.invokevirtual 213, 3) := by decide +kernel
theorem dX13_atom_50 : decode cX13_atom 50 = .ok (.istore_n 2, 1) := by decide +kernel
theorem dX13_atom_51 : decode cX13_atom 51 = .ok (.aload_n 0, 1) := by decide +kernel
theorem dX13_atom_52 : decode cX13_atom 52 = .ok (.bipush 93, 2) := by decide +kernel
theorem dX13_atom_54 : decode cX13_atom 54 = .ok (.invokevirtual 216, 3) := by decide +kernel
theorem dX13_atom_57 : decode cX13_atom 57 = .ok (.ifCond .ne 5, 3) := by decide +kernel
theorem dX13_atom_60 : decode cX13_atom 60 = .ok (.iconst 0, 1) := by decide +kernel
theorem dX13_atom_61 : decode cX13_atom 61 = .ok (.ireturn, 1) := by decide +kernel
theorem dX13_atom_62 : decode cX13_atom 62 = .ok (.aload_n 0, 1) := by decide +kernel
theorem dX13_atom_63 : decode cX13_atom 63 = .ok (.dup, 1) := by decide +kernel
theorem dX13_atom_64 : decode cX13_atom 64 = .ok (.getfield 183, 3) := by decide +kernel
theorem dX13_atom_67 : decode cX13_atom 67 = .ok (.iconst 1, 1) := by decide +kernel
theorem dX13_atom_68 : decode cX13_atom 68 = .ok (.isub, 1) := by decide +kernel
theorem dX13_atom_69 : decode cX13_atom 69 = .ok (.putfield 183, 3) := by decide +kernel
theorem dX13_atom_72 : decode cX13_atom 72 = .ok (.iload_n 2, 1) := by decide +kernel
theorem dX13_atom_73 : decode cX13_atom 73 = .ok (.ireturn, 1) := by decide +kernel
theorem dX13_atom_74 : decode cX13_atom 74 = .ok (.aload_n 0, 1) := by decide +kernel
theorem dX13_atom_75 : decode cX13_atom 75 = .ok (.invokevirtual 220, 3) := by decide +kernel
theorem dX13_atom_78 : decode cX13_atom 78 = .ok (.ifCond .ne 8, 3) := by decide +kernel
theorem dX13_atom_81 : decode cX13_atom 81 = .ok (.aload_n 0, 1) := by decide +kernel
theorem dX13_atom_82 : decode cX13_atom 82 = .ok (.invokevirtual 186, 3) := by decide +kernel
theorem dX13_atom_85 : decode cX13_atom 85 = .ok (.pop, 1) := by decide +kernel
theorem dX13_atom_86 : decode cX13_atom 86 = .ok (.iconst 0, 1) := by decide +kernel
theorem dX13_atom_87 : decode cX13_atom 87 = .ok (.istore_n 2, 1) := by decide +kernel
theorem dX13_atom_88 : decode cX13_atom 88 = .ok (.iconst 0, 1) := by decide +kernel
theorem dX13_atom_89 : decode cX13_atom 89 = .ok (.istore_n 3, 1) := by decide +kernel
theorem dX13_atom_90 : decode cX13_atom 90 = .ok (.aload_n 0, 1) := by decide +kernel
theorem dX13_atom_91 : decode cX13_atom 91 = .ok (.invokevirtual 220, 3) := by decide +kernel
theorem dX13_atom_94 : decode cX13_atom 94 = .ok (.ifCond .eq 62, 3) := by decide +kernel
theorem dX13_atom_97 : decode cX13_atom 97 = .ok (.aload_n 0, 1) := by decide +kernel
theorem dX13_atom_98 : decode cX13_atom 98 = .ok (.getfield 180, 3) := by decide +kernel
theorem dX13_atom_101 : decode cX13_atom 101 = .ok (.iconst (-1), 1) := by decide +kernel
theorem dX13_atom_102 : decode cX13_atom 102 = .ok (.if_icmp .ne 54, 3) := by decide +kernel
theorem dX13_atom_105 : decode cX13_atom 105 = .ok (.iload_n 3, 1) := by decide +kernel
theorem dX13_atom_106 : decode cX13_atom 106 = .ok (.iconst 4, 1) := by decide +kernel
theorem dX13_atom_107 : decode cX13_atom 107 = .ok (.if_icmp .ne 10, 3) := by decide +kernel
theorem dX13_atom_110 : decode cX13_atom 110 = .ok (.aload_n 0, 1) := by decide +kernel
theorem dX13_atom_111 : decode cX13_atom 111 = .ok (.invokevirtual 186, 3) := by decide +kernel
theorem dX13_atom_114 : decode cX13_atom 114 = .ok (.pop, 1) := by decide +kernel
theorem dX13_atom_115 : decode cX13_atom 115 = .ok (.iconst 0, 1) := by decide +kernel
theorem dX13_atom_116 : decode cX13_atom 116 = .ok (.ireturn, 1) := by decide +kernel
theorem dX13_atom_117 : decode cX13_atom 117 = .ok (.bipush 10, 2) := by decide +kernel
theorem dX13_atom_119 : decode cX13_atom 119 = .ok (.iload_n 2, 1) := by decide +kernel
theorem dX13_atom_120 : decode cX13_atom 120 = .ok (.imul, 1) := by decide +kernel
theorem dX13_atom_121 : decode cX13_atom 121 = .ok (.aload_n 0, 1) := by decide +kernel
theorem dX13_atom_122 : decode cX13_atom 122 = .ok (.getfield 23, 3) := by decide +kernel
theorem dX13_atom_125 : decode cX13_atom 125 = .ok (.aload_n 0, 1) := by decide +kernel
theorem dX13_atom_126 : decode cX13_atom 126 = .ok (.getfield 177, 3) := by decide +kernel
theorem dX13_atom_129 : decode cX13_atom 129 = .ok (.aload_n 0, 1) := by decide +kernel
theorem dX13_atom_130 : decode cX13_atom 130 = .ok (.getfield 171, 3) := by decide +kernel
theorem dX13_atom_133 : decode cX13_atom 133 = .ok (.iadd, 1) := by decide +kernel
theorem dX13_atom_134 : decode cX13_atom 134 = .ok (.baload, 1) := by decide +kernel
theorem dX13_atom_135 : decode cX13_atom 135 = .ok (.iadd, 1) := by decide +kernel
theorem dX13_atom_136 : decode cX13_atom 136 = .ok (.bipush 48, 2) := by decide +kernel
theorem dX13_atom_138 : decode cX13_atom 138 = .ok (.isub, 1) := by decide +kernel
theorem dX13_atom_139 : decode cX13_atom 139 = .ok (.istore_n 2, 1) := by decide +kernel
theorem dX13_atom_140 : decode cX13_atom 140 = .ok (.aload_n 0, 1) := by decide +kernel
theorem dX13_atom_141 : decode cX13_atom 141 = .ok (.dup, 1) := by decide +kernel
theorem dX13_atom_142 : decode cX13_atom 142 = .ok (.getfield 171, 3) := by decide +kernel
theorem dX13_atom_145 : decode cX13_atom 145 = .ok (.iconst 1, 1) := by decide +kernel
theorem dX13_atom_146 : decode cX13_atom 146 = .ok (.iadd, 1) := by decide +kernel
theorem dX13_atom_147 : decode cX13_atom 147 = .ok (.putfield 171, 3) := by decide +kernel
theorem dX13_atom_150 : decode cX13_atom 150 = .ok (.iinc 3 1, 3) := by decide +kernel
theorem dX13_atom_153 : decode cX13_atom 153 = .ok (.goto (-63), 3) := by decide +kernel
theorem dX13_atom_156 : decode cX13_atom 156 = .ok (.iload_n 2, 1) := by decide +kernel
theorem dX13_atom_157 : decode cX13_atom 157 = .ok (.ireturn, 1) := by decide +kernel
def fX13_atom_L90 (rc : eg_H → Nat → Option (Int32 × eg_H)) : Nat → eg_H → Nat → Int32 → Int32 → Option ((Int32 × eg_H) ⊕ (Nat × eg_H))
  | 0, _, _, _, _ => none
  | n + 1, h, l0, l2, l3 =>
    (fX13_isDigit h l0).bind fun ⟨v2, h1⟩ =>
    if v2 = 0 then
      (some (.inl (l2, h1)))
    else
      (eg_gI h1 13 11 l0).bind fun v5 =>
      if v5 = (-1 : Int32) then
        (if l3 = (4 : Int32) then
          (some (.inr (l0, h1)))
        else
          (eg_gR h1 13 5 l0).bind fun p9 =>
          (eg_gI h1 13 8 l0).bind fun v11 =>
          (eg_gI h1 13 10 l0).bind fun v13 =>
          (eg_aI h1 102 p9 (v11 + v13)).bind fun v15 =>
          (some (((((10 : Int32) * l2) + v15) - (48 : Int32)))).bind fun v17 =>
          (eg_gI h1 13 10 l0).bind fun v19 =>
          (eg_pI h1 13 10 l0 (v19 + (1 : Int32))).bind fun h21 =>
          fX13_atom_L90 rc n h21 l0 v17 (l3 + (1 : Int32)))
      else
        some (.inl (l2, h1))
set_option maxRecDepth 20000 in
theorem fX13_atom_L90_ok {rc : eg_H → Nat → Option (Int32 × eg_H)} {dr : Nat} (hdr : 5 ≤ dr) (hrc : ∀ (h : eg_H) (a0 : Nat) (rE : Int32) (hE : eg_H), rc h a0 = some (rE, hE) → eg_Met yX13_sum cX13_sum 5 (some .int) dr [.ref a0] h (some (.int rE)) hE) {h0 : eg_H} {Z : eg_C → State → Prop} {N S : Nat} : ∀ (n : Nat) (h : eg_H) (l0 : Nat) (l2 : Int32) (l3 : Int32) (eE : (Int32 × eg_H) ⊕ (Nat × eg_H)), fX13_atom_L90 rc n h l0 l2 l3 = some eE → (hk0 : ∀ (l2 : Int32) (h : eg_H), eE = (.inl (l2, h)) → eg_AW (RX13, cX13_atom, 4, dr + 1, none, "atom", (some .int)) Z N S h0 156 [(2, .int l2)] [] h) → (hk1 : ∀ (l0 : Nat) (h : eg_H), eE = (.inr (l0, h)) → eg_AW (RX13, cX13_atom, 4, dr + 1, none, "atom", (some .int)) Z N S h0 110 [(0, .ref l0)] [] h) → eg_AW (RX13, cX13_atom, 4, dr + 1, none, "atom", (some .int)) Z N S h0 90 [(0, .ref l0), (2, .int l2), (3, .int l3)] [] h := by
  intro n
  induction n with
  | zero => intro h l0 l2 l3 eE hF; exact absurd hF (by intro q; cases q)
  | succ n ih =>
    intro h l0 l2 l3 eE hF hk0 hk1
    have hrec := fun (h' : eg_H) (l0 : Nat) (l2 : Int32) (l3 : Int32) hq => ih h' l0 l2 l3 eE hq hk0 hk1
    refine eg_aload_n (i := 0) 0 dX13_atom_90 rfl rfl ?_
    replace hF := eg_bind hF; obtain ⟨⟨v2, h1⟩, e3, hF⟩ := hF
    refine eg_callV (c := 13) (n := 0) [] dX13_atom_91 (mX13_isDigit e3) rfl (fX13_isDigit_O e3) (Nat.le_of_ble_eq_true rfl) rfl ew_1790 ew_1792 ew_57 ew_110 ew_1793 hy_X13_isDigit rfl (by have := eg_D_eq; omega) (Nat.le_of_ble_eq_true rfl) (Nat.le_of_ble_eq_true rfl) ?_
    refine eg_if_eq 156 dX13_atom_94 rfl (fun c4 => ?_) (fun c4 => ?_)
    · replace hF := eg_it c4 hF
      exact eg_sub [1] [(2, .int l2)] rfl (hk0 l2 h1 (Option.some.inj hF).symm)
    · replace hF := eg_if c4 hF
      refine eg_aload_n (i := 0) 0 dX13_atom_97 rfl rfl ?_
      replace hF := eg_bind hF; obtain ⟨v5, e6, hF⟩ := hF
      refine eg_getI dX13_atom_98 e6 (Nat.le_of_ble_eq_true rfl) (Nat.le_of_ble_eq_true rfl) rfl ew_1445 ?_
      refine eg_iconst (v := (-1 : Int32)) dX13_atom_101 (by decide) ?_
      refine eg_ic_ne 156 dX13_atom_102 rfl (fun c7 => ?_) (fun c7 => ?_)
      · replace hF := eg_it c7 hF
        refine eg_iload_n (i := 3) 2 dX13_atom_105 rfl rfl ?_
        refine eg_iconst (v := (4 : Int32)) dX13_atom_106 (by decide) ?_
        refine eg_ic_ne 117 dX13_atom_107 rfl (fun c8 => ?_) (fun c8 => ?_)
        · replace hF := eg_it c8 hF
          exact eg_sub [0] [(0, .ref l0)] rfl (hk1 l0 h1 (Option.some.inj hF).symm)
        · replace hF := eg_if c8 hF
          refine eg_bipush (v := (10 : Int32)) dX13_atom_117 (by decide) ?_
          refine eg_iload_n (i := 2) 1 dX13_atom_119 rfl rfl ?_
          refine eg_imul dX13_atom_120 ?_
          refine eg_aload_n (i := 0) 0 dX13_atom_121 rfl rfl ?_
          replace hF := eg_bind hF; obtain ⟨p9, e10, hF⟩ := hF
          refine eg_getR dX13_atom_122 e10 (Nat.le_of_ble_eq_true rfl) (Nat.le_of_ble_eq_true rfl) rfl ew_1439 ?_
          refine eg_aload_n (i := 0) 0 dX13_atom_125 rfl rfl ?_
          replace hF := eg_bind hF; obtain ⟨v11, e12, hF⟩ := hF
          refine eg_getI dX13_atom_126 e12 (Nat.le_of_ble_eq_true rfl) (Nat.le_of_ble_eq_true rfl) rfl ew_1442 ?_
          refine eg_aload_n (i := 0) 0 dX13_atom_129 rfl rfl ?_
          replace hF := eg_bind hF; obtain ⟨v13, e14, hF⟩ := hF
          refine eg_getI dX13_atom_130 e14 (Nat.le_of_ble_eq_true rfl) (Nat.le_of_ble_eq_true rfl) rfl ew_1444 ?_
          refine eg_iadd dX13_atom_133 ?_
          replace hF := eg_bind hF; obtain ⟨v15, e16, hF⟩ := hF
          refine eg_bald dX13_atom_134 e16 ?_
          refine eg_iadd dX13_atom_135 ?_
          refine eg_bipush (v := (48 : Int32)) dX13_atom_136 (by decide) ?_
          refine eg_isub dX13_atom_138 ?_
          replace hF := eg_bind hF; obtain ⟨v17, e18, hF⟩ := hF
          replace e18 := Option.some.inj e18
          rw [e18]
          refine eg_istore_n (i := 2) [(2, .int v17), (0, .ref l0), (3, .int l3)] dX13_atom_139 rfl (Nat.le_of_ble_eq_true rfl) rfl ?_
          refine eg_aload_n (i := 0) 1 dX13_atom_140 rfl rfl ?_
          refine eg_dup dX13_atom_141 rfl ?_
          replace hF := eg_bind hF; obtain ⟨v19, e20, hF⟩ := hF
          refine eg_getI dX13_atom_142 e20 (Nat.le_of_ble_eq_true rfl) (Nat.le_of_ble_eq_true rfl) rfl ew_1444 ?_
          refine eg_iconst (v := (1 : Int32)) dX13_atom_145 (by decide) ?_
          refine eg_iadd dX13_atom_146 ?_
          replace hF := eg_bind hF; obtain ⟨h21, e22, hF⟩ := hF
          refine eg_putI dX13_atom_147 e22 (Nat.le_of_ble_eq_true rfl) (Nat.le_of_ble_eq_true rfl) rfl ew_1444 (Or.inl rfl) ?_
          refine eg_iinc (i := 3) (v := (l3 + (1 : Int32))) 2 [(3, .int (l3 + (1 : Int32))), (2, .int v17), (0, .ref l0)] dX13_atom_150 rfl rfl (Nat.le_of_ble_eq_true rfl) rfl ?_
          refine eg_goto 90 dX13_atom_153 rfl ?_
          exact eg_sub [2, 1, 0] [(0, .ref l0), (2, .int v17), (3, .int (l3 + (1 : Int32)))] rfl (hrec h21 l0 v17 (l3 + (1 : Int32)) hF)
      · replace hF := eg_if c7 hF
        exact eg_sub [1] [(2, .int l2)] rfl (hk0 l2 h1 (Option.some.inj hF).symm)
def fX13_atom_j86 (rc : eg_H → Nat → Option (Int32 × eg_H)) (h : eg_H) (l0 : Nat) : Option (Int32 × eg_H) :=
  (fX13_atom_L90 rc eg_F h l0 (0 : Int32) (0 : Int32)).bind fun e =>
  match e with
  | .inl (v3, h4) =>
    some (v3, h4)
  | .inr (p6, h7) =>
    (fX13_fails h7 p6).bind fun ⟨v9, h8⟩ =>
    some ((0 : Int32), h8)
set_option maxRecDepth 20000 in
theorem fX13_atom_j86_ok {rc : eg_H → Nat → Option (Int32 × eg_H)} {dr : Nat} (hdr : 5 ≤ dr) (hrc : ∀ (h : eg_H) (a0 : Nat) (rE : Int32) (hE : eg_H), rc h a0 = some (rE, hE) → eg_Met yX13_sum cX13_sum 5 (some .int) dr [.ref a0] h (some (.int rE)) hE) {h0 : eg_H} (h : eg_H) (l0 : Nat) {rE : Int32} {hE : eg_H} (hF : fX13_atom_j86 rc h l0 = some (rE, hE)) : eg_AW (RX13, cX13_atom, 4, dr + 1, none, "atom", (some .int)) (eg_Zm (some (.int rE)) hE h0) (eg_nc hE) (eg_ns hE) h0 86 [(0, .ref l0)] [] h := by
  refine eg_iconst (v := (0 : Int32)) dX13_atom_86 (by decide) ?_
  refine eg_istore_n (i := 2) [(2, .int (0 : Int32)), (0, .ref l0)] dX13_atom_87 rfl (Nat.le_of_ble_eq_true rfl) rfl ?_
  refine eg_iconst (v := (0 : Int32)) dX13_atom_88 (by decide) ?_
  refine eg_istore_n (i := 3) [(3, .int (0 : Int32)), (2, .int (0 : Int32)), (0, .ref l0)] dX13_atom_89 rfl (Nat.le_of_ble_eq_true rfl) rfl ?_
  replace hF := eg_bind hF; obtain ⟨x2, e1, hF⟩ := hF
  refine eg_sub [2, 1, 0] [(0, .ref l0), (2, .int (0 : Int32)), (3, .int (0 : Int32))] rfl (fX13_atom_L90_ok hdr hrc eg_F h l0 (0 : Int32) (0 : Int32) x2 e1 ?_ ?_)
  · intro v3 h4 e5
    subst e5
    refine eg_iload_n (i := 2) 0 dX13_atom_156 rfl rfl ?_
    exact eg_iretE dX13_atom_157 hF
  · intro p6 h7 e11
    subst e11
    refine eg_aload_n (i := 0) 0 dX13_atom_110 rfl rfl ?_
    replace hF := eg_bind hF; obtain ⟨⟨v9, h8⟩, e10, hF⟩ := hF
    refine eg_callV (c := 13) (n := 0) [] dX13_atom_111 (mX13_fails e10) rfl (fX13_fails_O e10) (Nat.le_of_ble_eq_true rfl) rfl ew_1719 ew_1721 ew_55 ew_110 ew_1722 hy_X13_fails rfl (by have := eg_D_eq; omega) (Nat.le_of_ble_eq_true rfl) (Nat.le_of_ble_eq_true rfl) ?_
    refine eg_pop dX13_atom_114 rfl ?_
    refine eg_iconst (v := (0 : Int32)) dX13_atom_115 (by decide) ?_
    exact eg_iretE dX13_atom_116 hF
def fX13_atom (rc : eg_H → Nat → Option (Int32 × eg_H)) (h : eg_H) (l0 : Nat) : Option (Int32 × eg_H) :=
  if eg_isO h 13 l0 then (
    (fX13_look h l0).bind fun ⟨v2, h1⟩ =>
    (fX13_isAmong h1 6 v2).bind fun ⟨v5, h4⟩ =>
    if v5 = 0 then
      (if v2 = (91 : Int32) then
        ((fX13_goesIn h4 l0).bind fun ⟨v10, h9⟩ =>
        if v10 = 0 then
          (some ((0 : Int32), h9))
        else
          if eg_isO h9 13 l0 then (
          (rc h9 l0).bind fun ⟨v14, h13⟩ =>
          (fX13_takes h13 l0 (93 : Int32)).bind fun ⟨v18, h17⟩ =>
          if v18 = 0 then
            (some ((0 : Int32), h17))
          else
            (eg_gI h17 13 12 l0).bind fun v21 =>
            (eg_pI h17 13 12 l0 (v21 - (1 : Int32))).bind fun h23 =>
            some (v14, h23)) else none)
      else
        (fX13_isDigit h4 l0).bind fun ⟨v26, h25⟩ =>
        if v26 = 0 then
          ((fX13_fails h25 l0).bind fun ⟨v30, h29⟩ =>
          fX13_atom_j86 rc h29 l0)
        else
          fX13_atom_j86 rc h25 l0)
    else
      (eg_gI h4 13 10 l0).bind fun v32 =>
      (eg_pI h4 13 10 l0 (v32 + (1 : Int32))).bind fun h34 =>
      (eg_gR h34 13 4 l0).bind fun p36 =>
      (eg_aI h34 100 p36 v2).bind fun v38 =>
      some (v38, h34)) else none
theorem fX13_atom_O {rc : eg_H → Nat → Option (Int32 × eg_H)} {h : eg_H} {l0 : Nat} {rE : Int32} {hE : eg_H} (hF : fX13_atom rc h l0 = some (rE, hE)) : eg_isO h 13 l0 := (eg_ifn hF).1
set_option maxRecDepth 20000 in
theorem mX13_atom {rc : eg_H → Nat → Option (Int32 × eg_H)} {dr : Nat} (hdr : 5 ≤ dr) (hrc : ∀ (h : eg_H) (a0 : Nat) (rE : Int32) (hE : eg_H), rc h a0 = some (rE, hE) → eg_Met yX13_sum cX13_sum 5 (some .int) dr [.ref a0] h (some (.int rE)) hE) {h : eg_H} {l0 : Nat} {rE : Int32} {hE : eg_H} (hF : fX13_atom rc h l0 = some (rE, hE)) : eg_Met yX13_atom cX13_atom 4 (some .int) (dr + 1) [.ref l0] h (some (.int rE)) hE := by
  refine eg_enter rfl (Nat.le_of_ble_eq_true rfl) ?_
  show eg_AW (RX13, cX13_atom, 4, dr + 1, none, "atom", (some .int)) (eg_Zm (some (.int rE)) hE h) (eg_nc hE) (eg_ns hE) h 0 [(0, .ref l0)] [] h
  replace hF := (eg_ifn hF).2
  refine eg_aload_n (i := 0) 0 dX13_atom_0 rfl rfl ?_
  replace hF := eg_bind hF; obtain ⟨⟨v2, h1⟩, e3, hF⟩ := hF
  refine eg_callV (c := 13) (n := 0) [] dX13_atom_1 (mX13_look e3) rfl (fX13_look_O e3) (Nat.le_of_ble_eq_true rfl) rfl ew_1715 ew_1717 ew_54 ew_110 ew_1718 hy_X13_look rfl (by have := eg_D_eq; omega) (Nat.le_of_ble_eq_true rfl) (Nat.le_of_ble_eq_true rfl) ?_
  refine eg_istore_n (i := 1) [(1, .int v2), (0, .ref l0)] dX13_atom_4 rfl (Nat.le_of_ble_eq_true rfl) rfl ?_
  refine eg_ldcS (i := 1) dX13_atom_5 (by decide) rfl rfl ?_
  refine eg_iload_n (i := 1) 0 dX13_atom_7 rfl rfl ?_
  replace hF := eg_bind hF; obtain ⟨⟨v5, h4⟩, e6, hF⟩ := hF
  refine eg_callS (n := 2) [.ref 6, .int v2] dX13_atom_8 (mX13_isAmong e6) rfl ew_1806 ew_1807 ew_110 ew_1808 hy_X13_isAmong.2 rfl (by have := eg_D_eq; omega) (Nat.le_of_ble_eq_true rfl) (Nat.le_of_ble_eq_true rfl) ?_
  refine eg_if_eq 31 dX13_atom_11 rfl (fun c7 => ?_) (fun c7 => ?_)
  · replace hF := eg_it c7 hF
    refine eg_iload_n (i := 1) 0 dX13_atom_31 rfl rfl ?_
    refine eg_bipush (v := (91 : Int32)) dX13_atom_32 (by decide) ?_
    refine eg_ic_ne 74 dX13_atom_34 rfl (fun c8 => ?_) (fun c8 => ?_)
    · replace hF := eg_it c8 hF
      refine eg_aload_n (i := 0) 1 dX13_atom_37 rfl rfl ?_
      replace hF := eg_bind hF; obtain ⟨⟨v10, h9⟩, e11, hF⟩ := hF
      refine eg_callV (c := 13) (n := 0) [] dX13_atom_38 (mX13_goesIn e11) rfl (fX13_goesIn_O e11) (Nat.le_of_ble_eq_true rfl) rfl ew_1837 ew_1839 ew_68 ew_110 ew_1840 hy_X13_goesIn rfl (by have := eg_D_eq; omega) (Nat.le_of_ble_eq_true rfl) (Nat.le_of_ble_eq_true rfl) ?_
      refine eg_if_ne 46 dX13_atom_41 rfl (fun c12 => ?_) (fun c12 => ?_)
      · replace hF := eg_it c12 hF
        refine eg_iconst (v := (0 : Int32)) dX13_atom_44 (by decide) ?_
        exact eg_iretE dX13_atom_45 hF
      · replace hF := eg_if c12 hF
        refine eg_aload_n (i := 0) 1 dX13_atom_46 rfl rfl ?_
        replace hF := eg_ifn hF; obtain ⟨c16, hF⟩ := hF
        replace hF := eg_bind hF; obtain ⟨⟨v14, h13⟩, e15, hF⟩ := hF
        refine eg_callV (c := 13) (n := 0) [] dX13_atom_47 (hrc _ _ _ _ e15) rfl c16 (Nat.le_of_ble_eq_true rfl) rfl ew_1825 ew_1827 ew_65 ew_110 ew_1828 hy_X13_sum rfl (by have := eg_D_eq; omega) (Nat.le_of_ble_eq_true rfl) (Nat.le_of_ble_eq_true rfl) ?_
        refine eg_istore_n (i := 2) [(2, .int v14), (1, .int v2), (0, .ref l0)] dX13_atom_50 rfl (Nat.le_of_ble_eq_true rfl) rfl ?_
        refine eg_aload_n (i := 0) 2 dX13_atom_51 rfl rfl ?_
        refine eg_bipush (v := (93 : Int32)) dX13_atom_52 (by decide) ?_
        replace hF := eg_bind hF; obtain ⟨⟨v18, h17⟩, e19, hF⟩ := hF
        refine eg_callV (c := 13) (n := 1) [.int (93 : Int32)] dX13_atom_54 (mX13_takes e19) rfl (fX13_takes_O e19) (Nat.le_of_ble_eq_true rfl) rfl ew_1809 ew_1811 ew_61 ew_110 ew_1812 hy_X13_takes rfl (by have := eg_D_eq; omega) (Nat.le_of_ble_eq_true rfl) (Nat.le_of_ble_eq_true rfl) ?_
        refine eg_if_ne 62 dX13_atom_57 rfl (fun c20 => ?_) (fun c20 => ?_)
        · replace hF := eg_it c20 hF
          refine eg_iconst (v := (0 : Int32)) dX13_atom_60 (by decide) ?_
          exact eg_iretE dX13_atom_61 hF
        · replace hF := eg_if c20 hF
          refine eg_aload_n (i := 0) 2 dX13_atom_62 rfl rfl ?_
          refine eg_dup dX13_atom_63 rfl ?_
          replace hF := eg_bind hF; obtain ⟨v21, e22, hF⟩ := hF
          refine eg_getI dX13_atom_64 e22 (Nat.le_of_ble_eq_true rfl) (Nat.le_of_ble_eq_true rfl) rfl ew_1446 ?_
          refine eg_iconst (v := (1 : Int32)) dX13_atom_67 (by decide) ?_
          refine eg_isub dX13_atom_68 ?_
          replace hF := eg_bind hF; obtain ⟨h23, e24, hF⟩ := hF
          refine eg_putI dX13_atom_69 e24 (Nat.le_of_ble_eq_true rfl) (Nat.le_of_ble_eq_true rfl) rfl ew_1446 (Or.inl rfl) ?_
          refine eg_iload_n (i := 2) 0 dX13_atom_72 rfl rfl ?_
          exact eg_iretE dX13_atom_73 hF
    · replace hF := eg_if c8 hF
      refine eg_aload_n (i := 0) 1 dX13_atom_74 rfl rfl ?_
      replace hF := eg_bind hF; obtain ⟨⟨v26, h25⟩, e27, hF⟩ := hF
      refine eg_callV (c := 13) (n := 0) [] dX13_atom_75 (mX13_isDigit e27) rfl (fX13_isDigit_O e27) (Nat.le_of_ble_eq_true rfl) rfl ew_1790 ew_1792 ew_57 ew_110 ew_1793 hy_X13_isDigit rfl (by have := eg_D_eq; omega) (Nat.le_of_ble_eq_true rfl) (Nat.le_of_ble_eq_true rfl) ?_
      refine eg_if_ne 86 dX13_atom_78 rfl (fun c28 => ?_) (fun c28 => ?_)
      · replace hF := eg_it c28 hF
        refine eg_aload_n (i := 0) 1 dX13_atom_81 rfl rfl ?_
        replace hF := eg_bind hF; obtain ⟨⟨v30, h29⟩, e31, hF⟩ := hF
        refine eg_callV (c := 13) (n := 0) [] dX13_atom_82 (mX13_fails e31) rfl (fX13_fails_O e31) (Nat.le_of_ble_eq_true rfl) rfl ew_1719 ew_1721 ew_55 ew_110 ew_1722 hy_X13_fails rfl (by have := eg_D_eq; omega) (Nat.le_of_ble_eq_true rfl) (Nat.le_of_ble_eq_true rfl) ?_
        refine eg_pop dX13_atom_85 rfl ?_
        exact eg_sub [1] [(0, .ref l0)] rfl (fX13_atom_j86_ok hdr hrc h29 l0 hF)
      · replace hF := eg_if c28 hF
        exact eg_sub [1] [(0, .ref l0)] rfl (fX13_atom_j86_ok hdr hrc h25 l0 hF)
  · replace hF := eg_if c7 hF
    refine eg_aload_n (i := 0) 1 dX13_atom_14 rfl rfl ?_
    refine eg_dup dX13_atom_15 rfl ?_
    replace hF := eg_bind hF; obtain ⟨v32, e33, hF⟩ := hF
    refine eg_getI dX13_atom_16 e33 (Nat.le_of_ble_eq_true rfl) (Nat.le_of_ble_eq_true rfl) rfl ew_1444 ?_
    refine eg_iconst (v := (1 : Int32)) dX13_atom_19 (by decide) ?_
    refine eg_iadd dX13_atom_20 ?_
    replace hF := eg_bind hF; obtain ⟨h34, e35, hF⟩ := hF
    refine eg_putI dX13_atom_21 e35 (Nat.le_of_ble_eq_true rfl) (Nat.le_of_ble_eq_true rfl) rfl ew_1444 (Or.inl rfl) ?_
    refine eg_aload_n (i := 0) 1 dX13_atom_24 rfl rfl ?_
    replace hF := eg_bind hF; obtain ⟨p36, e37, hF⟩ := hF
    refine eg_getR dX13_atom_25 e37 (Nat.le_of_ble_eq_true rfl) (Nat.le_of_ble_eq_true rfl) rfl ew_1438 ?_
    refine eg_iload_n (i := 1) 0 dX13_atom_28 rfl rfl ?_
    replace hF := eg_bind hF; obtain ⟨v38, e39, hF⟩ := hF
    refine eg_iald dX13_atom_29 e39 ?_
    exact eg_iretE dX13_atom_30 hF
theorem dX13_term_0 : decode cX13_term 0 = .ok (.aload_n 0, 1) := by decide +kernel
theorem dX13_term_1 : decode cX13_term 1 = .ok (.invokevirtual 223, 3) := by decide +kernel
theorem dX13_term_4 : decode cX13_term 4 = .ok (.istore_n 1, 1) := by decide +kernel
theorem dX13_term_5 : decode cX13_term 5 = .ok (.aload_n 0, 1) := by decide +kernel
theorem dX13_term_6 : decode cX13_term 6 = .ok (.getfield 180, 3) := by decide +kernel
theorem dX13_term_9 : decode cX13_term 9 = .ok (.iconst (-1), 1) := by decide +kernel
theorem dX13_term_10 : decode cX13_term 10 = .ok (.if_icmp .ne 84, 3) := by decide +kernel
theorem dX13_term_13 : decode cX13_term 13 = .ok (.aload_n 0, 1) := by decide +kernel
theorem dX13_term_14 : decode cX13_term 14 = .ok (.invokevirtual 190, 3) := by decide +kernel
theorem dX13_term_17 : decode cX13_term 17 = .ok (.bipush 42, 2) := by decide +kernel
theorem dX13_term_19 : decode cX13_term 19 = .ok (.if_icmp .eq 12, 3) := by decide +kernel
theorem dX13_term_22 : decode cX13_term 22 = .ok (.aload_n 0, 1) := by decide +kernel
theorem dX13_term_23 : decode cX13_term 23 = .ok (.invokevirtual 190, 3) := by decide +kernel
theorem dX13_term_26 : decode cX13_term 26 = .ok (.bipush 47, 2) := by decide +kernel
theorem dX13_term_28 : decode cX13_term 28 = .ok (.if_icmp .ne 66, 3) := by decide +kernel
theorem dX13_term_31 : decode cX13_term 31 = .ok (.aload_n 0, 1) := by decide +kernel
theorem dX13_term_32 : decode cX13_term 32 = .ok (.invokevirtual 190, 3) := by decide +kernel
theorem dX13_term_35 : decode cX13_term 35 = .ok (.bipush 42, 2) := by decide +kernel
theorem dX13_term_37 : decode cX13_term 37 = .ok (.if_icmp .ne 7, 3) := by decide +kernel
theorem dX13_term_40 : decode cX13_term 40 = .ok (.iconst 1, 1) := by decide +kernel
theorem dX13_term_41 : decode cX13_term 41 = .ok (.goto 4, 3) := by decide +kernel
theorem dX13_term_44 : decode cX13_term 44 = .ok (.iconst 0, 1) := by decide +kernel
theorem dX13_term_45 : decode cX13_term 45 = .ok (.istore_n 2, 1) := by decide +kernel
theorem dX13_term_46 : decode cX13_term 46 = .ok (.aload_n 0, 1) := by decide +kernel
theorem dX13_term_47 : decode cX13_term 47 = .ok (.dup, 1) := by decide +kernel
theorem dX13_term_48 : decode cX13_term 48 = .ok (.getfield 171, 3) := by decide +kernel
theorem dX13_term_51 : decode cX13_term 51 = .ok (.iconst 1, 1) := by decide +kernel
theorem dX13_term_52 : decode cX13_term 52 = .ok (.iadd, 1) := by decide +kernel
theorem dX13_term_53 : decode cX13_term 53 = .ok (.putfield 171, 3) := by decide +kernel
theorem dX13_term_56 : decode cX13_term 56 = .ok (.aload_n 0, 1) := by decide +kernel
theorem dX13_term_57 : decode cX13_term 57 = .ok (.invokevirtual 223, 3) := by decide +kernel
theorem dX13_term_60 : decode cX13_term 60 = .ok (.i2l, 1) := by decide +kernel
theorem dX13_term_61 : decode cX13_term 61 = .ok (.lstore_n 3, 1) := by decide +kernel
theorem dX13_term_62 : decode cX13_term 62 = .ok (.iload_n 2, 1) := by decide +kernel
theorem dX13_term_63 : decode cX13_term 63 = .ok (.ifCond .eq 10, 3) := by decide +kernel
theorem dX13_term_66 : decode cX13_term 66 = .ok (.iload_n 1, 1) := by decide +kernel
theorem dX13_term_67 : decode cX13_term 67 = .ok (.i2l, 1) := by decide +kernel
theorem dX13_term_68 : decode cX13_term 68 = .ok (.lload_n 3, 1) := by decide +kernel
theorem dX13_term_69 : decode cX13_term 69 = .ok (.lmul, 1) := by decide +kernel
theorem dX13_term_70 : decode cX13_term 70 = .ok (.goto 17, 3) := by decide +kernel
theorem dX13_term_73 : decode cX13_term 73 = .ok (.lload_n 3, 1) := by decide +kernel
theorem dX13_term_74 : decode cX13_term 74 = .ok (.lconst 0, 1) := by decide +kernel
theorem dX13_term_75 : decode cX13_term 75 = .ok (.lcmp, 1) := by decide +kernel
theorem dX13_term_76 : decode cX13_term 76 = .ok (.ifCond .ne 7, 3) := by decide +kernel
theorem dX13_term_79 : decode cX13_term 79 = .ok (.lconst 0, 1) := by decide +kernel
theorem dX13_term_80 : decode cX13_term 80 = .ok (.goto 7, 3) := by decide +kernel
theorem dX13_term_83 : decode cX13_term 83 = .ok (.iload_n 1, 1) := by decide +kernel
theorem dX13_term_84 : decode cX13_term 84 = .ok (.i2l, 1) := by decide +kernel
theorem dX13_term_85 : decode cX13_term 85 = .ok (.lload_n 3, 1) := by decide +kernel
theorem dX13_term_86 : decode cX13_term 86 = .ok (.ldiv, 1) := by decide +kernel
theorem dX13_term_87 : decode cX13_term 87 = .ok (.invokestatic 226, 3) := by decide +kernel
theorem dX13_term_90 : decode cX13_term 90 = .ok (.istore_n 1, 1) := by decide +kernel
theorem dX13_term_91 : decode cX13_term 91 = .ok (.goto (-86), 3) := by decide +kernel
theorem dX13_term_94 : decode cX13_term 94 = .ok (.iload_n 1, 1) := by decide +kernel
theorem dX13_term_95 : decode cX13_term 95 = .ok (.ireturn, 1) := by decide +kernel
def fX13_term_j45 (rc : eg_H → Nat → Option (Int32 × eg_H)) (rec : eg_H → Nat → Int32 → Option (Int32 × eg_H)) (h : eg_H) (l0 : Nat) (l1 : Int32) (s0 : Int32) : Option (Int32 × eg_H) :=
  (eg_gI h 13 10 l0).bind fun v1 =>
  (eg_pI h 13 10 l0 (v1 + (1 : Int32))).bind fun h3 =>
  (fX13_atom rc h3 l0).bind fun ⟨v6, h5⟩ =>
  (some (v6.toInt64)).bind fun v8 =>
  if s0 = 0 then
    (if v8 = (0 : Int64) then
      ((fX13_within h5 (0 : Int64)).bind fun ⟨v13, h12⟩ =>
      rec h12 l0 v13)
    else
      if v8 = 0 then none else
      (fX13_within h5 (l1.toInt64 / v8)).bind fun ⟨v17, h16⟩ =>
      rec h16 l0 v17)
  else
    (fX13_within h5 (l1.toInt64 * v8)).bind fun ⟨v20, h19⟩ =>
    rec h19 l0 v20
set_option maxRecDepth 20000 in
theorem fX13_term_j45_ok {rc : eg_H → Nat → Option (Int32 × eg_H)} {dr : Nat} (hdr : 5 ≤ dr) (hrc : ∀ (h : eg_H) (a0 : Nat) (rE : Int32) (hE : eg_H), rc h a0 = some (rE, hE) → eg_Met yX13_sum cX13_sum 5 (some .int) dr [.ref a0] h (some (.int rE)) hE) {rec : eg_H → Nat → Int32 → Option (Int32 × eg_H)} {h0 : eg_H} {Z : eg_C → State → Prop} {N S : Nat} (h : eg_H) (l0 : Nat) (l1 : Int32) (s0 : Int32) (eE : Int32 × eg_H) (hF : fX13_term_j45 rc rec h l0 l1 s0 = some eE) (hrec : ∀ (h : eg_H) (l0 : Nat) (l1 : Int32), rec h l0 l1 = some eE → eg_AW (RX13, cX13_term, 5, dr + 2, none, "term", (some .int)) Z N S h0 5 [(0, .ref l0), (1, .int l1)] [] h) (hk0 : ∀ (l1 : Int32) (h : eg_H), eE = (l1, h) → eg_AW (RX13, cX13_term, 5, dr + 2, none, "term", (some .int)) Z N S h0 94 [(1, .int l1)] [] h) : eg_AW (RX13, cX13_term, 5, dr + 2, none, "term", (some .int)) Z N S h0 45 [(0, .ref l0), (1, .int l1)] [.int s0] h := by
  refine eg_istore_n (i := 2) [(2, .int s0), (0, .ref l0), (1, .int l1)] dX13_term_45 rfl (Nat.le_of_ble_eq_true rfl) rfl ?_
  refine eg_aload_n (i := 0) 1 dX13_term_46 rfl rfl ?_
  refine eg_dup dX13_term_47 rfl ?_
  replace hF := eg_bind hF; obtain ⟨v1, e2, hF⟩ := hF
  refine eg_getI dX13_term_48 e2 (Nat.le_of_ble_eq_true rfl) (Nat.le_of_ble_eq_true rfl) rfl ew_1444 ?_
  refine eg_iconst (v := (1 : Int32)) dX13_term_51 (by decide) ?_
  refine eg_iadd dX13_term_52 ?_
  replace hF := eg_bind hF; obtain ⟨h3, e4, hF⟩ := hF
  refine eg_putI dX13_term_53 e4 (Nat.le_of_ble_eq_true rfl) (Nat.le_of_ble_eq_true rfl) rfl ew_1444 (Or.inl rfl) ?_
  refine eg_aload_n (i := 0) 1 dX13_term_56 rfl rfl ?_
  replace hF := eg_bind hF; obtain ⟨⟨v6, h5⟩, e7, hF⟩ := hF
  refine eg_callV (c := 13) (n := 0) [] dX13_term_57 (mX13_atom hdr hrc e7) rfl (fX13_atom_O e7) (Nat.le_of_ble_eq_true rfl) rfl ew_1833 ew_1835 ew_67 ew_110 ew_1836 hy_X13_atom rfl (by have := eg_D_eq; omega) (Nat.le_of_ble_eq_true rfl) (Nat.le_of_ble_eq_true rfl) ?_
  refine eg_i2l dX13_term_60 ?_
  replace hF := eg_bind hF; obtain ⟨v8, e9, hF⟩ := hF
  replace e9 := Option.some.inj e9
  rw [e9]
  refine eg_lstore_n (i := 3) [(3, .long v8), (2, .int s0), (0, .ref l0), (1, .int l1)] dX13_term_61 rfl (Nat.le_of_ble_eq_true rfl) rfl ?_
  refine eg_iload_n (i := 2) 1 dX13_term_62 rfl rfl ?_
  refine eg_if_eq 73 dX13_term_63 rfl (fun c10 => ?_) (fun c10 => ?_)
  · replace hF := eg_it c10 hF
    refine eg_lload_n (i := 3) 0 dX13_term_73 rfl rfl ?_
    refine eg_lconst (v := (0 : Int64)) dX13_term_74 (by decide) ?_
    refine eg_lc_ne 83 dX13_term_75 dX13_term_76 rfl (fun c11 => ?_) (fun c11 => ?_)
    · replace hF := eg_it c11 hF
      refine eg_lconst (v := (0 : Int64)) dX13_term_79 (by decide) ?_
      refine eg_goto 87 dX13_term_80 rfl ?_
      replace hF := eg_bind hF; obtain ⟨⟨v13, h12⟩, e14, hF⟩ := hF
      refine eg_callS (n := 1) [.long (0 : Int64)] dX13_term_87 (mX13_within e14) rfl ew_1841 ew_1842 ew_110 ew_1843 hy_X13_within.2 rfl (by have := eg_D_eq; omega) (Nat.le_of_ble_eq_true rfl) (Nat.le_of_ble_eq_true rfl) ?_
      refine eg_istore_n (i := 1) [(1, .int v13), (3, .long v8), (2, .int s0), (0, .ref l0)] dX13_term_90 rfl (Nat.le_of_ble_eq_true rfl) rfl ?_
      refine eg_goto 5 dX13_term_91 rfl ?_
      exact eg_sub [3, 0] [(0, .ref l0), (1, .int v13)] rfl (hrec h12 l0 v13 hF)
    · replace hF := eg_if c11 hF
      refine eg_iload_n (i := 1) 3 dX13_term_83 rfl rfl ?_
      refine eg_i2l dX13_term_84 ?_
      refine eg_lload_n (i := 3) 0 dX13_term_85 rfl rfl ?_
      replace hF := eg_nif hF; obtain ⟨c15, hF⟩ := hF
      refine eg_ldiv dX13_term_86 c15 ?_
      replace hF := eg_bind hF; obtain ⟨⟨v17, h16⟩, e18, hF⟩ := hF
      refine eg_callS (n := 1) [.long (l1.toInt64 / v8)] dX13_term_87 (mX13_within e18) rfl ew_1841 ew_1842 ew_110 ew_1843 hy_X13_within.2 rfl (by have := eg_D_eq; omega) (Nat.le_of_ble_eq_true rfl) (Nat.le_of_ble_eq_true rfl) ?_
      refine eg_istore_n (i := 1) [(1, .int v17), (3, .long v8), (2, .int s0), (0, .ref l0)] dX13_term_90 rfl (Nat.le_of_ble_eq_true rfl) rfl ?_
      refine eg_goto 5 dX13_term_91 rfl ?_
      exact eg_sub [3, 0] [(0, .ref l0), (1, .int v17)] rfl (hrec h16 l0 v17 hF)
  · replace hF := eg_if c10 hF
    refine eg_iload_n (i := 1) 3 dX13_term_66 rfl rfl ?_
    refine eg_i2l dX13_term_67 ?_
    refine eg_lload_n (i := 3) 0 dX13_term_68 rfl rfl ?_
    refine eg_lmul dX13_term_69 ?_
    refine eg_goto 87 dX13_term_70 rfl ?_
    replace hF := eg_bind hF; obtain ⟨⟨v20, h19⟩, e21, hF⟩ := hF
    refine eg_callS (n := 1) [.long (l1.toInt64 * v8)] dX13_term_87 (mX13_within e21) rfl ew_1841 ew_1842 ew_110 ew_1843 hy_X13_within.2 rfl (by have := eg_D_eq; omega) (Nat.le_of_ble_eq_true rfl) (Nat.le_of_ble_eq_true rfl) ?_
    refine eg_istore_n (i := 1) [(1, .int v20), (3, .long v8), (2, .int s0), (0, .ref l0)] dX13_term_90 rfl (Nat.le_of_ble_eq_true rfl) rfl ?_
    refine eg_goto 5 dX13_term_91 rfl ?_
    exact eg_sub [3, 0] [(0, .ref l0), (1, .int v20)] rfl (hrec h19 l0 v20 hF)
def fX13_term_j31 (rc : eg_H → Nat → Option (Int32 × eg_H)) (rec : eg_H → Nat → Int32 → Option (Int32 × eg_H)) (h : eg_H) (l0 : Nat) (l1 : Int32) : Option (Int32 × eg_H) :=
  (fX13_look h l0).bind fun ⟨v2, h1⟩ =>
  if v2 = (42 : Int32) then
    (fX13_term_j45 rc rec h1 l0 l1 (1 : Int32))
  else
    fX13_term_j45 rc rec h1 l0 l1 (0 : Int32)
set_option maxRecDepth 20000 in
theorem fX13_term_j31_ok {rc : eg_H → Nat → Option (Int32 × eg_H)} {dr : Nat} (hdr : 5 ≤ dr) (hrc : ∀ (h : eg_H) (a0 : Nat) (rE : Int32) (hE : eg_H), rc h a0 = some (rE, hE) → eg_Met yX13_sum cX13_sum 5 (some .int) dr [.ref a0] h (some (.int rE)) hE) {rec : eg_H → Nat → Int32 → Option (Int32 × eg_H)} {h0 : eg_H} {Z : eg_C → State → Prop} {N S : Nat} (h : eg_H) (l0 : Nat) (l1 : Int32) (eE : Int32 × eg_H) (hF : fX13_term_j31 rc rec h l0 l1 = some eE) (hrec : ∀ (h : eg_H) (l0 : Nat) (l1 : Int32), rec h l0 l1 = some eE → eg_AW (RX13, cX13_term, 5, dr + 2, none, "term", (some .int)) Z N S h0 5 [(0, .ref l0), (1, .int l1)] [] h) (hk0 : ∀ (l1 : Int32) (h : eg_H), eE = (l1, h) → eg_AW (RX13, cX13_term, 5, dr + 2, none, "term", (some .int)) Z N S h0 94 [(1, .int l1)] [] h) : eg_AW (RX13, cX13_term, 5, dr + 2, none, "term", (some .int)) Z N S h0 31 [(0, .ref l0), (1, .int l1)] [] h := by
  refine eg_aload_n (i := 0) 0 dX13_term_31 rfl rfl ?_
  replace hF := eg_bind hF; obtain ⟨⟨v2, h1⟩, e3, hF⟩ := hF
  refine eg_callV (c := 13) (n := 0) [] dX13_term_32 (mX13_look e3) rfl (fX13_look_O e3) (Nat.le_of_ble_eq_true rfl) rfl ew_1715 ew_1717 ew_54 ew_110 ew_1718 hy_X13_look rfl (by have := eg_D_eq; omega) (Nat.le_of_ble_eq_true rfl) (Nat.le_of_ble_eq_true rfl) ?_
  refine eg_bipush (v := (42 : Int32)) dX13_term_35 (by decide) ?_
  refine eg_ic_ne 44 dX13_term_37 rfl (fun c4 => ?_) (fun c4 => ?_)
  · replace hF := eg_it c4 hF
    refine eg_iconst (v := (1 : Int32)) dX13_term_40 (by decide) ?_
    refine eg_goto 45 dX13_term_41 rfl ?_
    exact (fX13_term_j45_ok hdr hrc h1 l0 l1 (1 : Int32) eE hF hrec hk0)
  · replace hF := eg_if c4 hF
    refine eg_iconst (v := (0 : Int32)) dX13_term_44 (by decide) ?_
    exact (fX13_term_j45_ok hdr hrc h1 l0 l1 (0 : Int32) eE hF hrec hk0)
def fX13_term_L5 (rc : eg_H → Nat → Option (Int32 × eg_H)) : Nat → eg_H → Nat → Int32 → Option (Int32 × eg_H)
  | 0, _, _, _ => none
  | n + 1, h, l0, l1 =>
    (eg_gI h 13 11 l0).bind fun v1 =>
    if v1 = (-1 : Int32) then
      ((fX13_look h l0).bind fun ⟨v5, h4⟩ =>
      if v5 = (42 : Int32) then
        (fX13_term_j31 rc (fX13_term_L5 rc n) h4 l0 l1)
      else
        (fX13_look h4 l0).bind fun ⟨v9, h8⟩ =>
        if v9 = (47 : Int32) then
          (fX13_term_j31 rc (fX13_term_L5 rc n) h8 l0 l1)
        else
          some (l1, h8))
    else
      some (l1, h)
set_option maxRecDepth 20000 in
theorem fX13_term_L5_ok {rc : eg_H → Nat → Option (Int32 × eg_H)} {dr : Nat} (hdr : 5 ≤ dr) (hrc : ∀ (h : eg_H) (a0 : Nat) (rE : Int32) (hE : eg_H), rc h a0 = some (rE, hE) → eg_Met yX13_sum cX13_sum 5 (some .int) dr [.ref a0] h (some (.int rE)) hE) {h0 : eg_H} {Z : eg_C → State → Prop} {N S : Nat} : ∀ (n : Nat) (h : eg_H) (l0 : Nat) (l1 : Int32) (eE : Int32 × eg_H), fX13_term_L5 rc n h l0 l1 = some eE → (hk0 : ∀ (l1 : Int32) (h : eg_H), eE = (l1, h) → eg_AW (RX13, cX13_term, 5, dr + 2, none, "term", (some .int)) Z N S h0 94 [(1, .int l1)] [] h) → eg_AW (RX13, cX13_term, 5, dr + 2, none, "term", (some .int)) Z N S h0 5 [(0, .ref l0), (1, .int l1)] [] h := by
  intro n
  induction n with
  | zero => intro h l0 l1 eE hF; exact absurd hF (by intro q; cases q)
  | succ n ih =>
    intro h l0 l1 eE hF hk0
    have hrec := fun (h' : eg_H) (l0 : Nat) (l1 : Int32) hq => ih h' l0 l1 eE hq hk0
    refine eg_aload_n (i := 0) 0 dX13_term_5 rfl rfl ?_
    replace hF := eg_bind hF; obtain ⟨v1, e2, hF⟩ := hF
    refine eg_getI dX13_term_6 e2 (Nat.le_of_ble_eq_true rfl) (Nat.le_of_ble_eq_true rfl) rfl ew_1445 ?_
    refine eg_iconst (v := (-1 : Int32)) dX13_term_9 (by decide) ?_
    refine eg_ic_ne 94 dX13_term_10 rfl (fun c3 => ?_) (fun c3 => ?_)
    · replace hF := eg_it c3 hF
      refine eg_aload_n (i := 0) 0 dX13_term_13 rfl rfl ?_
      replace hF := eg_bind hF; obtain ⟨⟨v5, h4⟩, e6, hF⟩ := hF
      refine eg_callV (c := 13) (n := 0) [] dX13_term_14 (mX13_look e6) rfl (fX13_look_O e6) (Nat.le_of_ble_eq_true rfl) rfl ew_1715 ew_1717 ew_54 ew_110 ew_1718 hy_X13_look rfl (by have := eg_D_eq; omega) (Nat.le_of_ble_eq_true rfl) (Nat.le_of_ble_eq_true rfl) ?_
      refine eg_bipush (v := (42 : Int32)) dX13_term_17 (by decide) ?_
      refine eg_ic_eq 31 dX13_term_19 rfl (fun c7 => ?_) (fun c7 => ?_)
      · replace hF := eg_it c7 hF
        exact (fX13_term_j31_ok hdr hrc h4 l0 l1 eE hF hrec hk0)
      · replace hF := eg_if c7 hF
        refine eg_aload_n (i := 0) 0 dX13_term_22 rfl rfl ?_
        replace hF := eg_bind hF; obtain ⟨⟨v9, h8⟩, e10, hF⟩ := hF
        refine eg_callV (c := 13) (n := 0) [] dX13_term_23 (mX13_look e10) rfl (fX13_look_O e10) (Nat.le_of_ble_eq_true rfl) rfl ew_1715 ew_1717 ew_54 ew_110 ew_1718 hy_X13_look rfl (by have := eg_D_eq; omega) (Nat.le_of_ble_eq_true rfl) (Nat.le_of_ble_eq_true rfl) ?_
        refine eg_bipush (v := (47 : Int32)) dX13_term_26 (by decide) ?_
        refine eg_ic_ne 94 dX13_term_28 rfl (fun c11 => ?_) (fun c11 => ?_)
        · replace hF := eg_it c11 hF
          exact (fX13_term_j31_ok hdr hrc h8 l0 l1 eE hF hrec hk0)
        · replace hF := eg_if c11 hF
          exact eg_sub [1] [(1, .int l1)] rfl (hk0 l1 h8 (Option.some.inj hF).symm)
    · replace hF := eg_if c3 hF
      exact eg_sub [1] [(1, .int l1)] rfl (hk0 l1 h (Option.some.inj hF).symm)
def fX13_term (rc : eg_H → Nat → Option (Int32 × eg_H)) (h : eg_H) (l0 : Nat) : Option (Int32 × eg_H) :=
  if eg_isO h 13 l0 then (
    (fX13_atom rc h l0).bind fun ⟨v2, h1⟩ =>
    (fX13_term_L5 rc eg_F h1 l0 v2).bind fun e =>
    match e with
    | (v6, h7) =>
      some (v6, h7)) else none
theorem fX13_term_O {rc : eg_H → Nat → Option (Int32 × eg_H)} {h : eg_H} {l0 : Nat} {rE : Int32} {hE : eg_H} (hF : fX13_term rc h l0 = some (rE, hE)) : eg_isO h 13 l0 := (eg_ifn hF).1
set_option maxRecDepth 20000 in
theorem mX13_term {rc : eg_H → Nat → Option (Int32 × eg_H)} {dr : Nat} (hdr : 5 ≤ dr) (hrc : ∀ (h : eg_H) (a0 : Nat) (rE : Int32) (hE : eg_H), rc h a0 = some (rE, hE) → eg_Met yX13_sum cX13_sum 5 (some .int) dr [.ref a0] h (some (.int rE)) hE) {h : eg_H} {l0 : Nat} {rE : Int32} {hE : eg_H} (hF : fX13_term rc h l0 = some (rE, hE)) : eg_Met yX13_term cX13_term 5 (some .int) (dr + 2) [.ref l0] h (some (.int rE)) hE := by
  refine eg_enter rfl (Nat.le_of_ble_eq_true rfl) ?_
  show eg_AW (RX13, cX13_term, 5, dr + 2, none, "term", (some .int)) (eg_Zm (some (.int rE)) hE h) (eg_nc hE) (eg_ns hE) h 0 [(0, .ref l0)] [] h
  replace hF := (eg_ifn hF).2
  refine eg_aload_n (i := 0) 0 dX13_term_0 rfl rfl ?_
  replace hF := eg_bind hF; obtain ⟨⟨v2, h1⟩, e3, hF⟩ := hF
  refine eg_callV (c := 13) (n := 0) [] dX13_term_1 (mX13_atom hdr hrc e3) rfl (fX13_atom_O e3) (Nat.le_of_ble_eq_true rfl) rfl ew_1833 ew_1835 ew_67 ew_110 ew_1836 hy_X13_atom rfl (by have := eg_D_eq; omega) (Nat.le_of_ble_eq_true rfl) (Nat.le_of_ble_eq_true rfl) ?_
  refine eg_istore_n (i := 1) [(1, .int v2), (0, .ref l0)] dX13_term_4 rfl (Nat.le_of_ble_eq_true rfl) rfl ?_
  replace hF := eg_bind hF; obtain ⟨x5, e4, hF⟩ := hF
  refine eg_sub [1, 0] [(0, .ref l0), (1, .int v2)] rfl (fX13_term_L5_ok hdr hrc eg_F h1 l0 v2 x5 e4 ?_)
  · intro v6 h7 e8
    subst e8
    refine eg_iload_n (i := 1) 0 dX13_term_94 rfl rfl ?_
    exact eg_iretE dX13_term_95 hF
theorem dX13_sum_0 : decode cX13_sum 0 = .ok (.aload_n 0, 1) := by decide +kernel
theorem dX13_sum_1 : decode cX13_sum 1 = .ok (.invokevirtual 230, 3) := by decide +kernel
theorem dX13_sum_4 : decode cX13_sum 4 = .ok (.istore_n 1, 1) := by decide +kernel
theorem dX13_sum_5 : decode cX13_sum 5 = .ok (.aload_n 0, 1) := by decide +kernel
theorem dX13_sum_6 : decode cX13_sum 6 = .ok (.getfield 180, 3) := by decide +kernel
theorem dX13_sum_9 : decode cX13_sum 9 = .ok (.iconst (-1), 1) := by decide +kernel
theorem dX13_sum_10 : decode cX13_sum 10 = .ok (.if_icmp .ne 74, 3) := by decide +kernel
theorem dX13_sum_13 : decode cX13_sum 13 = .ok (.aload_n 0, 1) := by decide +kernel
theorem dX13_sum_14 : decode cX13_sum 14 = .ok (.invokevirtual 190, 3) := by decide +kernel
theorem dX13_sum_17 : decode cX13_sum 17 = .ok (.bipush 43, 2) := by decide +kernel
theorem dX13_sum_19 : decode cX13_sum 19 = .ok (.if_icmp .eq 12, 3) := by decide +kernel
theorem dX13_sum_22 : decode cX13_sum 22 = .ok (.aload_n 0, 1) := by decide +kernel
theorem dX13_sum_23 : decode cX13_sum 23 = .ok (.invokevirtual 190, 3) := by decide +kernel
theorem dX13_sum_26 : decode cX13_sum 26 = .ok (.bipush 45, 2) := by decide +kernel
theorem dX13_sum_28 : decode cX13_sum 28 = .ok (.if_icmp .ne 56, 3) := by decide +kernel
theorem dX13_sum_31 : decode cX13_sum 31 = .ok (.aload_n 0, 1) := by decide +kernel
theorem dX13_sum_32 : decode cX13_sum 32 = .ok (.invokevirtual 190, 3) := by decide +kernel
theorem dX13_sum_35 : decode cX13_sum 35 = .ok (.bipush 43, 2) := by decide +kernel
theorem dX13_sum_37 : decode cX13_sum 37 = .ok (.if_icmp .ne 7, 3) := by decide +kernel
theorem dX13_sum_40 : decode cX13_sum 40 = .ok (.iconst 1, 1) := by decide +kernel
theorem dX13_sum_41 : decode cX13_sum 41 = .ok (.goto 4, 3) := by decide +kernel
theorem dX13_sum_44 : decode cX13_sum 44 = .ok (.iconst 0, 1) := by decide +kernel
theorem dX13_sum_45 : decode cX13_sum 45 = .ok (.istore_n 2, 1) := by decide +kernel
theorem dX13_sum_46 : decode cX13_sum 46 = .ok (.aload_n 0, 1) := by decide +kernel
theorem dX13_sum_47 : decode cX13_sum 47 = .ok (.dup, 1) := by decide +kernel
theorem dX13_sum_48 : decode cX13_sum 48 = .ok (.getfield 171, 3) := by decide +kernel
theorem dX13_sum_51 : decode cX13_sum 51 = .ok (.iconst 1, 1) := by decide +kernel
theorem dX13_sum_52 : decode cX13_sum 52 = .ok (.iadd, 1) := by decide +kernel
theorem dX13_sum_53 : decode cX13_sum 53 = .ok (.putfield 171, 3) := by decide +kernel
theorem dX13_sum_56 : decode cX13_sum 56 = .ok (.aload_n 0, 1) := by decide +kernel
theorem dX13_sum_57 : decode cX13_sum 57 = .ok (.invokevirtual 230, 3) := by decide +kernel
theorem dX13_sum_60 : decode cX13_sum 60 = .ok (.i2l, 1) := by decide +kernel
theorem dX13_sum_61 : decode cX13_sum 61 = .ok (.lstore_n 3, 1) := by decide +kernel
theorem dX13_sum_62 : decode cX13_sum 62 = .ok (.iload_n 2, 1) := by decide +kernel
theorem dX13_sum_63 : decode cX13_sum 63 = .ok (.ifCond .eq 10, 3) := by decide +kernel
theorem dX13_sum_66 : decode cX13_sum 66 = .ok (.iload_n 1, 1) := by decide +kernel
theorem dX13_sum_67 : decode cX13_sum 67 = .ok (.i2l, 1) := by decide +kernel
theorem dX13_sum_68 : decode cX13_sum 68 = .ok (.lload_n 3, 1) := by decide +kernel
theorem dX13_sum_69 : decode cX13_sum 69 = .ok (.ladd, 1) := by decide +kernel
theorem dX13_sum_70 : decode cX13_sum 70 = .ok (.goto 7, 3) := by decide +kernel
theorem dX13_sum_73 : decode cX13_sum 73 = .ok (.iload_n 1, 1) := by decide +kernel
theorem dX13_sum_74 : decode cX13_sum 74 = .ok (.i2l, 1) := by decide +kernel
theorem dX13_sum_75 : decode cX13_sum 75 = .ok (.lload_n 3, 1) := by decide +kernel
theorem dX13_sum_76 : decode cX13_sum 76 = .ok (.lsub, 1) := by decide +kernel
theorem dX13_sum_77 : decode cX13_sum 77 = .ok (.invokestatic 226, 3) := by decide +kernel
theorem dX13_sum_80 : decode cX13_sum 80 = .ok (.istore_n 1, 1) := by decide +kernel
theorem dX13_sum_81 : decode cX13_sum 81 = .ok (.goto (-76), 3) := by decide +kernel
theorem dX13_sum_84 : decode cX13_sum 84 = .ok (.iload_n 1, 1) := by decide +kernel
theorem dX13_sum_85 : decode cX13_sum 85 = .ok (.ireturn, 1) := by decide +kernel
def fX13_sum_j45 (rc : eg_H → Nat → Option (Int32 × eg_H)) (rec : eg_H → Nat → Int32 → Option (Int32 × eg_H)) (h : eg_H) (l0 : Nat) (l1 : Int32) (s0 : Int32) : Option (Int32 × eg_H) :=
  (eg_gI h 13 10 l0).bind fun v1 =>
  (eg_pI h 13 10 l0 (v1 + (1 : Int32))).bind fun h3 =>
  (fX13_term rc h3 l0).bind fun ⟨v6, h5⟩ =>
  (some (v6.toInt64)).bind fun v8 =>
  if s0 = 0 then
    ((fX13_within h5 (l1.toInt64 - v8)).bind fun ⟨v12, h11⟩ =>
    rec h11 l0 v12)
  else
    (fX13_within h5 (l1.toInt64 + v8)).bind fun ⟨v15, h14⟩ =>
    rec h14 l0 v15
set_option maxRecDepth 20000 in
theorem fX13_sum_j45_ok {rc : eg_H → Nat → Option (Int32 × eg_H)} {dr : Nat} (hdr : 5 ≤ dr) (hrc : ∀ (h : eg_H) (a0 : Nat) (rE : Int32) (hE : eg_H), rc h a0 = some (rE, hE) → eg_Met yX13_sum cX13_sum 5 (some .int) dr [.ref a0] h (some (.int rE)) hE) {rec : eg_H → Nat → Int32 → Option (Int32 × eg_H)} {h0 : eg_H} {Z : eg_C → State → Prop} {N S : Nat} (h : eg_H) (l0 : Nat) (l1 : Int32) (s0 : Int32) (eE : Int32 × eg_H) (hF : fX13_sum_j45 rc rec h l0 l1 s0 = some eE) (hrec : ∀ (h : eg_H) (l0 : Nat) (l1 : Int32), rec h l0 l1 = some eE → eg_AW (RX13, cX13_sum, 5, dr + 3, none, "sum", (some .int)) Z N S h0 5 [(0, .ref l0), (1, .int l1)] [] h) (hk0 : ∀ (l1 : Int32) (h : eg_H), eE = (l1, h) → eg_AW (RX13, cX13_sum, 5, dr + 3, none, "sum", (some .int)) Z N S h0 84 [(1, .int l1)] [] h) : eg_AW (RX13, cX13_sum, 5, dr + 3, none, "sum", (some .int)) Z N S h0 45 [(0, .ref l0), (1, .int l1)] [.int s0] h := by
  refine eg_istore_n (i := 2) [(2, .int s0), (0, .ref l0), (1, .int l1)] dX13_sum_45 rfl (Nat.le_of_ble_eq_true rfl) rfl ?_
  refine eg_aload_n (i := 0) 1 dX13_sum_46 rfl rfl ?_
  refine eg_dup dX13_sum_47 rfl ?_
  replace hF := eg_bind hF; obtain ⟨v1, e2, hF⟩ := hF
  refine eg_getI dX13_sum_48 e2 (Nat.le_of_ble_eq_true rfl) (Nat.le_of_ble_eq_true rfl) rfl ew_1444 ?_
  refine eg_iconst (v := (1 : Int32)) dX13_sum_51 (by decide) ?_
  refine eg_iadd dX13_sum_52 ?_
  replace hF := eg_bind hF; obtain ⟨h3, e4, hF⟩ := hF
  refine eg_putI dX13_sum_53 e4 (Nat.le_of_ble_eq_true rfl) (Nat.le_of_ble_eq_true rfl) rfl ew_1444 (Or.inl rfl) ?_
  refine eg_aload_n (i := 0) 1 dX13_sum_56 rfl rfl ?_
  replace hF := eg_bind hF; obtain ⟨⟨v6, h5⟩, e7, hF⟩ := hF
  refine eg_callV (c := 13) (n := 0) [] dX13_sum_57 (mX13_term hdr hrc e7) rfl (fX13_term_O e7) (Nat.le_of_ble_eq_true rfl) rfl ew_1829 ew_1831 ew_66 ew_110 ew_1832 hy_X13_term rfl (by have := eg_D_eq; omega) (Nat.le_of_ble_eq_true rfl) (Nat.le_of_ble_eq_true rfl) ?_
  refine eg_i2l dX13_sum_60 ?_
  replace hF := eg_bind hF; obtain ⟨v8, e9, hF⟩ := hF
  replace e9 := Option.some.inj e9
  rw [e9]
  refine eg_lstore_n (i := 3) [(3, .long v8), (2, .int s0), (0, .ref l0), (1, .int l1)] dX13_sum_61 rfl (Nat.le_of_ble_eq_true rfl) rfl ?_
  refine eg_iload_n (i := 2) 1 dX13_sum_62 rfl rfl ?_
  refine eg_if_eq 73 dX13_sum_63 rfl (fun c10 => ?_) (fun c10 => ?_)
  · replace hF := eg_it c10 hF
    refine eg_iload_n (i := 1) 3 dX13_sum_73 rfl rfl ?_
    refine eg_i2l dX13_sum_74 ?_
    refine eg_lload_n (i := 3) 0 dX13_sum_75 rfl rfl ?_
    refine eg_lsub dX13_sum_76 ?_
    replace hF := eg_bind hF; obtain ⟨⟨v12, h11⟩, e13, hF⟩ := hF
    refine eg_callS (n := 1) [.long (l1.toInt64 - v8)] dX13_sum_77 (mX13_within e13) rfl ew_1841 ew_1842 ew_110 ew_1843 hy_X13_within.2 rfl (by have := eg_D_eq; omega) (Nat.le_of_ble_eq_true rfl) (Nat.le_of_ble_eq_true rfl) ?_
    refine eg_istore_n (i := 1) [(1, .int v12), (3, .long v8), (2, .int s0), (0, .ref l0)] dX13_sum_80 rfl (Nat.le_of_ble_eq_true rfl) rfl ?_
    refine eg_goto 5 dX13_sum_81 rfl ?_
    exact eg_sub [3, 0] [(0, .ref l0), (1, .int v12)] rfl (hrec h11 l0 v12 hF)
  · replace hF := eg_if c10 hF
    refine eg_iload_n (i := 1) 3 dX13_sum_66 rfl rfl ?_
    refine eg_i2l dX13_sum_67 ?_
    refine eg_lload_n (i := 3) 0 dX13_sum_68 rfl rfl ?_
    refine eg_ladd dX13_sum_69 ?_
    refine eg_goto 77 dX13_sum_70 rfl ?_
    replace hF := eg_bind hF; obtain ⟨⟨v15, h14⟩, e16, hF⟩ := hF
    refine eg_callS (n := 1) [.long (l1.toInt64 + v8)] dX13_sum_77 (mX13_within e16) rfl ew_1841 ew_1842 ew_110 ew_1843 hy_X13_within.2 rfl (by have := eg_D_eq; omega) (Nat.le_of_ble_eq_true rfl) (Nat.le_of_ble_eq_true rfl) ?_
    refine eg_istore_n (i := 1) [(1, .int v15), (3, .long v8), (2, .int s0), (0, .ref l0)] dX13_sum_80 rfl (Nat.le_of_ble_eq_true rfl) rfl ?_
    refine eg_goto 5 dX13_sum_81 rfl ?_
    exact eg_sub [3, 0] [(0, .ref l0), (1, .int v15)] rfl (hrec h14 l0 v15 hF)
def fX13_sum_j31 (rc : eg_H → Nat → Option (Int32 × eg_H)) (rec : eg_H → Nat → Int32 → Option (Int32 × eg_H)) (h : eg_H) (l0 : Nat) (l1 : Int32) : Option (Int32 × eg_H) :=
  (fX13_look h l0).bind fun ⟨v2, h1⟩ =>
  if v2 = (43 : Int32) then
    (fX13_sum_j45 rc rec h1 l0 l1 (1 : Int32))
  else
    fX13_sum_j45 rc rec h1 l0 l1 (0 : Int32)
set_option maxRecDepth 20000 in
theorem fX13_sum_j31_ok {rc : eg_H → Nat → Option (Int32 × eg_H)} {dr : Nat} (hdr : 5 ≤ dr) (hrc : ∀ (h : eg_H) (a0 : Nat) (rE : Int32) (hE : eg_H), rc h a0 = some (rE, hE) → eg_Met yX13_sum cX13_sum 5 (some .int) dr [.ref a0] h (some (.int rE)) hE) {rec : eg_H → Nat → Int32 → Option (Int32 × eg_H)} {h0 : eg_H} {Z : eg_C → State → Prop} {N S : Nat} (h : eg_H) (l0 : Nat) (l1 : Int32) (eE : Int32 × eg_H) (hF : fX13_sum_j31 rc rec h l0 l1 = some eE) (hrec : ∀ (h : eg_H) (l0 : Nat) (l1 : Int32), rec h l0 l1 = some eE → eg_AW (RX13, cX13_sum, 5, dr + 3, none, "sum", (some .int)) Z N S h0 5 [(0, .ref l0), (1, .int l1)] [] h) (hk0 : ∀ (l1 : Int32) (h : eg_H), eE = (l1, h) → eg_AW (RX13, cX13_sum, 5, dr + 3, none, "sum", (some .int)) Z N S h0 84 [(1, .int l1)] [] h) : eg_AW (RX13, cX13_sum, 5, dr + 3, none, "sum", (some .int)) Z N S h0 31 [(0, .ref l0), (1, .int l1)] [] h := by
  refine eg_aload_n (i := 0) 0 dX13_sum_31 rfl rfl ?_
  replace hF := eg_bind hF; obtain ⟨⟨v2, h1⟩, e3, hF⟩ := hF
  refine eg_callV (c := 13) (n := 0) [] dX13_sum_32 (mX13_look e3) rfl (fX13_look_O e3) (Nat.le_of_ble_eq_true rfl) rfl ew_1715 ew_1717 ew_54 ew_110 ew_1718 hy_X13_look rfl (by have := eg_D_eq; omega) (Nat.le_of_ble_eq_true rfl) (Nat.le_of_ble_eq_true rfl) ?_
  refine eg_bipush (v := (43 : Int32)) dX13_sum_35 (by decide) ?_
  refine eg_ic_ne 44 dX13_sum_37 rfl (fun c4 => ?_) (fun c4 => ?_)
  · replace hF := eg_it c4 hF
    refine eg_iconst (v := (1 : Int32)) dX13_sum_40 (by decide) ?_
    refine eg_goto 45 dX13_sum_41 rfl ?_
    exact (fX13_sum_j45_ok hdr hrc h1 l0 l1 (1 : Int32) eE hF hrec hk0)
  · replace hF := eg_if c4 hF
    refine eg_iconst (v := (0 : Int32)) dX13_sum_44 (by decide) ?_
    exact (fX13_sum_j45_ok hdr hrc h1 l0 l1 (0 : Int32) eE hF hrec hk0)
def fX13_sum_L5 (rc : eg_H → Nat → Option (Int32 × eg_H)) : Nat → eg_H → Nat → Int32 → Option (Int32 × eg_H)
  | 0, _, _, _ => none
  | n + 1, h, l0, l1 =>
    (eg_gI h 13 11 l0).bind fun v1 =>
    if v1 = (-1 : Int32) then
      ((fX13_look h l0).bind fun ⟨v5, h4⟩ =>
      if v5 = (43 : Int32) then
        (fX13_sum_j31 rc (fX13_sum_L5 rc n) h4 l0 l1)
      else
        (fX13_look h4 l0).bind fun ⟨v9, h8⟩ =>
        if v9 = (45 : Int32) then
          (fX13_sum_j31 rc (fX13_sum_L5 rc n) h8 l0 l1)
        else
          some (l1, h8))
    else
      some (l1, h)
set_option maxRecDepth 20000 in
theorem fX13_sum_L5_ok {rc : eg_H → Nat → Option (Int32 × eg_H)} {dr : Nat} (hdr : 5 ≤ dr) (hrc : ∀ (h : eg_H) (a0 : Nat) (rE : Int32) (hE : eg_H), rc h a0 = some (rE, hE) → eg_Met yX13_sum cX13_sum 5 (some .int) dr [.ref a0] h (some (.int rE)) hE) {h0 : eg_H} {Z : eg_C → State → Prop} {N S : Nat} : ∀ (n : Nat) (h : eg_H) (l0 : Nat) (l1 : Int32) (eE : Int32 × eg_H), fX13_sum_L5 rc n h l0 l1 = some eE → (hk0 : ∀ (l1 : Int32) (h : eg_H), eE = (l1, h) → eg_AW (RX13, cX13_sum, 5, dr + 3, none, "sum", (some .int)) Z N S h0 84 [(1, .int l1)] [] h) → eg_AW (RX13, cX13_sum, 5, dr + 3, none, "sum", (some .int)) Z N S h0 5 [(0, .ref l0), (1, .int l1)] [] h := by
  intro n
  induction n with
  | zero => intro h l0 l1 eE hF; exact absurd hF (by intro q; cases q)
  | succ n ih =>
    intro h l0 l1 eE hF hk0
    have hrec := fun (h' : eg_H) (l0 : Nat) (l1 : Int32) hq => ih h' l0 l1 eE hq hk0
    refine eg_aload_n (i := 0) 0 dX13_sum_5 rfl rfl ?_
    replace hF := eg_bind hF; obtain ⟨v1, e2, hF⟩ := hF
    refine eg_getI dX13_sum_6 e2 (Nat.le_of_ble_eq_true rfl) (Nat.le_of_ble_eq_true rfl) rfl ew_1445 ?_
    refine eg_iconst (v := (-1 : Int32)) dX13_sum_9 (by decide) ?_
    refine eg_ic_ne 84 dX13_sum_10 rfl (fun c3 => ?_) (fun c3 => ?_)
    · replace hF := eg_it c3 hF
      refine eg_aload_n (i := 0) 0 dX13_sum_13 rfl rfl ?_
      replace hF := eg_bind hF; obtain ⟨⟨v5, h4⟩, e6, hF⟩ := hF
      refine eg_callV (c := 13) (n := 0) [] dX13_sum_14 (mX13_look e6) rfl (fX13_look_O e6) (Nat.le_of_ble_eq_true rfl) rfl ew_1715 ew_1717 ew_54 ew_110 ew_1718 hy_X13_look rfl (by have := eg_D_eq; omega) (Nat.le_of_ble_eq_true rfl) (Nat.le_of_ble_eq_true rfl) ?_
      refine eg_bipush (v := (43 : Int32)) dX13_sum_17 (by decide) ?_
      refine eg_ic_eq 31 dX13_sum_19 rfl (fun c7 => ?_) (fun c7 => ?_)
      · replace hF := eg_it c7 hF
        exact (fX13_sum_j31_ok hdr hrc h4 l0 l1 eE hF hrec hk0)
      · replace hF := eg_if c7 hF
        refine eg_aload_n (i := 0) 0 dX13_sum_22 rfl rfl ?_
        replace hF := eg_bind hF; obtain ⟨⟨v9, h8⟩, e10, hF⟩ := hF
        refine eg_callV (c := 13) (n := 0) [] dX13_sum_23 (mX13_look e10) rfl (fX13_look_O e10) (Nat.le_of_ble_eq_true rfl) rfl ew_1715 ew_1717 ew_54 ew_110 ew_1718 hy_X13_look rfl (by have := eg_D_eq; omega) (Nat.le_of_ble_eq_true rfl) (Nat.le_of_ble_eq_true rfl) ?_
        refine eg_bipush (v := (45 : Int32)) dX13_sum_26 (by decide) ?_
        refine eg_ic_ne 84 dX13_sum_28 rfl (fun c11 => ?_) (fun c11 => ?_)
        · replace hF := eg_it c11 hF
          exact (fX13_sum_j31_ok hdr hrc h8 l0 l1 eE hF hrec hk0)
        · replace hF := eg_if c11 hF
          exact eg_sub [1] [(1, .int l1)] rfl (hk0 l1 h8 (Option.some.inj hF).symm)
    · replace hF := eg_if c3 hF
      exact eg_sub [1] [(1, .int l1)] rfl (hk0 l1 h (Option.some.inj hF).symm)
def fX13_sumB (rc : eg_H → Nat → Option (Int32 × eg_H)) (h : eg_H) (l0 : Nat) : Option (Int32 × eg_H) :=
  if eg_isO h 13 l0 then (
    (fX13_term rc h l0).bind fun ⟨v2, h1⟩ =>
    (fX13_sum_L5 rc eg_F h1 l0 v2).bind fun e =>
    match e with
    | (v6, h7) =>
      some (v6, h7)) else none
theorem fX13_sumB_O {rc : eg_H → Nat → Option (Int32 × eg_H)} {h : eg_H} {l0 : Nat} {rE : Int32} {hE : eg_H} (hF : fX13_sumB rc h l0 = some (rE, hE)) : eg_isO h 13 l0 := (eg_ifn hF).1
set_option maxRecDepth 20000 in
theorem mX13_sumB {rc : eg_H → Nat → Option (Int32 × eg_H)} {dr : Nat} (hdr : 5 ≤ dr) (hrc : ∀ (h : eg_H) (a0 : Nat) (rE : Int32) (hE : eg_H), rc h a0 = some (rE, hE) → eg_Met yX13_sum cX13_sum 5 (some .int) dr [.ref a0] h (some (.int rE)) hE) {h : eg_H} {l0 : Nat} {rE : Int32} {hE : eg_H} (hF : fX13_sumB rc h l0 = some (rE, hE)) : eg_Met yX13_sum cX13_sum 5 (some .int) (dr + 3) [.ref l0] h (some (.int rE)) hE := by
  refine eg_enter rfl (Nat.le_of_ble_eq_true rfl) ?_
  show eg_AW (RX13, cX13_sum, 5, dr + 3, none, "sum", (some .int)) (eg_Zm (some (.int rE)) hE h) (eg_nc hE) (eg_ns hE) h 0 [(0, .ref l0)] [] h
  replace hF := (eg_ifn hF).2
  refine eg_aload_n (i := 0) 0 dX13_sum_0 rfl rfl ?_
  replace hF := eg_bind hF; obtain ⟨⟨v2, h1⟩, e3, hF⟩ := hF
  refine eg_callV (c := 13) (n := 0) [] dX13_sum_1 (mX13_term hdr hrc e3) rfl (fX13_term_O e3) (Nat.le_of_ble_eq_true rfl) rfl ew_1829 ew_1831 ew_66 ew_110 ew_1832 hy_X13_term rfl (by have := eg_D_eq; omega) (Nat.le_of_ble_eq_true rfl) (Nat.le_of_ble_eq_true rfl) ?_
  refine eg_istore_n (i := 1) [(1, .int v2), (0, .ref l0)] dX13_sum_4 rfl (Nat.le_of_ble_eq_true rfl) rfl ?_
  replace hF := eg_bind hF; obtain ⟨x5, e4, hF⟩ := hF
  refine eg_sub [1, 0] [(0, .ref l0), (1, .int v2)] rfl (fX13_sum_L5_ok hdr hrc eg_F h1 l0 v2 x5 e4 ?_)
  · intro v6 h7 e8
    subst e8
    refine eg_iload_n (i := 1) 0 dX13_sum_84 rfl rfl ?_
    exact eg_iretE dX13_sum_85 hF
def fX13_sum : Nat → eg_H → Nat → Option (Int32 × eg_H)
  | 0 => fun _ _ => none
  | n + 1 => fX13_sumB (fX13_sum n)
theorem fX13_sum_O {n : Nat} {h : eg_H} {l0 : Nat} {rE : Int32} {hE : eg_H} (hF : fX13_sum n h l0 = some (rE, hE)) : eg_isO h 13 l0 := by
  cases n with
  | zero => cases hF
  | succ n => exact fX13_sumB_O (rc := fX13_sum n) hF
theorem mX13_sum_x : ∀ (n : Nat) (h : eg_H) (l0 : Nat) (rE : Int32) (hE : eg_H), fX13_sum n h l0 = some (rE, hE) → eg_Met yX13_sum cX13_sum 5 (some .int) (5 + 3 * n) [.ref l0] h (some (.int rE)) hE := by
  intro n
  induction n with
  | zero => intro h l0 rE hE hF; cases hF
  | succ n ih =>
    intro h l0 rE hE hF
    exact mX13_sumB (rc := fX13_sum n) (dr := 5 + 3 * n) (by omega) ih hF
theorem mX13_sum (n : Nat) {h : eg_H} {l0 : Nat} {rE : Int32} {hE : eg_H} (hF : fX13_sum n h l0 = some (rE, hE)) : eg_Met yX13_sum cX13_sum 5 (some .int) (5 + 3 * n) [.ref l0] h (some (.int rE)) hE := mX13_sum_x n h l0 rE hE hF
theorem dX13_isSign_0 : decode cX13_isSign 0 = .ok (.iload_n 0, 1) := by decide +kernel
theorem dX13_isSign_1 : decode cX13_isSign 1 = .ok (.bipush 61, 2) := by decide +kernel
theorem dX13_isSign_3 : decode cX13_isSign 3 = .ok (.if_icmp .eq 15, 3) := by decide +kernel
theorem dX13_isSign_6 : decode cX13_isSign 6 = .ok (.iload_n 0, 1) := by decide +kernel
theorem dX13_isSign_7 : decode cX13_isSign 7 = .ok (.bipush 60, 2) := by decide +kernel
theorem dX13_isSign_9 : decode cX13_isSign 9 = .ok (.if_icmp .eq 9, 3) := by decide +kernel
theorem dX13_isSign_12 : decode cX13_isSign 12 = .ok (.iload_n 0, 1) := by decide +kernel
theorem dX13_isSign_13 : decode cX13_isSign 13 = .ok (.bipush 62, 2) := by decide +kernel
theorem dX13_isSign_15 : decode cX13_isSign 15 = .ok (.if_icmp .ne 7, 3) := by decide +kernel
theorem dX13_isSign_18 : decode cX13_isSign 18 = .ok (.iconst 1, 1) := by decide +kernel
theorem dX13_isSign_19 : decode cX13_isSign 19 = .ok (.goto 4, 3) := by decide +kernel
theorem dX13_isSign_22 : decode cX13_isSign 22 = .ok (.iconst 0, 1) := by decide +kernel
theorem dX13_isSign_23 : decode cX13_isSign 23 = .ok (.ireturn, 1) := by decide +kernel
def fX13_isSign (h : eg_H) (l0 : Int32) : Option (Int32 × eg_H) :=
  if l0 = (61 : Int32) then
    (some ((1 : Int32), h))
  else
    if l0 = (60 : Int32) then
      (some ((1 : Int32), h))
    else
      if l0 = (62 : Int32) then
        (some ((1 : Int32), h))
      else
        some ((0 : Int32), h)
set_option maxRecDepth 20000 in
theorem mX13_isSign {h : eg_H} {l0 : Int32} {rE : Int32} {hE : eg_H} (hF : fX13_isSign h l0 = some (rE, hE)) : eg_Met yX13_isSign cX13_isSign 1 (some .boolean) 1 [.int l0] h (some (.int rE)) hE := by
  refine eg_enter rfl (Nat.le_of_ble_eq_true rfl) ?_
  show eg_AW (RX13, cX13_isSign, 1, 1, none, "isSign", (some .boolean)) (eg_Zm (some (.int rE)) hE h) (eg_nc hE) (eg_ns hE) h 0 [(0, .int l0)] [] h
  refine eg_iload_n (i := 0) 0 dX13_isSign_0 rfl rfl ?_
  refine eg_bipush (v := (61 : Int32)) dX13_isSign_1 (by decide) ?_
  refine eg_ic_eq 18 dX13_isSign_3 rfl (fun c1 => ?_) (fun c1 => ?_)
  · replace hF := eg_it c1 hF
    refine eg_iconst (v := (1 : Int32)) dX13_isSign_18 (by decide) ?_
    refine eg_goto 23 dX13_isSign_19 rfl ?_
    exact eg_zretE dX13_isSign_23 (Or.inr rfl) hF
  · replace hF := eg_if c1 hF
    refine eg_iload_n (i := 0) 0 dX13_isSign_6 rfl rfl ?_
    refine eg_bipush (v := (60 : Int32)) dX13_isSign_7 (by decide) ?_
    refine eg_ic_eq 18 dX13_isSign_9 rfl (fun c2 => ?_) (fun c2 => ?_)
    · replace hF := eg_it c2 hF
      refine eg_iconst (v := (1 : Int32)) dX13_isSign_18 (by decide) ?_
      refine eg_goto 23 dX13_isSign_19 rfl ?_
      exact eg_zretE dX13_isSign_23 (Or.inr rfl) hF
    · replace hF := eg_if c2 hF
      refine eg_iload_n (i := 0) 0 dX13_isSign_12 rfl rfl ?_
      refine eg_bipush (v := (62 : Int32)) dX13_isSign_13 (by decide) ?_
      refine eg_ic_ne 22 dX13_isSign_15 rfl (fun c3 => ?_) (fun c3 => ?_)
      · replace hF := eg_it c3 hF
        refine eg_iconst (v := (1 : Int32)) dX13_isSign_18 (by decide) ?_
        refine eg_goto 23 dX13_isSign_19 rfl ?_
        exact eg_zretE dX13_isSign_23 (Or.inr rfl) hF
      · replace hF := eg_if c3 hF
        refine eg_iconst (v := (0 : Int32)) dX13_isSign_22 (by decide) ?_
        exact eg_zretE dX13_isSign_23 (Or.inl rfl) hF
theorem dX13_compares_0 : decode cX13_compares 0 = .ok (.iload_n 1, 1) := by decide +kernel
theorem dX13_compares_1 : decode cX13_compares 1 = .ok (.ifCond .eq 7, 3) := by decide +kernel
theorem dX13_compares_4 : decode cX13_compares 4 = .ok (.iload_n 2, 1) := by decide +kernel
theorem dX13_compares_5 : decode cX13_compares 5 = .ok (.goto 7, 3) := by decide +kernel
theorem dX13_compares_8 : decode cX13_compares 8 = .ok (.aload_n 0, 1) := by decide +kernel
theorem dX13_compares_9 : decode cX13_compares 9 = .ok (.invokevirtual 213, 3) := by decide +kernel
theorem dX13_compares_12 : decode cX13_compares 12 = .ok (.istore_n 3, 1) := by decide +kernel
theorem dX13_compares_13 : decode cX13_compares 13 = .ok (.aload_n 0, 1) := by decide +kernel
theorem dX13_compares_14 : decode cX13_compares 14 = .ok (.getfield 180, 3) := by decide +kernel
theorem dX13_compares_17 : decode cX13_compares 17 = .ok (.iconst (-1), 1) := by decide +kernel
theorem dX13_compares_18 : decode cX13_compares 18 = .ok (.if_icmp .eq 5, 3) := by decide +kernel
theorem dX13_compares_21 : decode cX13_compares 21 = .ok (.iconst 0, 1) := by decide +kernel
theorem dX13_compares_22 : decode cX13_compares 22 = .ok (.ireturn, 1) := by decide +kernel
theorem dX13_compares_23 : decode cX13_compares 23 = .ok (.aload_n 0, 1) := by decide +kernel
theorem dX13_compares_24 : decode cX13_compares 24 = .ok (.invokevirtual 190, 3) := by decide +kernel
theorem dX13_compares_27 : decode cX13_compares 27 = .ok (.istore 4, 2) := by decide +kernel
theorem dX13_compares_29 : decode cX13_compares 29 = .ok (.iload 4, 2) := by decide +kernel
theorem dX13_compares_31 : decode cX13_compares 31 = .ok (.invokestatic 233, 3) := by decide +kernel
theorem dX13_compares_34 : decode cX13_compares 34 = .ok (.ifCond .ne 8, 3) := by decide +kernel
theorem dX13_compares_37 : decode cX13_compares 37 = .ok (.aload_n 0, 1) := by decide +kernel
theorem dX13_compares_38 : decode cX13_compares 38 = .ok (.invokevirtual 186, 3) := by decide +kernel
theorem dX13_compares_41 : decode cX13_compares 41 = .ok (.ireturn, 1) := by decide +kernel
theorem dX13_compares_42 : decode cX13_compares 42 = .ok (.aload_n 0, 1) := by decide +kernel
theorem dX13_compares_43 : decode cX13_compares 43 = .ok (.dup, 1) := by decide +kernel
theorem dX13_compares_44 : decode cX13_compares 44 = .ok (.getfield 171, 3) := by decide +kernel
theorem dX13_compares_47 : decode cX13_compares 47 = .ok (.iconst 1, 1) := by decide +kernel
theorem dX13_compares_48 : decode cX13_compares 48 = .ok (.iadd, 1) := by decide +kernel
theorem dX13_compares_49 : decode cX13_compares 49 = .ok (.putfield 171, 3) := by decide +kernel
theorem dX13_compares_52 : decode cX13_compares 52 = .ok (.aload_n 0, 1) := by decide +kernel
theorem dX13_compares_53 : decode cX13_compares 53 = .ok (.invokevirtual 213, 3) := by decide +kernel
theorem dX13_compares_56 : decode cX13_compares 56 = .ok (.istore 5, 2) := by decide +kernel
theorem dX13_compares_58 : decode cX13_compares 58 = .ok (.iload 4, 2) := by decide +kernel
theorem dX13_compares_60 : decode cX13_compares 60 = .ok (.bipush 61, 2) := by decide +kernel
theorem dX13_compares_62 : decode cX13_compares 62 = .ok (.if_icmp .ne 17, 3) := by decide +kernel
theorem dX13_compares_65 : decode cX13_compares 65 = .ok (.iload_n 3, 1) := by decide +kernel
theorem dX13_compares_66 : decode cX13_compares 66 = .ok (.iload 5, 2) := by decide +kernel
theorem dX13_compares_68 : decode cX13_compares 68 = .ok (.if_icmp .ne 7, 3) := by decide +kernel
theorem dX13_compares_71 : decode cX13_compares 71 = .ok (.iconst 1, 1) := by decide +kernel
theorem dX13_compares_72 : decode cX13_compares 72 = .ok (.goto 39, 3) := by decide +kernel
theorem dX13_compares_75 : decode cX13_compares 75 = .ok (.iconst 0, 1) := by decide +kernel
theorem dX13_compares_76 : decode cX13_compares 76 = .ok (.goto 35, 3) := by decide +kernel
theorem dX13_compares_79 : decode cX13_compares 79 = .ok (.iload 4, 2) := by decide +kernel
theorem dX13_compares_81 : decode cX13_compares 81 = .ok (.bipush 60, 2) := by decide +kernel
theorem dX13_compares_83 : decode cX13_compares 83 = .ok (.if_icmp .ne 17, 3) := by decide +kernel
theorem dX13_compares_86 : decode cX13_compares 86 = .ok (.iload_n 3, 1) := by decide +kernel
theorem dX13_compares_87 : decode cX13_compares 87 = .ok (.iload 5, 2) := by decide +kernel
theorem dX13_compares_89 : decode cX13_compares 89 = .ok (.if_icmp .ge 7, 3) := by decide +kernel
theorem dX13_compares_92 : decode cX13_compares 92 = .ok (.iconst 1, 1) := by decide +kernel
theorem dX13_compares_93 : decode cX13_compares 93 = .ok (.goto 18, 3) := by decide +kernel
theorem dX13_compares_96 : decode cX13_compares 96 = .ok (.iconst 0, 1) := by decide +kernel
theorem dX13_compares_97 : decode cX13_compares 97 = .ok (.goto 14, 3) := by decide +kernel
theorem dX13_compares_100 : decode cX13_compares 100 = .ok (.iload_n 3, 1) := by decide +kernel
theorem dX13_compares_101 : decode cX13_compares 101 = .ok (.iload 5, 2) := by decide +kernel
theorem dX13_compares_103 : decode cX13_compares 103 = .ok (.if_icmp .le 7, 3) := by decide +kernel
theorem dX13_compares_106 : decode cX13_compares 106 = .ok (.iconst 1, 1) := by decide +kernel
theorem dX13_compares_107 : decode cX13_compares 107 = .ok (.goto 4, 3) := by decide +kernel
theorem dX13_compares_110 : decode cX13_compares 110 = .ok (.iconst 0, 1) := by decide +kernel
theorem dX13_compares_111 : decode cX13_compares 111 = .ok (.ireturn, 1) := by decide +kernel
def fX13_compares_j12 (h : eg_H) (l0 : Nat) (s0 : Int32) : Option (Int32 × eg_H) :=
  (eg_gI h 13 11 l0).bind fun v1 =>
  if v1 = (-1 : Int32) then
    ((fX13_look h l0).bind fun ⟨v5, h4⟩ =>
    (fX13_isSign h4 v5).bind fun ⟨v8, h7⟩ =>
    if v8 = 0 then
      ((fX13_fails h7 l0).bind fun ⟨v12, h11⟩ =>
      if v12 = 0 ∨ v12 = 1 then some (v12, h11) else none)
    else
      (eg_gI h7 13 10 l0).bind fun v15 =>
      (eg_pI h7 13 10 l0 (v15 + (1 : Int32))).bind fun h17 =>
      (fX13_sum eg_D h17 l0).bind fun ⟨v20, h19⟩ =>
      if v5 = (61 : Int32) then
        (if s0 = v20 then
          (some ((1 : Int32), h19))
        else
          some ((0 : Int32), h19))
      else
        if v5 = (60 : Int32) then
          (if v20 ≤ s0 then
            (some ((0 : Int32), h19))
          else
            some ((1 : Int32), h19))
        else
          if s0 ≤ v20 then
            (some ((0 : Int32), h19))
          else
            some ((1 : Int32), h19))
  else
    some ((0 : Int32), h)
set_option maxRecDepth 20000 in
theorem fX13_compares_j12_ok {h0 : eg_H} (h : eg_H) (l0 : Nat) (s0 : Int32) {rE : Int32} {hE : eg_H} (hF : fX13_compares_j12 h l0 s0 = some (rE, hE)) : eg_AW (RX13, cX13_compares, 6, 198, none, "compares", (some .boolean)) (eg_Zm (some (.int rE)) hE h0) (eg_nc hE) (eg_ns hE) h0 12 [(0, .ref l0)] [.int s0] h := by
  refine eg_istore_n (i := 3) [(3, .int s0), (0, .ref l0)] dX13_compares_12 rfl (Nat.le_of_ble_eq_true rfl) rfl ?_
  refine eg_aload_n (i := 0) 1 dX13_compares_13 rfl rfl ?_
  replace hF := eg_bind hF; obtain ⟨v1, e2, hF⟩ := hF
  refine eg_getI dX13_compares_14 e2 (Nat.le_of_ble_eq_true rfl) (Nat.le_of_ble_eq_true rfl) rfl ew_1445 ?_
  refine eg_iconst (v := (-1 : Int32)) dX13_compares_17 (by decide) ?_
  refine eg_ic_eq 23 dX13_compares_18 rfl (fun c3 => ?_) (fun c3 => ?_)
  · replace hF := eg_it c3 hF
    refine eg_aload_n (i := 0) 1 dX13_compares_23 rfl rfl ?_
    replace hF := eg_bind hF; obtain ⟨⟨v5, h4⟩, e6, hF⟩ := hF
    refine eg_callV (c := 13) (n := 0) [] dX13_compares_24 (mX13_look e6) rfl (fX13_look_O e6) (Nat.le_of_ble_eq_true rfl) rfl ew_1715 ew_1717 ew_54 ew_110 ew_1718 hy_X13_look rfl (Nat.le_of_ble_eq_true rfl) (Nat.le_of_ble_eq_true rfl) (Nat.le_of_ble_eq_true rfl) ?_
    refine eg_istore (i := 4) [(4, .int v5), (3, .int s0), (0, .ref l0)] dX13_compares_27 (Nat.le_of_ble_eq_true rfl) rfl ?_
    refine eg_iload (i := 4) 0 dX13_compares_29 rfl ?_
    replace hF := eg_bind hF; obtain ⟨⟨v8, h7⟩, e9, hF⟩ := hF
    refine eg_callS (n := 1) [.int v5] dX13_compares_31 (mX13_isSign e9) rfl ew_1852 ew_1853 ew_110 ew_1854 hy_X13_isSign.2 rfl (Nat.le_of_ble_eq_true rfl) (Nat.le_of_ble_eq_true rfl) (Nat.le_of_ble_eq_true rfl) ?_
    refine eg_if_ne 42 dX13_compares_34 rfl (fun c10 => ?_) (fun c10 => ?_)
    · replace hF := eg_it c10 hF
      refine eg_aload_n (i := 0) 2 dX13_compares_37 rfl rfl ?_
      replace hF := eg_bind hF; obtain ⟨⟨v12, h11⟩, e13, hF⟩ := hF
      refine eg_callV (c := 13) (n := 0) [] dX13_compares_38 (mX13_fails e13) rfl (fX13_fails_O e13) (Nat.le_of_ble_eq_true rfl) rfl ew_1719 ew_1721 ew_55 ew_110 ew_1722 hy_X13_fails rfl (Nat.le_of_ble_eq_true rfl) (Nat.le_of_ble_eq_true rfl) (Nat.le_of_ble_eq_true rfl) ?_
      replace hF := eg_ifn hF; obtain ⟨c14, hF⟩ := hF
      exact eg_zretE dX13_compares_41 c14 hF
    · replace hF := eg_if c10 hF
      refine eg_aload_n (i := 0) 2 dX13_compares_42 rfl rfl ?_
      refine eg_dup dX13_compares_43 rfl ?_
      replace hF := eg_bind hF; obtain ⟨v15, e16, hF⟩ := hF
      refine eg_getI dX13_compares_44 e16 (Nat.le_of_ble_eq_true rfl) (Nat.le_of_ble_eq_true rfl) rfl ew_1444 ?_
      refine eg_iconst (v := (1 : Int32)) dX13_compares_47 (by decide) ?_
      refine eg_iadd dX13_compares_48 ?_
      replace hF := eg_bind hF; obtain ⟨h17, e18, hF⟩ := hF
      refine eg_putI dX13_compares_49 e18 (Nat.le_of_ble_eq_true rfl) (Nat.le_of_ble_eq_true rfl) rfl ew_1444 (Or.inl rfl) ?_
      refine eg_aload_n (i := 0) 2 dX13_compares_52 rfl rfl ?_
      replace hF := eg_bind hF; obtain ⟨⟨v20, h19⟩, e21, hF⟩ := hF
      refine eg_callV (c := 13) (n := 0) [] dX13_compares_53 (mX13_sum eg_D e21) rfl (fX13_sum_O e21) (Nat.le_of_ble_eq_true rfl) rfl ew_1825 ew_1827 ew_65 ew_110 ew_1828 hy_X13_sum rfl (Nat.le_of_ble_eq_true rfl) (Nat.le_of_ble_eq_true rfl) (Nat.le_of_ble_eq_true rfl) ?_
      refine eg_istore (i := 5) [(5, .int v20), (4, .int v5), (3, .int s0), (0, .ref l0)] dX13_compares_56 (Nat.le_of_ble_eq_true rfl) rfl ?_
      refine eg_iload (i := 4) 1 dX13_compares_58 rfl ?_
      refine eg_bipush (v := (61 : Int32)) dX13_compares_60 (by decide) ?_
      refine eg_ic_ne 79 dX13_compares_62 rfl (fun c22 => ?_) (fun c22 => ?_)
      · replace hF := eg_it c22 hF
        refine eg_iload_n (i := 3) 2 dX13_compares_65 rfl rfl ?_
        refine eg_iload (i := 5) 0 dX13_compares_66 rfl ?_
        refine eg_ic_ne 75 dX13_compares_68 rfl (fun c23 => ?_) (fun c23 => ?_)
        · replace hF := eg_it c23 hF
          refine eg_iconst (v := (1 : Int32)) dX13_compares_71 (by decide) ?_
          refine eg_goto 111 dX13_compares_72 rfl ?_
          exact eg_zretE dX13_compares_111 (Or.inr rfl) hF
        · replace hF := eg_if c23 hF
          refine eg_iconst (v := (0 : Int32)) dX13_compares_75 (by decide) ?_
          refine eg_goto 111 dX13_compares_76 rfl ?_
          exact eg_zretE dX13_compares_111 (Or.inl rfl) hF
      · replace hF := eg_if c22 hF
        refine eg_iload (i := 4) 1 dX13_compares_79 rfl ?_
        refine eg_bipush (v := (60 : Int32)) dX13_compares_81 (by decide) ?_
        refine eg_ic_ne 100 dX13_compares_83 rfl (fun c24 => ?_) (fun c24 => ?_)
        · replace hF := eg_it c24 hF
          refine eg_iload_n (i := 3) 2 dX13_compares_86 rfl rfl ?_
          refine eg_iload (i := 5) 0 dX13_compares_87 rfl ?_
          refine eg_ic_ge 96 dX13_compares_89 rfl (fun c25 => ?_) (fun c25 => ?_)
          · replace hF := eg_it c25 hF
            refine eg_iconst (v := (0 : Int32)) dX13_compares_96 (by decide) ?_
            refine eg_goto 111 dX13_compares_97 rfl ?_
            exact eg_zretE dX13_compares_111 (Or.inl rfl) hF
          · replace hF := eg_if c25 hF
            refine eg_iconst (v := (1 : Int32)) dX13_compares_92 (by decide) ?_
            refine eg_goto 111 dX13_compares_93 rfl ?_
            exact eg_zretE dX13_compares_111 (Or.inr rfl) hF
        · replace hF := eg_if c24 hF
          refine eg_iload_n (i := 3) 2 dX13_compares_100 rfl rfl ?_
          refine eg_iload (i := 5) 0 dX13_compares_101 rfl ?_
          refine eg_ic_le 110 dX13_compares_103 rfl (fun c26 => ?_) (fun c26 => ?_)
          · replace hF := eg_it c26 hF
            refine eg_iconst (v := (0 : Int32)) dX13_compares_110 (by decide) ?_
            exact eg_zretE dX13_compares_111 (Or.inl rfl) hF
          · replace hF := eg_if c26 hF
            refine eg_iconst (v := (1 : Int32)) dX13_compares_106 (by decide) ?_
            refine eg_goto 111 dX13_compares_107 rfl ?_
            exact eg_zretE dX13_compares_111 (Or.inr rfl) hF
  · replace hF := eg_if c3 hF
    refine eg_iconst (v := (0 : Int32)) dX13_compares_21 (by decide) ?_
    exact eg_zretE dX13_compares_22 (Or.inl rfl) hF
def fX13_compares (h : eg_H) (l0 : Nat) (l1 : Int32) (l2 : Int32) : Option (Int32 × eg_H) :=
  if eg_isO h 13 l0 then (
    if l1 = 0 then
      ((fX13_sum eg_D h l0).bind fun ⟨v3, h2⟩ =>
      fX13_compares_j12 h2 l0 v3)
    else
      fX13_compares_j12 h l0 l2) else none
theorem fX13_compares_O {h : eg_H} {l0 : Nat} {l1 : Int32} {l2 : Int32} {rE : Int32} {hE : eg_H} (hF : fX13_compares h l0 l1 l2 = some (rE, hE)) : eg_isO h 13 l0 := (eg_ifn hF).1
set_option maxRecDepth 20000 in
theorem mX13_compares {h : eg_H} {l0 : Nat} {l1 : Int32} {l2 : Int32} {rE : Int32} {hE : eg_H} (hF : fX13_compares h l0 l1 l2 = some (rE, hE)) : eg_Met yX13_compares cX13_compares 6 (some .boolean) 198 [.ref l0, .int l1, .int l2] h (some (.int rE)) hE := by
  refine eg_enter rfl (Nat.le_of_ble_eq_true rfl) ?_
  show eg_AW (RX13, cX13_compares, 6, 198, none, "compares", (some .boolean)) (eg_Zm (some (.int rE)) hE h) (eg_nc hE) (eg_ns hE) h 0 [(0, .ref l0), (1, .int l1), (2, .int l2)] [] h
  replace hF := (eg_ifn hF).2
  refine eg_iload_n (i := 1) 1 dX13_compares_0 rfl rfl ?_
  refine eg_if_eq 8 dX13_compares_1 rfl (fun c1 => ?_) (fun c1 => ?_)
  · replace hF := eg_it c1 hF
    refine eg_aload_n (i := 0) 0 dX13_compares_8 rfl rfl ?_
    replace hF := eg_bind hF; obtain ⟨⟨v3, h2⟩, e4, hF⟩ := hF
    refine eg_callV (c := 13) (n := 0) [] dX13_compares_9 (mX13_sum eg_D e4) rfl (fX13_sum_O e4) (Nat.le_of_ble_eq_true rfl) rfl ew_1825 ew_1827 ew_65 ew_110 ew_1828 hy_X13_sum rfl (Nat.le_of_ble_eq_true rfl) (Nat.le_of_ble_eq_true rfl) (Nat.le_of_ble_eq_true rfl) ?_
    exact eg_sub [0] [(0, .ref l0)] rfl (fX13_compares_j12_ok h2 l0 v3 hF)
  · replace hF := eg_if c1 hF
    refine eg_iload_n (i := 2) 2 dX13_compares_4 rfl rfl ?_
    refine eg_goto 12 dX13_compares_5 rfl ?_
    exact eg_sub [0] [(0, .ref l0)] rfl (fX13_compares_j12_ok h l0 l2 hF)
