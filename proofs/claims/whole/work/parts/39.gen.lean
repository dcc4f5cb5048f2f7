theorem dX13_isCaught_0 : decode cX13_isCaught 0 = .ok (.iload_n 1, 1) := by decide +kernel
theorem dX13_isCaught_1 : decode cX13_isCaught 1 = .ok (.i2l, 1) := by decide +kernel
theorem dX13_isCaught_2 : decode cX13_isCaught 2 = .ok (.ldc2_w 364, 3) := by decide +kernel
theorem dX13_isCaught_5 : decode cX13_isCaught 5 = .ok (.ldc2_w 366, 3) := by decide +kernel
theorem dX13_isCaught_8 : decode cX13_isCaught 8 = .ok (.invokestatic 269, 3) := by decide +kernel
theorem dX13_isCaught_11 : decode cX13_isCaught 11 = .ok (.ifCond .eq 18, 3) := by decide +kernel
theorem dX13_isCaught_14 : decode cX13_isCaught 14 = .ok (.aload_n 0, 1) := by decide +kernel
theorem dX13_isCaught_15 : decode cX13_isCaught 15 = .ok (.getfield 68, 3) := by decide +kernel
theorem dX13_isCaught_18 : decode cX13_isCaught 18 = .ok (.iload_n 1, 1) := by decide +kernel
theorem dX13_isCaught_19 : decode cX13_isCaught 19 = .ok (.iconst 5, 1) := by decide +kernel
theorem dX13_isCaught_20 : decode cX13_isCaught 20 = .ok (.iadd, 1) := by decide +kernel
theorem dX13_isCaught_21 : decode cX13_isCaught 21 = .ok (.baload, 1) := by decide +kernel
theorem dX13_isCaught_22 : decode cX13_isCaught 22 = .ok (.ifCond .eq 7, 3) := by decide +kernel
theorem dX13_isCaught_25 : decode cX13_isCaught 25 = .ok (.iconst 1, 1) := by decide +kernel
theorem dX13_isCaught_26 : decode cX13_isCaught 26 = .ok (.goto 4, 3) := by decide +kernel
theorem dX13_isCaught_29 : decode cX13_isCaught 29 = .ok (.iconst 0, 1) := by decide +kernel
theorem dX13_isCaught_30 : decode cX13_isCaught 30 = .ok (.ireturn, 1) := by decide +kernel
def fX13_isCaught (h : eg_H) (l0 : Nat) (l1 : Int32) : Option (Int32 × eg_H) :=
  if eg_isO h 13 l0 then (
    (fX13_isIn h l1.toInt64 (-5 : Int64) (5 : Int64)).bind fun ⟨v2, h1⟩ =>
    if v2 = 0 then
      (some ((0 : Int32), h1))
    else
      (eg_gR h1 13 35 l0).bind fun p5 =>
      (eg_aI h1 103 p5 (l1 + (5 : Int32))).bind fun v7 =>
      if v7 = 0 then
        (some ((0 : Int32), h1))
      else
        some ((1 : Int32), h1)) else none
theorem fX13_isCaught_O {h : eg_H} {l0 : Nat} {l1 : Int32} {rE : Int32} {hE : eg_H} (hF : fX13_isCaught h l0 l1 = some (rE, hE)) : eg_isO h 13 l0 := (eg_ifn hF).1
set_option maxRecDepth 20000 in
theorem mX13_isCaught {h : eg_H} {l0 : Nat} {l1 : Int32} {rE : Int32} {hE : eg_H} (hF : fX13_isCaught h l0 l1 = some (rE, hE)) : eg_Met yX13_isCaught cX13_isCaught 2 (some .boolean) 2 [.ref l0, .int l1] h (some (.int rE)) hE := by
  refine eg_enter rfl (Nat.le_of_ble_eq_true rfl) ?_
  show eg_AW (RX13, cX13_isCaught, 2, 2, none, "isCaught", (some .boolean)) (eg_Zm (some (.int rE)) hE h) (eg_nc hE) (eg_ns hE) h 0 [(0, .ref l0), (1, .int l1)] [] h
  replace hF := (eg_ifn hF).2
  refine eg_iload_n (i := 1) 1 dX13_isCaught_0 rfl rfl ?_
  refine eg_i2l dX13_isCaught_1 ?_
  refine eg_ldc2 (v := (-5 : Int64)) dX13_isCaught_2 ew_1897 ?_
  refine eg_ldc2 (v := (5 : Int64)) dX13_isCaught_5 ew_1898 ?_
  replace hF := eg_bind hF; obtain ⟨⟨v2, h1⟩, e3, hF⟩ := hF
  refine eg_callS (n := 3) [.long l1.toInt64, .long (-5 : Int64), .long (5 : Int64)] dX13_isCaught_8 (mX13_isIn e3) rfl ew_1697 ew_1698 ew_110 ew_1699 hy_X13_isIn.2 rfl (Nat.le_of_ble_eq_true rfl) (Nat.le_of_ble_eq_true rfl) (Nat.le_of_ble_eq_true rfl) ?_
  refine eg_if_eq 29 dX13_isCaught_11 rfl (fun c4 => ?_) (fun c4 => ?_)
  · replace hF := eg_it c4 hF
    refine eg_iconst (v := (0 : Int32)) dX13_isCaught_29 (by decide) ?_
    exact eg_zretE dX13_isCaught_30 (Or.inl rfl) hF
  · replace hF := eg_if c4 hF
    refine eg_aload_n (i := 0) 0 dX13_isCaught_14 rfl rfl ?_
    replace hF := eg_bind hF; obtain ⟨p5, e6, hF⟩ := hF
    refine eg_getR dX13_isCaught_15 e6 (Nat.le_of_ble_eq_true rfl) (Nat.le_of_ble_eq_true rfl) rfl ew_1469 ?_
    refine eg_iload_n (i := 1) 1 dX13_isCaught_18 rfl rfl ?_
    refine eg_iconst (v := (5 : Int32)) dX13_isCaught_19 (by decide) ?_
    refine eg_iadd dX13_isCaught_20 ?_
    replace hF := eg_bind hF; obtain ⟨v7, e8, hF⟩ := hF
    refine eg_zald dX13_isCaught_21 e8 ?_
    refine eg_if_eq 29 dX13_isCaught_22 rfl (fun c9 => ?_) (fun c9 => ?_)
    · replace hF := eg_it c9 hF
      refine eg_iconst (v := (0 : Int32)) dX13_isCaught_29 (by decide) ?_
      exact eg_zretE dX13_isCaught_30 (Or.inl rfl) hF
    · replace hF := eg_if c9 hF
      refine eg_iconst (v := (1 : Int32)) dX13_isCaught_25 (by decide) ?_
      refine eg_goto 30 dX13_isCaught_26 rfl ?_
      exact eg_zretE dX13_isCaught_30 (Or.inr rfl) hF
theorem dX13_goodBy_0 : decode cX13_goodBy 0 = .ok (.iconst 0, 1) := by decide +kernel
theorem dX13_goodBy_1 : decode cX13_goodBy 1 = .ok (.istore 5, 2) := by decide +kernel
theorem dX13_goodBy_3 : decode cX13_goodBy 3 = .ok (.aload_n 0, 1) := by decide +kernel
theorem dX13_goodBy_4 : decode cX13_goodBy 4 = .ok (.getfield 43, 3) := by decide +kernel
theorem dX13_goodBy_7 : decode cX13_goodBy 7 = .ok (.iconst 4, 1) := by decide +kernel
theorem dX13_goodBy_8 : decode cX13_goodBy 8 = .ok (.iload_n 1, 1) := by decide +kernel
theorem dX13_goodBy_9 : decode cX13_goodBy 9 = .ok (.imul, 1) := by decide +kernel
theorem dX13_goodBy_10 : decode cX13_goodBy 10 = .ok (.iaload, 1) := by decide +kernel
theorem dX13_goodBy_11 : decode cX13_goodBy 11 = .ok (.ineg, 1) := by decide +kernel
theorem dX13_goodBy_12 : decode cX13_goodBy 12 = .ok (.istore 6, 2) := by decide +kernel
theorem dX13_goodBy_14 : decode cX13_goodBy 14 = .ok (.iload 6, 2) := by decide +kernel
theorem dX13_goodBy_16 : decode cX13_goodBy 16 = .ok (.aload_n 0, 1) := by decide +kernel
theorem dX13_goodBy_17 : decode cX13_goodBy 17 = .ok (.getfield 43, 3) := by decide +kernel
theorem dX13_goodBy_20 : decode cX13_goodBy 20 = .ok (.iconst 4, 1) := by decide +kernel
theorem dX13_goodBy_21 : decode cX13_goodBy 21 = .ok (.iload_n 1, 1) := by decide +kernel
theorem dX13_goodBy_22 : decode cX13_goodBy 22 = .ok (.imul, 1) := by decide +kernel
theorem dX13_goodBy_23 : decode cX13_goodBy 23 = .ok (.iaload, 1) := by decide +kernel
theorem dX13_goodBy_24 : decode cX13_goodBy 24 = .ok (.if_icmp .gt 36, 3) := by decide +kernel
theorem dX13_goodBy_27 : decode cX13_goodBy 27 = .ok (.iload 5, 2) := by decide +kernel
theorem dX13_goodBy_29 : decode cX13_goodBy 29 = .ok (.aload_n 0, 1) := by decide +kernel
theorem dX13_goodBy_30 : decode cX13_goodBy 30 = .ok (.aload_n 0, 1) := by decide +kernel
theorem dX13_goodBy_31 : decode cX13_goodBy 31 = .ok (.iload_n 2, 1) := by decide +kernel
theorem dX13_goodBy_32 : decode cX13_goodBy 32 = .ok (.iload_n 3, 1) := by decide +kernel
theorem dX13_goodBy_33 : decode cX13_goodBy 33 = .ok (.iload 4, 2) := by decide +kernel
theorem dX13_goodBy_35 : decode cX13_goodBy 35 = .ok (.iload 6, 2) := by decide +kernel
theorem dX13_goodBy_37 : decode cX13_goodBy 37 = .ok (.invokevirtual 369, 3) := by decide +kernel
theorem dX13_goodBy_40 : decode cX13_goodBy 40 = .ok (.invokevirtual 395, 3) := by decide +kernel
theorem dX13_goodBy_43 : decode cX13_goodBy 43 = .ok (.ifCond .eq 7, 3) := by decide +kernel
theorem dX13_goodBy_46 : decode cX13_goodBy 46 = .ok (.iconst 1, 1) := by decide +kernel
theorem dX13_goodBy_47 : decode cX13_goodBy 47 = .ok (.goto 4, 3) := by decide +kernel
theorem dX13_goodBy_50 : decode cX13_goodBy 50 = .ok (.iconst 0, 1) := by decide +kernel
theorem dX13_goodBy_51 : decode cX13_goodBy 51 = .ok (.iadd, 1) := by decide +kernel
theorem dX13_goodBy_52 : decode cX13_goodBy 52 = .ok (.istore 5, 2) := by decide +kernel
theorem dX13_goodBy_54 : decode cX13_goodBy 54 = .ok (.iinc 6 1, 3) := by decide +kernel
theorem dX13_goodBy_57 : decode cX13_goodBy 57 = .ok (.goto (-43), 3) := by decide +kernel
theorem dX13_goodBy_60 : decode cX13_goodBy 60 = .ok (.iload 5, 2) := by decide +kernel
theorem dX13_goodBy_62 : decode cX13_goodBy 62 = .ok (.ireturn, 1) := by decide +kernel
def fX13_goodBy_L14 : Nat → eg_H → Nat → Int32 → Int32 → Int32 → Int32 → Int32 → Int32 → Option (Int32 × eg_H)
  | 0, _, _, _, _, _, _, _, _ => none
  | n + 1, h, l0, l1, l2, l3, l4, l5, l6 =>
    (eg_gR h 13 20 l0).bind fun p1 =>
    (eg_aI h 100 p1 ((4 : Int32) * l1)).bind fun v3 =>
    if v3 < l6 then
      (some (l5, h))
    else
      (fX13_offOf h l0 l2 l3 l4 l6).bind fun ⟨v7, h6⟩ =>
      (fX13_isCaught h6 l0 v7).bind fun ⟨v10, h9⟩ =>
      if v10 = 0 then
        ((some ((l5 + (0 : Int32)))).bind fun v13 =>
        fX13_goodBy_L14 n h9 l0 l1 l2 l3 l4 v13 (l6 + (1 : Int32)))
      else
        (some ((l5 + (1 : Int32)))).bind fun v15 =>
        fX13_goodBy_L14 n h9 l0 l1 l2 l3 l4 v15 (l6 + (1 : Int32))
set_option maxRecDepth 20000 in
theorem fX13_goodBy_L14_ok {h0 : eg_H} {Z : eg_C → State → Prop} {N S : Nat} : ∀ (n : Nat) (h : eg_H) (l0 : Nat) (l1 : Int32) (l2 : Int32) (l3 : Int32) (l4 : Int32) (l5 : Int32) (l6 : Int32) (eE : Int32 × eg_H), fX13_goodBy_L14 n h l0 l1 l2 l3 l4 l5 l6 = some eE → (hk0 : ∀ (l5 : Int32) (h : eg_H), eE = (l5, h) → eg_AW (RX13, cX13_goodBy, 7, 3, none, "goodBy", (some .int)) Z N S h0 60 [(5, .int l5)] [] h) → eg_AW (RX13, cX13_goodBy, 7, 3, none, "goodBy", (some .int)) Z N S h0 14 [(0, .ref l0), (1, .int l1), (2, .int l2), (3, .int l3), (4, .int l4), (5, .int l5), (6, .int l6)] [] h := by
  intro n
  induction n with
  | zero => intro h l0 l1 l2 l3 l4 l5 l6 eE hF; exact absurd hF (by intro q; cases q)
  | succ n ih =>
    intro h l0 l1 l2 l3 l4 l5 l6 eE hF hk0
    have hrec := fun (h' : eg_H) (l0 : Nat) (l1 : Int32) (l2 : Int32) (l3 : Int32) (l4 : Int32) (l5 : Int32) (l6 : Int32) hq => ih h' l0 l1 l2 l3 l4 l5 l6 eE hq hk0
    refine eg_iload (i := 6) 6 dX13_goodBy_14 rfl ?_
    refine eg_aload_n (i := 0) 0 dX13_goodBy_16 rfl rfl ?_
    replace hF := eg_bind hF; obtain ⟨p1, e2, hF⟩ := hF
    refine eg_getR dX13_goodBy_17 e2 (Nat.le_of_ble_eq_true rfl) (Nat.le_of_ble_eq_true rfl) rfl ew_1454 ?_
    refine eg_iconst (v := (4 : Int32)) dX13_goodBy_20 (by decide) ?_
    refine eg_iload_n (i := 1) 1 dX13_goodBy_21 rfl rfl ?_
    refine eg_imul dX13_goodBy_22 ?_
    replace hF := eg_bind hF; obtain ⟨v3, e4, hF⟩ := hF
    refine eg_iald dX13_goodBy_23 e4 ?_
    refine eg_ic_gt 60 dX13_goodBy_24 rfl (fun c5 => ?_) (fun c5 => ?_)
    · replace hF := eg_it c5 hF
      exact eg_sub [5] [(5, .int l5)] rfl (hk0 l5 h (Option.some.inj hF).symm)
    · replace hF := eg_if c5 hF
      refine eg_iload (i := 5) 5 dX13_goodBy_27 rfl ?_
      refine eg_aload_n (i := 0) 0 dX13_goodBy_29 rfl rfl ?_
      refine eg_aload_n (i := 0) 0 dX13_goodBy_30 rfl rfl ?_
      refine eg_iload_n (i := 2) 2 dX13_goodBy_31 rfl rfl ?_
      refine eg_iload_n (i := 3) 3 dX13_goodBy_32 rfl rfl ?_
      refine eg_iload (i := 4) 4 dX13_goodBy_33 rfl ?_
      refine eg_iload (i := 6) 6 dX13_goodBy_35 rfl ?_
      replace hF := eg_bind hF; obtain ⟨⟨v7, h6⟩, e8, hF⟩ := hF
      refine eg_callV (c := 13) (n := 4) [.int l2, .int l3, .int l4, .int l6] dX13_goodBy_37 (mX13_offOf e8) rfl (fX13_offOf_O e8) (Nat.le_of_ble_eq_true rfl) rfl ew_1900 ew_1902 ew_73 ew_110 ew_1903 hy_X13_offOf rfl (Nat.le_of_ble_eq_true rfl) (Nat.le_of_ble_eq_true rfl) (Nat.le_of_ble_eq_true rfl) ?_
      replace hF := eg_bind hF; obtain ⟨⟨v10, h9⟩, e11, hF⟩ := hF
      refine eg_callV (c := 13) (n := 1) [.int v7] dX13_goodBy_40 (mX13_isCaught e11) rfl (fX13_isCaught_O e11) (Nat.le_of_ble_eq_true rfl) rfl ew_1957 ew_1959 ew_83 ew_110 ew_1960 hy_X13_isCaught rfl (Nat.le_of_ble_eq_true rfl) (Nat.le_of_ble_eq_true rfl) (Nat.le_of_ble_eq_true rfl) ?_
      refine eg_if_eq 50 dX13_goodBy_43 rfl (fun c12 => ?_) (fun c12 => ?_)
      · replace hF := eg_it c12 hF
        refine eg_iconst (v := (0 : Int32)) dX13_goodBy_50 (by decide) ?_
        refine eg_iadd dX13_goodBy_51 ?_
        replace hF := eg_bind hF; obtain ⟨v13, e14, hF⟩ := hF
        replace e14 := Option.some.inj e14
        rw [e14]
        refine eg_istore (i := 5) [(5, .int v13), (0, .ref l0), (1, .int l1), (2, .int l2), (3, .int l3), (4, .int l4), (6, .int l6)] dX13_goodBy_52 (Nat.le_of_ble_eq_true rfl) rfl ?_
        refine eg_iinc (i := 6) (v := (l6 + (1 : Int32))) 6 [(6, .int (l6 + (1 : Int32))), (5, .int v13), (0, .ref l0), (1, .int l1), (2, .int l2), (3, .int l3), (4, .int l4)] dX13_goodBy_54 rfl rfl (Nat.le_of_ble_eq_true rfl) rfl ?_
        refine eg_goto 14 dX13_goodBy_57 rfl ?_
        exact eg_sub [2, 3, 4, 5, 6, 1, 0] [(0, .ref l0), (1, .int l1), (2, .int l2), (3, .int l3), (4, .int l4), (5, .int v13), (6, .int (l6 + (1 : Int32)))] rfl (hrec h9 l0 l1 l2 l3 l4 v13 (l6 + (1 : Int32)) hF)
      · replace hF := eg_if c12 hF
        refine eg_iconst (v := (1 : Int32)) dX13_goodBy_46 (by decide) ?_
        refine eg_goto 51 dX13_goodBy_47 rfl ?_
        refine eg_iadd dX13_goodBy_51 ?_
        replace hF := eg_bind hF; obtain ⟨v15, e16, hF⟩ := hF
        replace e16 := Option.some.inj e16
        rw [e16]
        refine eg_istore (i := 5) [(5, .int v15), (0, .ref l0), (1, .int l1), (2, .int l2), (3, .int l3), (4, .int l4), (6, .int l6)] dX13_goodBy_52 (Nat.le_of_ble_eq_true rfl) rfl ?_
        refine eg_iinc (i := 6) (v := (l6 + (1 : Int32))) 6 [(6, .int (l6 + (1 : Int32))), (5, .int v15), (0, .ref l0), (1, .int l1), (2, .int l2), (3, .int l3), (4, .int l4)] dX13_goodBy_54 rfl rfl (Nat.le_of_ble_eq_true rfl) rfl ?_
        refine eg_goto 14 dX13_goodBy_57 rfl ?_
        exact eg_sub [2, 3, 4, 5, 6, 1, 0] [(0, .ref l0), (1, .int l1), (2, .int l2), (3, .int l3), (4, .int l4), (5, .int v15), (6, .int (l6 + (1 : Int32)))] rfl (hrec h9 l0 l1 l2 l3 l4 v15 (l6 + (1 : Int32)) hF)
def fX13_goodBy (h : eg_H) (l0 : Nat) (l1 : Int32) (l2 : Int32) (l3 : Int32) (l4 : Int32) : Option (Int32 × eg_H) :=
  if eg_isO h 13 l0 then (
    (eg_gR h 13 20 l0).bind fun p1 =>
    (eg_aI h 100 p1 ((4 : Int32) * l1)).bind fun v3 =>
    (some ((-v3))).bind fun v5 =>
    (fX13_goodBy_L14 eg_F h l0 l1 l2 l3 l4 (0 : Int32) v5).bind fun e =>
    match e with
    | (v9, h10) =>
      some (v9, h10)) else none
theorem fX13_goodBy_O {h : eg_H} {l0 : Nat} {l1 : Int32} {l2 : Int32} {l3 : Int32} {l4 : Int32} {rE : Int32} {hE : eg_H} (hF : fX13_goodBy h l0 l1 l2 l3 l4 = some (rE, hE)) : eg_isO h 13 l0 := (eg_ifn hF).1
set_option maxRecDepth 20000 in
theorem mX13_goodBy {h : eg_H} {l0 : Nat} {l1 : Int32} {l2 : Int32} {l3 : Int32} {l4 : Int32} {rE : Int32} {hE : eg_H} (hF : fX13_goodBy h l0 l1 l2 l3 l4 = some (rE, hE)) : eg_Met yX13_goodBy cX13_goodBy 7 (some .int) 3 [.ref l0, .int l1, .int l2, .int l3, .int l4] h (some (.int rE)) hE := by
  refine eg_enter rfl (Nat.le_of_ble_eq_true rfl) ?_
  show eg_AW (RX13, cX13_goodBy, 7, 3, none, "goodBy", (some .int)) (eg_Zm (some (.int rE)) hE h) (eg_nc hE) (eg_ns hE) h 0 [(0, .ref l0), (1, .int l1), (2, .int l2), (3, .int l3), (4, .int l4)] [] h
  replace hF := (eg_ifn hF).2
  refine eg_iconst (v := (0 : Int32)) dX13_goodBy_0 (by decide) ?_
  refine eg_istore (i := 5) [(5, .int (0 : Int32)), (0, .ref l0), (1, .int l1), (2, .int l2), (3, .int l3), (4, .int l4)] dX13_goodBy_1 (Nat.le_of_ble_eq_true rfl) rfl ?_
  refine eg_aload_n (i := 0) 1 dX13_goodBy_3 rfl rfl ?_
  replace hF := eg_bind hF; obtain ⟨p1, e2, hF⟩ := hF
  refine eg_getR dX13_goodBy_4 e2 (Nat.le_of_ble_eq_true rfl) (Nat.le_of_ble_eq_true rfl) rfl ew_1454 ?_
  refine eg_iconst (v := (4 : Int32)) dX13_goodBy_7 (by decide) ?_
  refine eg_iload_n (i := 1) 2 dX13_goodBy_8 rfl rfl ?_
  refine eg_imul dX13_goodBy_9 ?_
  replace hF := eg_bind hF; obtain ⟨v3, e4, hF⟩ := hF
  refine eg_iald dX13_goodBy_10 e4 ?_
  refine eg_ineg dX13_goodBy_11 ?_
  replace hF := eg_bind hF; obtain ⟨v5, e6, hF⟩ := hF
  replace e6 := Option.some.inj e6
  rw [e6]
  refine eg_istore (i := 6) [(6, .int v5), (5, .int (0 : Int32)), (0, .ref l0), (1, .int l1), (2, .int l2), (3, .int l3), (4, .int l4)] dX13_goodBy_12 (Nat.le_of_ble_eq_true rfl) rfl ?_
  replace hF := eg_bind hF; obtain ⟨x8, e7, hF⟩ := hF
  refine eg_sub [2, 3, 4, 5, 6, 1, 0] [(0, .ref l0), (1, .int l1), (2, .int l2), (3, .int l3), (4, .int l4), (5, .int (0 : Int32)), (6, .int v5)] rfl (fX13_goodBy_L14_ok eg_F h l0 l1 l2 l3 l4 (0 : Int32) v5 x8 e7 ?_)
  · intro v9 h10 e11
    subst e11
    refine eg_iload (i := 5) 0 dX13_goodBy_60 rfl ?_
    exact eg_iretE dX13_goodBy_62 hF
theorem dX13_isHow_0 : decode cX13_isHow 0 = .ok (.iload_n 2, 1) := by decide +kernel
theorem dX13_isHow_1 : decode cX13_isHow 1 = .ok (.ifCond .lt 36, 3) := by decide +kernel
theorem dX13_isHow_4 : decode cX13_isHow 4 = .ok (.iload_n 2, 1) := by decide +kernel
theorem dX13_isHow_5 : decode cX13_isHow 5 = .ok (.bipush 100, 2) := by decide +kernel
theorem dX13_isHow_7 : decode cX13_isHow 7 = .ok (.idiv, 1) := by decide +kernel
theorem dX13_isHow_8 : decode cX13_isHow 8 = .ok (.aload_n 0, 1) := by decide +kernel
theorem dX13_isHow_9 : decode cX13_isHow 9 = .ok (.getfield 43, 3) := by decide +kernel
theorem dX13_isHow_12 : decode cX13_isHow 12 = .ok (.iconst 4, 1) := by decide +kernel
theorem dX13_isHow_13 : decode cX13_isHow 13 = .ok (.iload_n 1, 1) := by decide +kernel
theorem dX13_isHow_14 : decode cX13_isHow 14 = .ok (.bipush 10, 2) := by decide +kernel
theorem dX13_isHow_16 : decode cX13_isHow 16 = .ok (.idiv, 1) := by decide +kernel
theorem dX13_isHow_17 : decode cX13_isHow 17 = .ok (.imul, 1) := by decide +kernel
theorem dX13_isHow_18 : decode cX13_isHow 18 = .ok (.iconst 3, 1) := by decide +kernel
theorem dX13_isHow_19 : decode cX13_isHow 19 = .ok (.iadd, 1) := by decide +kernel
theorem dX13_isHow_20 : decode cX13_isHow 20 = .ok (.iaload, 1) := by decide +kernel
theorem dX13_isHow_21 : decode cX13_isHow 21 = .ok (.if_icmp .gt 16, 3) := by decide +kernel
theorem dX13_isHow_24 : decode cX13_isHow 24 = .ok (.iload_n 2, 1) := by decide +kernel
theorem dX13_isHow_25 : decode cX13_isHow 25 = .ok (.bipush 100, 2) := by decide +kernel
theorem dX13_isHow_27 : decode cX13_isHow 27 = .ok (.irem, 1) := by decide +kernel
theorem dX13_isHow_28 : decode cX13_isHow 28 = .ok (.bipush 10, 2) := by decide +kernel
theorem dX13_isHow_30 : decode cX13_isHow 30 = .ok (.if_icmp .gt 7, 3) := by decide +kernel
theorem dX13_isHow_33 : decode cX13_isHow 33 = .ok (.iconst 1, 1) := by decide +kernel
theorem dX13_isHow_34 : decode cX13_isHow 34 = .ok (.goto 4, 3) := by decide +kernel
theorem dX13_isHow_37 : decode cX13_isHow 37 = .ok (.iconst 0, 1) := by decide +kernel
theorem dX13_isHow_38 : decode cX13_isHow 38 = .ok (.ireturn, 1) := by decide +kernel
def fX13_isHow (h : eg_H) (l0 : Nat) (l1 : Int32) (l2 : Int32) : Option (Int32 × eg_H) :=
  if eg_isO h 13 l0 then (
    if l2 < 0 then
      (some ((0 : Int32), h))
    else
      (eg_gR h 13 20 l0).bind fun p2 =>
      (eg_aI h 100 p2 (((4 : Int32) * (l1 / (10 : Int32))) + (3 : Int32))).bind fun v4 =>
      if v4 < (l2 / (100 : Int32)) then
        (some ((0 : Int32), h))
      else
        if (10 : Int32) < (l2 % (100 : Int32)) then
          (some ((0 : Int32), h))
        else
          some ((1 : Int32), h)) else none
theorem fX13_isHow_O {h : eg_H} {l0 : Nat} {l1 : Int32} {l2 : Int32} {rE : Int32} {hE : eg_H} (hF : fX13_isHow h l0 l1 l2 = some (rE, hE)) : eg_isO h 13 l0 := (eg_ifn hF).1
set_option maxRecDepth 20000 in
theorem mX13_isHow {h : eg_H} {l0 : Nat} {l1 : Int32} {l2 : Int32} {rE : Int32} {hE : eg_H} (hF : fX13_isHow h l0 l1 l2 = some (rE, hE)) : eg_Met yX13_isHow cX13_isHow 3 (some .boolean) 1 [.ref l0, .int l1, .int l2] h (some (.int rE)) hE := by
  refine eg_enter rfl (Nat.le_of_ble_eq_true rfl) ?_
  show eg_AW (RX13, cX13_isHow, 3, 1, none, "isHow", (some .boolean)) (eg_Zm (some (.int rE)) hE h) (eg_nc hE) (eg_ns hE) h 0 [(0, .ref l0), (1, .int l1), (2, .int l2)] [] h
  replace hF := (eg_ifn hF).2
  refine eg_iload_n (i := 2) 2 dX13_isHow_0 rfl rfl ?_
  refine eg_if_lt 37 dX13_isHow_1 rfl (fun c1 => ?_) (fun c1 => ?_)
  · replace hF := eg_it c1 hF
    refine eg_iconst (v := (0 : Int32)) dX13_isHow_37 (by decide) ?_
    exact eg_zretE dX13_isHow_38 (Or.inl rfl) hF
  · replace hF := eg_if c1 hF
    refine eg_iload_n (i := 2) 2 dX13_isHow_4 rfl rfl ?_
    refine eg_bipush (v := (100 : Int32)) dX13_isHow_5 (by decide) ?_
    refine eg_idiv dX13_isHow_7 (by decide) ?_
    refine eg_aload_n (i := 0) 0 dX13_isHow_8 rfl rfl ?_
    replace hF := eg_bind hF; obtain ⟨p2, e3, hF⟩ := hF
    refine eg_getR dX13_isHow_9 e3 (Nat.le_of_ble_eq_true rfl) (Nat.le_of_ble_eq_true rfl) rfl ew_1454 ?_
    refine eg_iconst (v := (4 : Int32)) dX13_isHow_12 (by decide) ?_
    refine eg_iload_n (i := 1) 1 dX13_isHow_13 rfl rfl ?_
    refine eg_bipush (v := (10 : Int32)) dX13_isHow_14 (by decide) ?_
    refine eg_idiv dX13_isHow_16 (by decide) ?_
    refine eg_imul dX13_isHow_17 ?_
    refine eg_iconst (v := (3 : Int32)) dX13_isHow_18 (by decide) ?_
    refine eg_iadd dX13_isHow_19 ?_
    replace hF := eg_bind hF; obtain ⟨v4, e5, hF⟩ := hF
    refine eg_iald dX13_isHow_20 e5 ?_
    refine eg_ic_gt 37 dX13_isHow_21 rfl (fun c6 => ?_) (fun c6 => ?_)
    · replace hF := eg_it c6 hF
      refine eg_iconst (v := (0 : Int32)) dX13_isHow_37 (by decide) ?_
      exact eg_zretE dX13_isHow_38 (Or.inl rfl) hF
    · replace hF := eg_if c6 hF
      refine eg_iload_n (i := 2) 2 dX13_isHow_24 rfl rfl ?_
      refine eg_bipush (v := (100 : Int32)) dX13_isHow_25 (by decide) ?_
      refine eg_irem dX13_isHow_27 (by decide) ?_
      refine eg_bipush (v := (10 : Int32)) dX13_isHow_28 (by decide) ?_
      refine eg_ic_gt 37 dX13_isHow_30 rfl (fun c7 => ?_) (fun c7 => ?_)
      · replace hF := eg_it c7 hF
        refine eg_iconst (v := (0 : Int32)) dX13_isHow_37 (by decide) ?_
        exact eg_zretE dX13_isHow_38 (Or.inl rfl) hF
      · replace hF := eg_if c7 hF
        refine eg_iconst (v := (1 : Int32)) dX13_isHow_33 (by decide) ?_
        refine eg_goto 38 dX13_isHow_34 rfl ?_
        exact eg_zretE dX13_isHow_38 (Or.inr rfl) hF
theorem dX13_goodOf_0 : decode cX13_goodOf 0 = .ok (.aload_n 0, 1) := by decide +kernel
theorem dX13_goodOf_1 : decode cX13_goodOf 1 = .ok (.iload_n 1, 1) := by decide +kernel
theorem dX13_goodOf_2 : decode cX13_goodOf 2 = .ok (.bipush 10, 2) := by decide +kernel
theorem dX13_goodOf_4 : decode cX13_goodOf 4 = .ok (.irem, 1) := by decide +kernel
theorem dX13_goodOf_5 : decode cX13_goodOf 5 = .ok (.iload_n 2, 1) := by decide +kernel
theorem dX13_goodOf_6 : decode cX13_goodOf 6 = .ok (.iload_n 3, 1) := by decide +kernel
theorem dX13_goodOf_7 : decode cX13_goodOf 7 = .ok (.iload 4, 2) := by decide +kernel
theorem dX13_goodOf_9 : decode cX13_goodOf 9 = .ok (.bipush 100, 2) := by decide +kernel
theorem dX13_goodOf_11 : decode cX13_goodOf 11 = .ok (.idiv, 1) := by decide +kernel
theorem dX13_goodOf_12 : decode cX13_goodOf 12 = .ok (.invokevirtual 398, 3) := by decide +kernel
theorem dX13_goodOf_15 : decode cX13_goodOf 15 = .ok (.aload_n 0, 1) := by decide +kernel
theorem dX13_goodOf_16 : decode cX13_goodOf 16 = .ok (.iload_n 1, 1) := by decide +kernel
theorem dX13_goodOf_17 : decode cX13_goodOf 17 = .ok (.bipush 10, 2) := by decide +kernel
theorem dX13_goodOf_19 : decode cX13_goodOf 19 = .ok (.idiv, 1) := by decide +kernel
theorem dX13_goodOf_20 : decode cX13_goodOf 20 = .ok (.iload_n 2, 1) := by decide +kernel
theorem dX13_goodOf_21 : decode cX13_goodOf 21 = .ok (.bipush 10, 2) := by decide +kernel
theorem dX13_goodOf_23 : decode cX13_goodOf 23 = .ok (.irem, 1) := by decide +kernel
theorem dX13_goodOf_24 : decode cX13_goodOf 24 = .ok (.iload 4, 2) := by decide +kernel
theorem dX13_goodOf_26 : decode cX13_goodOf 26 = .ok (.bipush 100, 2) := by decide +kernel
theorem dX13_goodOf_28 : decode cX13_goodOf 28 = .ok (.idiv, 1) := by decide +kernel
theorem dX13_goodOf_29 : decode cX13_goodOf 29 = .ok (.iload 4, 2) := by decide +kernel
theorem dX13_goodOf_31 : decode cX13_goodOf 31 = .ok (.bipush 100, 2) := by decide +kernel
theorem dX13_goodOf_33 : decode cX13_goodOf 33 = .ok (.irem, 1) := by decide +kernel
theorem dX13_goodOf_34 : decode cX13_goodOf 34 = .ok (.iconst 5, 1) := by decide +kernel
theorem dX13_goodOf_35 : decode cX13_goodOf 35 = .ok (.isub, 1) := by decide +kernel
theorem dX13_goodOf_36 : decode cX13_goodOf 36 = .ok (.invokevirtual 402, 3) := by decide +kernel
theorem dX13_goodOf_39 : decode cX13_goodOf 39 = .ok (.ireturn, 1) := by decide +kernel
def fX13_goodOf (h : eg_H) (l0 : Nat) (l1 : Int32) (l2 : Int32) (l3 : Int32) (l4 : Int32) : Option (Int32 × eg_H) :=
  if eg_isO h 13 l0 then (
    (fX13_layHolds h l0 (l1 % (10 : Int32)) l2 l3 (l4 / (100 : Int32))).bind fun h1 =>
    (fX13_goodBy h1 l0 (l1 / (10 : Int32)) (l2 % (10 : Int32)) (l4 / (100 : Int32)) ((l4 % (100 : Int32)) - (5 : Int32))).bind fun ⟨v4, h3⟩ =>
    some (v4, h3)) else none
theorem fX13_goodOf_O {h : eg_H} {l0 : Nat} {l1 : Int32} {l2 : Int32} {l3 : Int32} {l4 : Int32} {rE : Int32} {hE : eg_H} (hF : fX13_goodOf h l0 l1 l2 l3 l4 = some (rE, hE)) : eg_isO h 13 l0 := (eg_ifn hF).1
set_option maxRecDepth 20000 in
theorem mX13_goodOf {h : eg_H} {l0 : Nat} {l1 : Int32} {l2 : Int32} {l3 : Int32} {l4 : Int32} {rE : Int32} {hE : eg_H} (hF : fX13_goodOf h l0 l1 l2 l3 l4 = some (rE, hE)) : eg_Met yX13_goodOf cX13_goodOf 5 (some .int) 397 [.ref l0, .int l1, .int l2, .int l3, .int l4] h (some (.int rE)) hE := by
  refine eg_enter rfl (Nat.le_of_ble_eq_true rfl) ?_
  show eg_AW (RX13, cX13_goodOf, 5, 397, none, "goodOf", (some .int)) (eg_Zm (some (.int rE)) hE h) (eg_nc hE) (eg_ns hE) h 0 [(0, .ref l0), (1, .int l1), (2, .int l2), (3, .int l3), (4, .int l4)] [] h
  replace hF := (eg_ifn hF).2
  refine eg_aload_n (i := 0) 0 dX13_goodOf_0 rfl rfl ?_
  refine eg_iload_n (i := 1) 1 dX13_goodOf_1 rfl rfl ?_
  refine eg_bipush (v := (10 : Int32)) dX13_goodOf_2 (by decide) ?_
  refine eg_irem dX13_goodOf_4 (by decide) ?_
  refine eg_iload_n (i := 2) 2 dX13_goodOf_5 rfl rfl ?_
  refine eg_iload_n (i := 3) 3 dX13_goodOf_6 rfl rfl ?_
  refine eg_iload (i := 4) 4 dX13_goodOf_7 rfl ?_
  refine eg_bipush (v := (100 : Int32)) dX13_goodOf_9 (by decide) ?_
  refine eg_idiv dX13_goodOf_11 (by decide) ?_
  replace hF := eg_bind hF; obtain ⟨h1, e2, hF⟩ := hF
  refine eg_callV (c := 13) (n := 4) [.int (l1 % (10 : Int32)), .int l2, .int l3, .int (l4 / (100 : Int32))] dX13_goodOf_12 (mX13_layHolds e2) rfl (fX13_layHolds_O e2) (Nat.le_of_ble_eq_true rfl) rfl ew_1945 ew_1947 ew_80 ew_110 ew_1948 hy_X13_layHolds rfl (Nat.le_of_ble_eq_true rfl) (Nat.le_of_ble_eq_true rfl) (Nat.le_of_ble_eq_true rfl) ?_
  refine eg_aload_n (i := 0) 0 dX13_goodOf_15 rfl rfl ?_
  refine eg_iload_n (i := 1) 1 dX13_goodOf_16 rfl rfl ?_
  refine eg_bipush (v := (10 : Int32)) dX13_goodOf_17 (by decide) ?_
  refine eg_idiv dX13_goodOf_19 (by decide) ?_
  refine eg_iload_n (i := 2) 2 dX13_goodOf_20 rfl rfl ?_
  refine eg_bipush (v := (10 : Int32)) dX13_goodOf_21 (by decide) ?_
  refine eg_irem dX13_goodOf_23 (by decide) ?_
  refine eg_iload (i := 4) 4 dX13_goodOf_24 rfl ?_
  refine eg_bipush (v := (100 : Int32)) dX13_goodOf_26 (by decide) ?_
  refine eg_idiv dX13_goodOf_28 (by decide) ?_
  refine eg_iload (i := 4) 4 dX13_goodOf_29 rfl ?_
  refine eg_bipush (v := (100 : Int32)) dX13_goodOf_31 (by decide) ?_
  refine eg_irem dX13_goodOf_33 (by decide) ?_
  refine eg_iconst (v := (5 : Int32)) dX13_goodOf_34 (by decide) ?_
  refine eg_isub dX13_goodOf_35 ?_
  replace hF := eg_bind hF; obtain ⟨⟨v4, h3⟩, e5, hF⟩ := hF
  refine eg_callV (c := 13) (n := 4) [.int (l1 / (10 : Int32)), .int (l2 % (10 : Int32)), .int (l4 / (100 : Int32)), .int ((l4 % (100 : Int32)) - (5 : Int32))] dX13_goodOf_36 (mX13_goodBy e5) rfl (fX13_goodBy_O e5) (Nat.le_of_ble_eq_true rfl) rfl ew_1953 ew_1955 ew_82 ew_110 ew_1956 hy_X13_goodBy rfl (Nat.le_of_ble_eq_true rfl) (Nat.le_of_ble_eq_true rfl) (Nat.le_of_ble_eq_true rfl) ?_
  exact eg_iretE dX13_goodOf_39 hF
theorem dX13_good_0 : decode cX13_good 0 = .ok (.aload_n 0, 1) := by decide +kernel
theorem dX13_good_1 : decode cX13_good 1 = .ok (.iconst 0, 1) := by decide +kernel
theorem dX13_good_2 : decode cX13_good 2 = .ok (.putfield 148, 3) := by decide +kernel
theorem dX13_good_5 : decode cX13_good 5 = .ok (.aload_n 0, 1) := by decide +kernel
theorem dX13_good_6 : decode cX13_good 6 = .ok (.iload_n 1, 1) := by decide +kernel
theorem dX13_good_7 : decode cX13_good 7 = .ok (.invokevirtual 405, 3) := by decide +kernel
theorem dX13_good_10 : decode cX13_good 10 = .ok (.ifCond .eq 45, 3) := by decide +kernel
theorem dX13_good_13 : decode cX13_good 13 = .ok (.aload_n 0, 1) := by decide +kernel
theorem dX13_good_14 : decode cX13_good 14 = .ok (.iload_n 2, 1) := by decide +kernel
theorem dX13_good_15 : decode cX13_good 15 = .ok (.invokevirtual 408, 3) := by decide +kernel
theorem dX13_good_18 : decode cX13_good 18 = .ok (.ifCond .eq 37, 3) := by decide +kernel
theorem dX13_good_21 : decode cX13_good 21 = .ok (.iload_n 3, 1) := by decide +kernel
theorem dX13_good_22 : decode cX13_good 22 = .ok (.i2l, 1) := by decide +kernel
theorem dX13_good_23 : decode cX13_good 23 = .ok (.lconst 1, 1) := by decide +kernel
theorem dX13_good_24 : decode cX13_good 24 = .ok (.ldc2_w 380, 3) := by decide +kernel
theorem dX13_good_27 : decode cX13_good 27 = .ok (.invokestatic 269, 3) := by decide +kernel
theorem dX13_good_30 : decode cX13_good 30 = .ok (.ifCond .eq 25, 3) := by decide +kernel
theorem dX13_good_33 : decode cX13_good 33 = .ok (.aload_n 0, 1) := by decide +kernel
theorem dX13_good_34 : decode cX13_good 34 = .ok (.iload_n 1, 1) := by decide +kernel
theorem dX13_good_35 : decode cX13_good 35 = .ok (.iload 4, 2) := by decide +kernel
theorem dX13_good_37 : decode cX13_good 37 = .ok (.invokevirtual 411, 3) := by decide +kernel
theorem dX13_good_40 : decode cX13_good 40 = .ok (.ifCond .eq 15, 3) := by decide +kernel
theorem dX13_good_43 : decode cX13_good 43 = .ok (.aload_n 0, 1) := by decide +kernel
theorem dX13_good_44 : decode cX13_good 44 = .ok (.iload_n 1, 1) := by decide +kernel
theorem dX13_good_45 : decode cX13_good 45 = .ok (.iload_n 2, 1) := by decide +kernel
theorem dX13_good_46 : decode cX13_good 46 = .ok (.iload_n 3, 1) := by decide +kernel
theorem dX13_good_47 : decode cX13_good 47 = .ok (.iload 4, 2) := by decide +kernel
theorem dX13_good_49 : decode cX13_good 49 = .ok (.invokevirtual 414, 3) := by decide +kernel
theorem dX13_good_52 : decode cX13_good 52 = .ok (.goto 4, 3) := by decide +kernel
theorem dX13_good_55 : decode cX13_good 55 = .ok (.iconst (-1), 1) := by decide +kernel
theorem dX13_good_56 : decode cX13_good 56 = .ok (.ireturn, 1) := by decide +kernel
def fX13_good (h : eg_H) (l0 : Nat) (l1 : Int32) (l2 : Int32) (l3 : Int32) (l4 : Int32) : Option (Int32 × eg_H) :=
  if eg_isO h 13 l0 then (
    (eg_pI h 13 0 l0 (0 : Int32)).bind fun h1 =>
    (fX13_isTwo h1 l0 l1).bind fun ⟨v4, h3⟩ =>
    if v4 = 0 then
      (some ((-1 : Int32), h3))
    else
      (fX13_isFrom h3 l0 l2).bind fun ⟨v8, h7⟩ =>
      if v8 = 0 then
        (some ((-1 : Int32), h7))
      else
        (fX13_isIn h7 l3.toInt64 (1 : Int64) (60 : Int64)).bind fun ⟨v12, h11⟩ =>
        if v12 = 0 then
          (some ((-1 : Int32), h11))
        else
          (fX13_isHow h11 l0 l1 l4).bind fun ⟨v16, h15⟩ =>
          if v16 = 0 then
            (some ((-1 : Int32), h15))
          else
            (fX13_goodOf h15 l0 l1 l2 l3 l4).bind fun ⟨v20, h19⟩ =>
            some (v20, h19)) else none
theorem fX13_good_O {h : eg_H} {l0 : Nat} {l1 : Int32} {l2 : Int32} {l3 : Int32} {l4 : Int32} {rE : Int32} {hE : eg_H} (hF : fX13_good h l0 l1 l2 l3 l4 = some (rE, hE)) : eg_isO h 13 l0 := (eg_ifn hF).1
set_option maxRecDepth 20000 in
theorem mX13_good {h : eg_H} {l0 : Nat} {l1 : Int32} {l2 : Int32} {l3 : Int32} {l4 : Int32} {rE : Int32} {hE : eg_H} (hF : fX13_good h l0 l1 l2 l3 l4 = some (rE, hE)) : eg_Met yX13_good cX13_good 5 (some .int) 398 [.ref l0, .int l1, .int l2, .int l3, .int l4] h (some (.int rE)) hE := by
  refine eg_enter rfl (Nat.le_of_ble_eq_true rfl) ?_
  show eg_AW (RX13, cX13_good, 5, 398, none, "good", (some .int)) (eg_Zm (some (.int rE)) hE h) (eg_nc hE) (eg_ns hE) h 0 [(0, .ref l0), (1, .int l1), (2, .int l2), (3, .int l3), (4, .int l4)] [] h
  replace hF := (eg_ifn hF).2
  refine eg_aload_n (i := 0) 0 dX13_good_0 rfl rfl ?_
  refine eg_iconst (v := (0 : Int32)) dX13_good_1 (by decide) ?_
  replace hF := eg_bind hF; obtain ⟨h1, e2, hF⟩ := hF
  refine eg_putI dX13_good_2 e2 (Nat.le_of_ble_eq_true rfl) (Nat.le_of_ble_eq_true rfl) rfl ew_1434 (Or.inl rfl) ?_
  refine eg_aload_n (i := 0) 0 dX13_good_5 rfl rfl ?_
  refine eg_iload_n (i := 1) 1 dX13_good_6 rfl rfl ?_
  replace hF := eg_bind hF; obtain ⟨⟨v4, h3⟩, e5, hF⟩ := hF
  refine eg_callV (c := 13) (n := 1) [.int l1] dX13_good_7 (mX13_isTwo e5) rfl (fX13_isTwo_O e5) (Nat.le_of_ble_eq_true rfl) rfl ew_1929 ew_1931 ew_76 ew_110 ew_1932 hy_X13_isTwo rfl (Nat.le_of_ble_eq_true rfl) (Nat.le_of_ble_eq_true rfl) (Nat.le_of_ble_eq_true rfl) ?_
  refine eg_if_eq 55 dX13_good_10 rfl (fun c6 => ?_) (fun c6 => ?_)
  · replace hF := eg_it c6 hF
    refine eg_iconst (v := (-1 : Int32)) dX13_good_55 (by decide) ?_
    exact eg_iretE dX13_good_56 hF
  · replace hF := eg_if c6 hF
    refine eg_aload_n (i := 0) 0 dX13_good_13 rfl rfl ?_
    refine eg_iload_n (i := 2) 2 dX13_good_14 rfl rfl ?_
    replace hF := eg_bind hF; obtain ⟨⟨v8, h7⟩, e9, hF⟩ := hF
    refine eg_callV (c := 13) (n := 1) [.int l2] dX13_good_15 (mX13_isFrom e9) rfl (fX13_isFrom_O e9) (Nat.le_of_ble_eq_true rfl) rfl ew_1933 ew_1935 ew_77 ew_110 ew_1936 hy_X13_isFrom rfl (Nat.le_of_ble_eq_true rfl) (Nat.le_of_ble_eq_true rfl) (Nat.le_of_ble_eq_true rfl) ?_
    refine eg_if_eq 55 dX13_good_18 rfl (fun c10 => ?_) (fun c10 => ?_)
    · replace hF := eg_it c10 hF
      refine eg_iconst (v := (-1 : Int32)) dX13_good_55 (by decide) ?_
      exact eg_iretE dX13_good_56 hF
    · replace hF := eg_if c10 hF
      refine eg_iload_n (i := 3) 3 dX13_good_21 rfl rfl ?_
      refine eg_i2l dX13_good_22 ?_
      refine eg_lconst (v := (1 : Int64)) dX13_good_23 (by decide) ?_
      refine eg_ldc2 (v := (60 : Int64)) dX13_good_24 ew_1912 ?_
      replace hF := eg_bind hF; obtain ⟨⟨v12, h11⟩, e13, hF⟩ := hF
      refine eg_callS (n := 3) [.long l3.toInt64, .long (1 : Int64), .long (60 : Int64)] dX13_good_27 (mX13_isIn e13) rfl ew_1697 ew_1698 ew_110 ew_1699 hy_X13_isIn.2 rfl (Nat.le_of_ble_eq_true rfl) (Nat.le_of_ble_eq_true rfl) (Nat.le_of_ble_eq_true rfl) ?_
      refine eg_if_eq 55 dX13_good_30 rfl (fun c14 => ?_) (fun c14 => ?_)
      · replace hF := eg_it c14 hF
        refine eg_iconst (v := (-1 : Int32)) dX13_good_55 (by decide) ?_
        exact eg_iretE dX13_good_56 hF
      · replace hF := eg_if c14 hF
        refine eg_aload_n (i := 0) 0 dX13_good_33 rfl rfl ?_
        refine eg_iload_n (i := 1) 1 dX13_good_34 rfl rfl ?_
        refine eg_iload (i := 4) 4 dX13_good_35 rfl ?_
        replace hF := eg_bind hF; obtain ⟨⟨v16, h15⟩, e17, hF⟩ := hF
        refine eg_callV (c := 13) (n := 2) [.int l1, .int l4] dX13_good_37 (mX13_isHow e17) rfl (fX13_isHow_O e17) (Nat.le_of_ble_eq_true rfl) rfl ew_1937 ew_1939 ew_78 ew_110 ew_1940 hy_X13_isHow rfl (Nat.le_of_ble_eq_true rfl) (Nat.le_of_ble_eq_true rfl) (Nat.le_of_ble_eq_true rfl) ?_
        refine eg_if_eq 55 dX13_good_40 rfl (fun c18 => ?_) (fun c18 => ?_)
        · replace hF := eg_it c18 hF
          refine eg_iconst (v := (-1 : Int32)) dX13_good_55 (by decide) ?_
          exact eg_iretE dX13_good_56 hF
        · replace hF := eg_if c18 hF
          refine eg_aload_n (i := 0) 0 dX13_good_43 rfl rfl ?_
          refine eg_iload_n (i := 1) 1 dX13_good_44 rfl rfl ?_
          refine eg_iload_n (i := 2) 2 dX13_good_45 rfl rfl ?_
          refine eg_iload_n (i := 3) 3 dX13_good_46 rfl rfl ?_
          refine eg_iload (i := 4) 4 dX13_good_47 rfl ?_
          replace hF := eg_bind hF; obtain ⟨⟨v20, h19⟩, e21, hF⟩ := hF
          refine eg_callV (c := 13) (n := 4) [.int l1, .int l2, .int l3, .int l4] dX13_good_49 (mX13_goodOf e21) rfl (fX13_goodOf_O e21) (Nat.le_of_ble_eq_true rfl) rfl ew_1941 ew_1943 ew_79 ew_110 ew_1944 hy_X13_goodOf rfl (Nat.le_of_ble_eq_true rfl) (Nat.le_of_ble_eq_true rfl) (Nat.le_of_ble_eq_true rfl) ?_
          refine eg_goto 56 dX13_good_52 rfl ?_
          exact eg_iretE dX13_good_56 hF
theorem dX13_layBest_0 : decode cX13_layBest 0 = .ok (.aload_n 0, 1) := by decide +kernel
theorem dX13_layBest_1 : decode cX13_layBest 1 = .ok (.iconst (-1), 1) := by decide +kernel
theorem dX13_layBest_2 : decode cX13_layBest 2 = .ok (.putfield 417, 3) := by decide +kernel
theorem dX13_layBest_5 : decode cX13_layBest 5 = .ok (.iconst 0, 1) := by decide +kernel
theorem dX13_layBest_6 : decode cX13_layBest 6 = .ok (.istore 5, 2) := by decide +kernel
theorem dX13_layBest_8 : decode cX13_layBest 8 = .ok (.iload 5, 2) := by decide +kernel
theorem dX13_layBest_10 : decode cX13_layBest 10 = .ok (.aload_n 0, 1) := by decide +kernel
theorem dX13_layBest_11 : decode cX13_layBest 11 = .ok (.getfield 43, 3) := by decide +kernel
theorem dX13_layBest_14 : decode cX13_layBest 14 = .ok (.iconst 4, 1) := by decide +kernel
theorem dX13_layBest_15 : decode cX13_layBest 15 = .ok (.iload_n 1, 1) := by decide +kernel
theorem dX13_layBest_16 : decode cX13_layBest 16 = .ok (.imul, 1) := by decide +kernel
theorem dX13_layBest_17 : decode cX13_layBest 17 = .ok (.iconst 3, 1) := by decide +kernel
theorem dX13_layBest_18 : decode cX13_layBest 18 = .ok (.iadd, 1) := by decide +kernel
theorem dX13_layBest_19 : decode cX13_layBest 19 = .ok (.iaload, 1) := by decide +kernel
theorem dX13_layBest_20 : decode cX13_layBest 20 = .ok (.if_icmp .gt 80, 3) := by decide +kernel
theorem dX13_layBest_23 : decode cX13_layBest 23 = .ok (.aload_n 0, 1) := by decide +kernel
theorem dX13_layBest_24 : decode cX13_layBest 24 = .ok (.iload_n 2, 1) := by decide +kernel
theorem dX13_layBest_25 : decode cX13_layBest 25 = .ok (.iload_n 3, 1) := by decide +kernel
theorem dX13_layBest_26 : decode cX13_layBest 26 = .ok (.iload 4, 2) := by decide +kernel
theorem dX13_layBest_28 : decode cX13_layBest 28 = .ok (.iload 5, 2) := by decide +kernel
theorem dX13_layBest_30 : decode cX13_layBest 30 = .ok (.invokevirtual 398, 3) := by decide +kernel
theorem dX13_layBest_33 : decode cX13_layBest 33 = .ok (.bipush (-5), 2) := by decide +kernel
theorem dX13_layBest_35 : decode cX13_layBest 35 = .ok (.istore 6, 2) := by decide +kernel
theorem dX13_layBest_37 : decode cX13_layBest 37 = .ok (.iload 6, 2) := by decide +kernel
theorem dX13_layBest_39 : decode cX13_layBest 39 = .ok (.iconst 5, 1) := by decide +kernel
theorem dX13_layBest_40 : decode cX13_layBest 40 = .ok (.if_icmp .gt 54, 3) := by decide +kernel
theorem dX13_layBest_43 : decode cX13_layBest 43 = .ok (.aload_n 0, 1) := by decide +kernel
theorem dX13_layBest_44 : decode cX13_layBest 44 = .ok (.iload_n 1, 1) := by decide +kernel
theorem dX13_layBest_45 : decode cX13_layBest 45 = .ok (.iload_n 3, 1) := by decide +kernel
theorem dX13_layBest_46 : decode cX13_layBest 46 = .ok (.bipush 10, 2) := by decide +kernel
theorem dX13_layBest_48 : decode cX13_layBest 48 = .ok (.irem, 1) := by decide +kernel
theorem dX13_layBest_49 : decode cX13_layBest 49 = .ok (.iload 5, 2) := by decide +kernel
theorem dX13_layBest_51 : decode cX13_layBest 51 = .ok (.iload 6, 2) := by decide +kernel
theorem dX13_layBest_53 : decode cX13_layBest 53 = .ok (.invokevirtual 402, 3) := by decide +kernel
theorem dX13_layBest_56 : decode cX13_layBest 56 = .ok (.istore 7, 2) := by decide +kernel
theorem dX13_layBest_58 : decode cX13_layBest 58 = .ok (.iload 7, 2) := by decide +kernel
theorem dX13_layBest_60 : decode cX13_layBest 60 = .ok (.aload_n 0, 1) := by decide +kernel
theorem dX13_layBest_61 : decode cX13_layBest 61 = .ok (.getfield 417, 3) := by decide +kernel
theorem dX13_layBest_64 : decode cX13_layBest 64 = .ok (.if_icmp .gt 6, 3) := by decide +kernel
theorem dX13_layBest_67 : decode cX13_layBest 67 = .ok (.goto 21, 3) := by decide +kernel
theorem dX13_layBest_70 : decode cX13_layBest 70 = .ok (.aload_n 0, 1) := by decide +kernel
theorem dX13_layBest_71 : decode cX13_layBest 71 = .ok (.iload 5, 2) := by decide +kernel
theorem dX13_layBest_73 : decode cX13_layBest 73 = .ok (.putfield 420, 3) := by decide +kernel
theorem dX13_layBest_76 : decode cX13_layBest 76 = .ok (.aload_n 0, 1) := by decide +kernel
theorem dX13_layBest_77 : decode cX13_layBest 77 = .ok (.iload 6, 2) := by decide +kernel
theorem dX13_layBest_79 : decode cX13_layBest 79 = .ok (.putfield 423, 3) := by decide +kernel
theorem dX13_layBest_82 : decode cX13_layBest 82 = .ok (.aload_n 0, 1) := by decide +kernel
theorem dX13_layBest_83 : decode cX13_layBest 83 = .ok (.iload 7, 2) := by decide +kernel
theorem dX13_layBest_85 : decode cX13_layBest 85 = .ok (.putfield 417, 3) := by decide +kernel
theorem dX13_layBest_88 : decode cX13_layBest 88 = .ok (.iinc 6 1, 3) := by decide +kernel
theorem dX13_layBest_91 : decode cX13_layBest 91 = .ok (.goto (-54), 3) := by decide +kernel
theorem dX13_layBest_94 : decode cX13_layBest 94 = .ok (.iinc 5 1, 3) := by decide +kernel
theorem dX13_layBest_97 : decode cX13_layBest 97 = .ok (.goto (-89), 3) := by decide +kernel
theorem dX13_layBest_100 : decode cX13_layBest 100 = .ok (.return_, 1) := by decide +kernel
def fX13_layBest_L37 : Nat → eg_H → Nat → Int32 → Int32 → Int32 → Int32 → Int32 → Int32 → Option (Nat × Int32 × Int32 × Int32 × Int32 × Int32 × eg_H)
  | 0, _, _, _, _, _, _, _, _ => none
  | n + 1, h, l0, l1, l2, l3, l4, l5, l6 =>
    if (5 : Int32) < l6 then
      (some (l0, l1, l2, l3, l4, l5, h))
    else
      (fX13_goodBy h l0 l1 (l3 % (10 : Int32)) l5 l6).bind fun ⟨v3, h2⟩ =>
      (eg_gI h2 13 38 l0).bind fun v5 =>
      if v5 < v3 then
        ((eg_pI h2 13 36 l0 l5).bind fun h8 =>
        (eg_pI h8 13 37 l0 l6).bind fun h10 =>
        (eg_pI h10 13 38 l0 v3).bind fun h12 =>
        fX13_layBest_L37 n h12 l0 l1 l2 l3 l4 l5 (l6 + (1 : Int32)))
      else
        fX13_layBest_L37 n h2 l0 l1 l2 l3 l4 l5 (l6 + (1 : Int32))
set_option maxRecDepth 20000 in
theorem fX13_layBest_L37_ok {h0 : eg_H} {Z : eg_C → State → Prop} {N S : Nat} : ∀ (n : Nat) (h : eg_H) (l0 : Nat) (l1 : Int32) (l2 : Int32) (l3 : Int32) (l4 : Int32) (l5 : Int32) (l6 : Int32) (eE : Nat × Int32 × Int32 × Int32 × Int32 × Int32 × eg_H), fX13_layBest_L37 n h l0 l1 l2 l3 l4 l5 l6 = some eE → (hk0 : ∀ (l0 : Nat) (l1 : Int32) (l2 : Int32) (l3 : Int32) (l4 : Int32) (l5 : Int32) (h : eg_H), eE = (l0, l1, l2, l3, l4, l5, h) → eg_AW (RX13, cX13_layBest, 8, 397, none, "layBest", none) Z N S h0 94 [(0, .ref l0), (1, .int l1), (2, .int l2), (3, .int l3), (4, .int l4), (5, .int l5)] [] h) → eg_AW (RX13, cX13_layBest, 8, 397, none, "layBest", none) Z N S h0 37 [(0, .ref l0), (1, .int l1), (2, .int l2), (3, .int l3), (4, .int l4), (5, .int l5), (6, .int l6)] [] h := by
  intro n
  induction n with
  | zero => intro h l0 l1 l2 l3 l4 l5 l6 eE hF; exact absurd hF (by intro q; cases q)
  | succ n ih =>
    intro h l0 l1 l2 l3 l4 l5 l6 eE hF hk0
    have hrec := fun (h' : eg_H) (l0 : Nat) (l1 : Int32) (l2 : Int32) (l3 : Int32) (l4 : Int32) (l5 : Int32) (l6 : Int32) hq => ih h' l0 l1 l2 l3 l4 l5 l6 eE hq hk0
    refine eg_iload (i := 6) 6 dX13_layBest_37 rfl ?_
    refine eg_iconst (v := (5 : Int32)) dX13_layBest_39 (by decide) ?_
    refine eg_ic_gt 94 dX13_layBest_40 rfl (fun c1 => ?_) (fun c1 => ?_)
    · replace hF := eg_it c1 hF
      exact eg_sub [0, 1, 2, 3, 4, 5] [(0, .ref l0), (1, .int l1), (2, .int l2), (3, .int l3), (4, .int l4), (5, .int l5)] rfl (hk0 l0 l1 l2 l3 l4 l5 h (Option.some.inj hF).symm)
    · replace hF := eg_if c1 hF
      refine eg_aload_n (i := 0) 0 dX13_layBest_43 rfl rfl ?_
      refine eg_iload_n (i := 1) 1 dX13_layBest_44 rfl rfl ?_
      refine eg_iload_n (i := 3) 3 dX13_layBest_45 rfl rfl ?_
      refine eg_bipush (v := (10 : Int32)) dX13_layBest_46 (by decide) ?_
      refine eg_irem dX13_layBest_48 (by decide) ?_
      refine eg_iload (i := 5) 5 dX13_layBest_49 rfl ?_
      refine eg_iload (i := 6) 6 dX13_layBest_51 rfl ?_
      replace hF := eg_bind hF; obtain ⟨⟨v3, h2⟩, e4, hF⟩ := hF
      refine eg_callV (c := 13) (n := 4) [.int l1, .int (l3 % (10 : Int32)), .int l5, .int l6] dX13_layBest_53 (mX13_goodBy e4) rfl (fX13_goodBy_O e4) (Nat.le_of_ble_eq_true rfl) rfl ew_1953 ew_1955 ew_82 ew_110 ew_1956 hy_X13_goodBy rfl (Nat.le_of_ble_eq_true rfl) (Nat.le_of_ble_eq_true rfl) (Nat.le_of_ble_eq_true rfl) ?_
      refine eg_istore (i := 7) [(7, .int v3), (0, .ref l0), (1, .int l1), (2, .int l2), (3, .int l3), (4, .int l4), (5, .int l5), (6, .int l6)] dX13_layBest_56 (Nat.le_of_ble_eq_true rfl) rfl ?_
      refine eg_iload (i := 7) 0 dX13_layBest_58 rfl ?_
      refine eg_aload_n (i := 0) 1 dX13_layBest_60 rfl rfl ?_
      replace hF := eg_bind hF; obtain ⟨v5, e6, hF⟩ := hF
      refine eg_getI dX13_layBest_61 e6 (Nat.le_of_ble_eq_true rfl) (Nat.le_of_ble_eq_true rfl) rfl ew_1472 ?_
      refine eg_ic_gt 70 dX13_layBest_64 rfl (fun c7 => ?_) (fun c7 => ?_)
      · replace hF := eg_it c7 hF
        refine eg_aload_n (i := 0) 1 dX13_layBest_70 rfl rfl ?_
        refine eg_iload (i := 5) 6 dX13_layBest_71 rfl ?_
        replace hF := eg_bind hF; obtain ⟨h8, e9, hF⟩ := hF
        refine eg_putI dX13_layBest_73 e9 (Nat.le_of_ble_eq_true rfl) (Nat.le_of_ble_eq_true rfl) rfl ew_1470 (Or.inl rfl) ?_
        refine eg_aload_n (i := 0) 1 dX13_layBest_76 rfl rfl ?_
        refine eg_iload (i := 6) 7 dX13_layBest_77 rfl ?_
        replace hF := eg_bind hF; obtain ⟨h10, e11, hF⟩ := hF
        refine eg_putI dX13_layBest_79 e11 (Nat.le_of_ble_eq_true rfl) (Nat.le_of_ble_eq_true rfl) rfl ew_1471 (Or.inl rfl) ?_
        refine eg_aload_n (i := 0) 1 dX13_layBest_82 rfl rfl ?_
        refine eg_iload (i := 7) 0 dX13_layBest_83 rfl ?_
        replace hF := eg_bind hF; obtain ⟨h12, e13, hF⟩ := hF
        refine eg_putI dX13_layBest_85 e13 (Nat.le_of_ble_eq_true rfl) (Nat.le_of_ble_eq_true rfl) rfl ew_1472 (Or.inl rfl) ?_
        refine eg_iinc (i := 6) (v := (l6 + (1 : Int32))) 7 [(6, .int (l6 + (1 : Int32))), (7, .int v3), (0, .ref l0), (1, .int l1), (2, .int l2), (3, .int l3), (4, .int l4), (5, .int l5)] dX13_layBest_88 rfl rfl (Nat.le_of_ble_eq_true rfl) rfl ?_
        refine eg_goto 37 dX13_layBest_91 rfl ?_
        exact eg_sub [2, 3, 4, 5, 6, 7, 0] [(0, .ref l0), (1, .int l1), (2, .int l2), (3, .int l3), (4, .int l4), (5, .int l5), (6, .int (l6 + (1 : Int32)))] rfl (hrec h12 l0 l1 l2 l3 l4 l5 (l6 + (1 : Int32)) hF)
      · replace hF := eg_if c7 hF
        refine eg_goto 88 dX13_layBest_67 rfl ?_
        refine eg_iinc (i := 6) (v := (l6 + (1 : Int32))) 7 [(6, .int (l6 + (1 : Int32))), (7, .int v3), (0, .ref l0), (1, .int l1), (2, .int l2), (3, .int l3), (4, .int l4), (5, .int l5)] dX13_layBest_88 rfl rfl (Nat.le_of_ble_eq_true rfl) rfl ?_
        refine eg_goto 37 dX13_layBest_91 rfl ?_
        exact eg_sub [2, 3, 4, 5, 6, 7, 0] [(0, .ref l0), (1, .int l1), (2, .int l2), (3, .int l3), (4, .int l4), (5, .int l5), (6, .int (l6 + (1 : Int32)))] rfl (hrec h2 l0 l1 l2 l3 l4 l5 (l6 + (1 : Int32)) hF)
def fX13_layBest_L8 : Nat → eg_H → Nat → Int32 → Int32 → Int32 → Int32 → Int32 → Option (eg_H)
  | 0, _, _, _, _, _, _, _ => none
  | n + 1, h, l0, l1, l2, l3, l4, l5 =>
    (eg_gR h 13 20 l0).bind fun p1 =>
    (eg_aI h 100 p1 (((4 : Int32) * l1) + (3 : Int32))).bind fun v3 =>
    if v3 < l5 then
      (some h)
    else
      (fX13_layHolds h l0 l2 l3 l4 l5).bind fun h6 =>
      (fX13_layBest_L37 eg_F h6 l0 l1 l2 l3 l4 l5 (-5 : Int32)).bind fun e =>
      match e with
      | (p10, v11, v12, v13, v14, v15, h16) =>
        fX13_layBest_L8 n h16 p10 v11 v12 v13 v14 (v15 + (1 : Int32))
set_option maxRecDepth 20000 in
theorem fX13_layBest_L8_ok {h0 : eg_H} {Z : eg_C → State → Prop} {N S : Nat} : ∀ (n : Nat) (h : eg_H) (l0 : Nat) (l1 : Int32) (l2 : Int32) (l3 : Int32) (l4 : Int32) (l5 : Int32) (eE : eg_H), fX13_layBest_L8 n h l0 l1 l2 l3 l4 l5 = some eE → (hk0 : ∀  (h : eg_H), eE = h → eg_AW (RX13, cX13_layBest, 8, 397, none, "layBest", none) Z N S h0 100 [] [] h) → eg_AW (RX13, cX13_layBest, 8, 397, none, "layBest", none) Z N S h0 8 [(0, .ref l0), (1, .int l1), (2, .int l2), (3, .int l3), (4, .int l4), (5, .int l5)] [] h := by
  intro n
  induction n with
  | zero => intro h l0 l1 l2 l3 l4 l5 eE hF; exact absurd hF (by intro q; cases q)
  | succ n ih =>
    intro h l0 l1 l2 l3 l4 l5 eE hF hk0
    have hrec := fun (h' : eg_H) (l0 : Nat) (l1 : Int32) (l2 : Int32) (l3 : Int32) (l4 : Int32) (l5 : Int32) hq => ih h' l0 l1 l2 l3 l4 l5 eE hq hk0
    refine eg_iload (i := 5) 5 dX13_layBest_8 rfl ?_
    refine eg_aload_n (i := 0) 0 dX13_layBest_10 rfl rfl ?_
    replace hF := eg_bind hF; obtain ⟨p1, e2, hF⟩ := hF
    refine eg_getR dX13_layBest_11 e2 (Nat.le_of_ble_eq_true rfl) (Nat.le_of_ble_eq_true rfl) rfl ew_1454 ?_
    refine eg_iconst (v := (4 : Int32)) dX13_layBest_14 (by decide) ?_
    refine eg_iload_n (i := 1) 1 dX13_layBest_15 rfl rfl ?_
    refine eg_imul dX13_layBest_16 ?_
    refine eg_iconst (v := (3 : Int32)) dX13_layBest_17 (by decide) ?_
    refine eg_iadd dX13_layBest_18 ?_
    replace hF := eg_bind hF; obtain ⟨v3, e4, hF⟩ := hF
    refine eg_iald dX13_layBest_19 e4 ?_
    refine eg_ic_gt 100 dX13_layBest_20 rfl (fun c5 => ?_) (fun c5 => ?_)
    · replace hF := eg_it c5 hF
      exact eg_sub [] [] rfl (hk0 h (Option.some.inj hF).symm)
    · replace hF := eg_if c5 hF
      refine eg_aload_n (i := 0) 0 dX13_layBest_23 rfl rfl ?_
      refine eg_iload_n (i := 2) 2 dX13_layBest_24 rfl rfl ?_
      refine eg_iload_n (i := 3) 3 dX13_layBest_25 rfl rfl ?_
      refine eg_iload (i := 4) 4 dX13_layBest_26 rfl ?_
      refine eg_iload (i := 5) 5 dX13_layBest_28 rfl ?_
      replace hF := eg_bind hF; obtain ⟨h6, e7, hF⟩ := hF
      refine eg_callV (c := 13) (n := 4) [.int l2, .int l3, .int l4, .int l5] dX13_layBest_30 (mX13_layHolds e7) rfl (fX13_layHolds_O e7) (Nat.le_of_ble_eq_true rfl) rfl ew_1945 ew_1947 ew_80 ew_110 ew_1948 hy_X13_layHolds rfl (Nat.le_of_ble_eq_true rfl) (Nat.le_of_ble_eq_true rfl) (Nat.le_of_ble_eq_true rfl) ?_
      refine eg_bipush (v := (-5 : Int32)) dX13_layBest_33 (by decide) ?_
      refine eg_istore (i := 6) [(6, .int (-5 : Int32)), (0, .ref l0), (1, .int l1), (2, .int l2), (3, .int l3), (4, .int l4), (5, .int l5)] dX13_layBest_35 (Nat.le_of_ble_eq_true rfl) rfl ?_
      replace hF := eg_bind hF; obtain ⟨x9, e8, hF⟩ := hF
      refine eg_sub [1, 2, 3, 4, 5, 6, 0] [(0, .ref l0), (1, .int l1), (2, .int l2), (3, .int l3), (4, .int l4), (5, .int l5), (6, .int (-5 : Int32))] rfl (fX13_layBest_L37_ok eg_F h6 l0 l1 l2 l3 l4 l5 (-5 : Int32) x9 e8 ?_)
      · intro p10 v11 v12 v13 v14 v15 h16 e17
        subst e17
        refine eg_iinc (i := 5) (v := (v15 + (1 : Int32))) 5 [(5, .int (v15 + (1 : Int32))), (0, .ref p10), (1, .int v11), (2, .int v12), (3, .int v13), (4, .int v14)] dX13_layBest_94 rfl rfl (Nat.le_of_ble_eq_true rfl) rfl ?_
        refine eg_goto 8 dX13_layBest_97 rfl ?_
        exact eg_sub [1, 2, 3, 4, 5, 0] [(0, .ref p10), (1, .int v11), (2, .int v12), (3, .int v13), (4, .int v14), (5, .int (v15 + (1 : Int32)))] rfl (hrec h16 p10 v11 v12 v13 v14 (v15 + (1 : Int32)) hF)
def fX13_layBest (h : eg_H) (l0 : Nat) (l1 : Int32) (l2 : Int32) (l3 : Int32) (l4 : Int32) : Option (eg_H) :=
  if eg_isO h 13 l0 then (
    (eg_pI h 13 38 l0 (-1 : Int32)).bind fun h1 =>
    (fX13_layBest_L8 eg_F h1 l0 l1 l2 l3 l4 (0 : Int32)).bind fun e =>
    match e with
    | h5 =>
      some h5) else none
theorem fX13_layBest_O {h : eg_H} {l0 : Nat} {l1 : Int32} {l2 : Int32} {l3 : Int32} {l4 : Int32} {hE : eg_H} (hF : fX13_layBest h l0 l1 l2 l3 l4 = some hE) : eg_isO h 13 l0 := (eg_ifn hF).1
set_option maxRecDepth 20000 in
theorem mX13_layBest {h : eg_H} {l0 : Nat} {l1 : Int32} {l2 : Int32} {l3 : Int32} {l4 : Int32} {hE : eg_H} (hF : fX13_layBest h l0 l1 l2 l3 l4 = some hE) : eg_Met yX13_layBest cX13_layBest 8 none 397 [.ref l0, .int l1, .int l2, .int l3, .int l4] h none hE := by
  refine eg_enter rfl (Nat.le_of_ble_eq_true rfl) ?_
  show eg_AW (RX13, cX13_layBest, 8, 397, none, "layBest", none) (eg_Zm none hE h) (eg_nc hE) (eg_ns hE) h 0 [(0, .ref l0), (1, .int l1), (2, .int l2), (3, .int l3), (4, .int l4)] [] h
  replace hF := (eg_ifn hF).2
  refine eg_aload_n (i := 0) 0 dX13_layBest_0 rfl rfl ?_
  refine eg_iconst (v := (-1 : Int32)) dX13_layBest_1 (by decide) ?_
  replace hF := eg_bind hF; obtain ⟨h1, e2, hF⟩ := hF
  refine eg_putI dX13_layBest_2 e2 (Nat.le_of_ble_eq_true rfl) (Nat.le_of_ble_eq_true rfl) rfl ew_1472 (Or.inl rfl) ?_
  refine eg_iconst (v := (0 : Int32)) dX13_layBest_5 (by decide) ?_
  refine eg_istore (i := 5) [(5, .int (0 : Int32)), (0, .ref l0), (1, .int l1), (2, .int l2), (3, .int l3), (4, .int l4)] dX13_layBest_6 (Nat.le_of_ble_eq_true rfl) rfl ?_
  replace hF := eg_bind hF; obtain ⟨x4, e3, hF⟩ := hF
  refine eg_sub [1, 2, 3, 4, 5, 0] [(0, .ref l0), (1, .int l1), (2, .int l2), (3, .int l3), (4, .int l4), (5, .int (0 : Int32))] rfl (fX13_layBest_L8_ok eg_F h1 l0 l1 l2 l3 l4 (0 : Int32) x4 e3 ?_)
  · intro h5 e6
    subst e6
    exact eg_vretE dX13_layBest_100 hF
theorem dX13_best_0 : decode cX13_best 0 = .ok (.aload_n 0, 1) := by decide +kernel
theorem dX13_best_1 : decode cX13_best 1 = .ok (.iconst 0, 1) := by decide +kernel
theorem dX13_best_2 : decode cX13_best 2 = .ok (.putfield 148, 3) := by decide +kernel
theorem dX13_best_5 : decode cX13_best 5 = .ok (.aload_n 0, 1) := by decide +kernel
theorem dX13_best_6 : decode cX13_best 6 = .ok (.iload_n 1, 1) := by decide +kernel
theorem dX13_best_7 : decode cX13_best 7 = .ok (.invokevirtual 405, 3) := by decide +kernel
theorem dX13_best_10 : decode cX13_best 10 = .ok (.ifCond .eq 36, 3) := by decide +kernel
theorem dX13_best_13 : decode cX13_best 13 = .ok (.aload_n 0, 1) := by decide +kernel
theorem dX13_best_14 : decode cX13_best 14 = .ok (.iload_n 2, 1) := by decide +kernel
theorem dX13_best_15 : decode cX13_best 15 = .ok (.invokevirtual 408, 3) := by decide +kernel
theorem dX13_best_18 : decode cX13_best 18 = .ok (.ifCond .eq 28, 3) := by decide +kernel
theorem dX13_best_21 : decode cX13_best 21 = .ok (.iload_n 3, 1) := by decide +kernel
theorem dX13_best_22 : decode cX13_best 22 = .ok (.i2l, 1) := by decide +kernel
theorem dX13_best_23 : decode cX13_best 23 = .ok (.lconst 1, 1) := by decide +kernel
theorem dX13_best_24 : decode cX13_best 24 = .ok (.ldc2_w 380, 3) := by decide +kernel
theorem dX13_best_27 : decode cX13_best 27 = .ok (.invokestatic 269, 3) := by decide +kernel
theorem dX13_best_30 : decode cX13_best 30 = .ok (.ifCond .eq 16, 3) := by decide +kernel
theorem dX13_best_33 : decode cX13_best 33 = .ok (.iload 4, 2) := by decide +kernel
theorem dX13_best_35 : decode cX13_best 35 = .ok (.i2l, 1) := by decide +kernel
theorem dX13_best_36 : decode cX13_best 36 = .ok (.lconst 0, 1) := by decide +kernel
theorem dX13_best_37 : decode cX13_best 37 = .ok (.ldc2_w 316, 3) := by decide +kernel
theorem dX13_best_40 : decode cX13_best 40 = .ok (.invokestatic 269, 3) := by decide +kernel
theorem dX13_best_43 : decode cX13_best 43 = .ok (.ifCond .ne 7, 3) := by decide +kernel
theorem dX13_best_46 : decode cX13_best 46 = .ok (.ldc_w 368, 3) := by decide +kernel
theorem dX13_best_49 : decode cX13_best 49 = .ok (.ireturn, 1) := by decide +kernel
theorem dX13_best_50 : decode cX13_best 50 = .ok (.aload_n 0, 1) := by decide +kernel
theorem dX13_best_51 : decode cX13_best 51 = .ok (.iload_n 1, 1) := by decide +kernel
theorem dX13_best_52 : decode cX13_best 52 = .ok (.bipush 10, 2) := by decide +kernel
theorem dX13_best_54 : decode cX13_best 54 = .ok (.idiv, 1) := by decide +kernel
theorem dX13_best_55 : decode cX13_best 55 = .ok (.iload_n 1, 1) := by decide +kernel
theorem dX13_best_56 : decode cX13_best 56 = .ok (.bipush 10, 2) := by decide +kernel
theorem dX13_best_58 : decode cX13_best 58 = .ok (.irem, 1) := by decide +kernel
theorem dX13_best_59 : decode cX13_best 59 = .ok (.iload_n 2, 1) := by decide +kernel
theorem dX13_best_60 : decode cX13_best 60 = .ok (.iload_n 3, 1) := by decide +kernel
theorem dX13_best_61 : decode cX13_best 61 = .ok (.invokevirtual 426, 3) := by decide +kernel
theorem dX13_best_64 : decode cX13_best 64 = .ok (.iload 4, 2) := by decide +kernel
theorem dX13_best_66 : decode cX13_best 66 = .ok (.ifCond .ne 10, 3) := by decide +kernel
theorem dX13_best_69 : decode cX13_best 69 = .ok (.aload_n 0, 1) := by decide +kernel
theorem dX13_best_70 : decode cX13_best 70 = .ok (.getfield 420, 3) := by decide +kernel
theorem dX13_best_73 : decode cX13_best 73 = .ok (.goto 20, 3) := by decide +kernel
theorem dX13_best_76 : decode cX13_best 76 = .ok (.iload 4, 2) := by decide +kernel
theorem dX13_best_78 : decode cX13_best 78 = .ok (.iconst 1, 1) := by decide +kernel
theorem dX13_best_79 : decode cX13_best 79 = .ok (.if_icmp .ne 10, 3) := by decide +kernel
theorem dX13_best_82 : decode cX13_best 82 = .ok (.aload_n 0, 1) := by decide +kernel
theorem dX13_best_83 : decode cX13_best 83 = .ok (.getfield 423, 3) := by decide +kernel
theorem dX13_best_86 : decode cX13_best 86 = .ok (.goto 7, 3) := by decide +kernel
theorem dX13_best_89 : decode cX13_best 89 = .ok (.aload_n 0, 1) := by decide +kernel
theorem dX13_best_90 : decode cX13_best 90 = .ok (.getfield 417, 3) := by decide +kernel
theorem dX13_best_93 : decode cX13_best 93 = .ok (.ireturn, 1) := by decide +kernel
def fX13_best (h : eg_H) (l0 : Nat) (l1 : Int32) (l2 : Int32) (l3 : Int32) (l4 : Int32) : Option (Int32 × eg_H) :=
  if eg_isO h 13 l0 then (
    (eg_pI h 13 0 l0 (0 : Int32)).bind fun h1 =>
    (fX13_isTwo h1 l0 l1).bind fun ⟨v4, h3⟩ =>
    if v4 = 0 then
      (some ((-1000000 : Int32), h3))
    else
      (fX13_isFrom h3 l0 l2).bind fun ⟨v8, h7⟩ =>
      if v8 = 0 then
        (some ((-1000000 : Int32), h7))
      else
        (fX13_isIn h7 l3.toInt64 (1 : Int64) (60 : Int64)).bind fun ⟨v12, h11⟩ =>
        if v12 = 0 then
          (some ((-1000000 : Int32), h11))
        else
          (fX13_isIn h11 l4.toInt64 (0 : Int64) (2 : Int64)).bind fun ⟨v16, h15⟩ =>
          if v16 = 0 then
            (some ((-1000000 : Int32), h15))
          else
            (fX13_layBest h15 l0 (l1 / (10 : Int32)) (l1 % (10 : Int32)) l2 l3).bind fun h19 =>
            if l4 = 0 then
              ((eg_gI h19 13 36 l0).bind fun v22 =>
              some (v22, h19))
            else
              if l4 = (1 : Int32) then
                ((eg_gI h19 13 37 l0).bind fun v25 =>
                some (v25, h19))
              else
                (eg_gI h19 13 38 l0).bind fun v27 =>
                some (v27, h19)) else none
theorem fX13_best_O {h : eg_H} {l0 : Nat} {l1 : Int32} {l2 : Int32} {l3 : Int32} {l4 : Int32} {rE : Int32} {hE : eg_H} (hF : fX13_best h l0 l1 l2 l3 l4 = some (rE, hE)) : eg_isO h 13 l0 := (eg_ifn hF).1
set_option maxRecDepth 20000 in
theorem mX13_best {h : eg_H} {l0 : Nat} {l1 : Int32} {l2 : Int32} {l3 : Int32} {l4 : Int32} {rE : Int32} {hE : eg_H} (hF : fX13_best h l0 l1 l2 l3 l4 = some (rE, hE)) : eg_Met yX13_best cX13_best 5 (some .int) 398 [.ref l0, .int l1, .int l2, .int l3, .int l4] h (some (.int rE)) hE := by
  refine eg_enter rfl (Nat.le_of_ble_eq_true rfl) ?_
  show eg_AW (RX13, cX13_best, 5, 398, none, "best", (some .int)) (eg_Zm (some (.int rE)) hE h) (eg_nc hE) (eg_ns hE) h 0 [(0, .ref l0), (1, .int l1), (2, .int l2), (3, .int l3), (4, .int l4)] [] h
  replace hF := (eg_ifn hF).2
  refine eg_aload_n (i := 0) 0 dX13_best_0 rfl rfl ?_
  refine eg_iconst (v := (0 : Int32)) dX13_best_1 (by decide) ?_
  replace hF := eg_bind hF; obtain ⟨h1, e2, hF⟩ := hF
  refine eg_putI dX13_best_2 e2 (Nat.le_of_ble_eq_true rfl) (Nat.le_of_ble_eq_true rfl) rfl ew_1434 (Or.inl rfl) ?_
  refine eg_aload_n (i := 0) 0 dX13_best_5 rfl rfl ?_
  refine eg_iload_n (i := 1) 1 dX13_best_6 rfl rfl ?_
  replace hF := eg_bind hF; obtain ⟨⟨v4, h3⟩, e5, hF⟩ := hF
  refine eg_callV (c := 13) (n := 1) [.int l1] dX13_best_7 (mX13_isTwo e5) rfl (fX13_isTwo_O e5) (Nat.le_of_ble_eq_true rfl) rfl ew_1929 ew_1931 ew_76 ew_110 ew_1932 hy_X13_isTwo rfl (Nat.le_of_ble_eq_true rfl) (Nat.le_of_ble_eq_true rfl) (Nat.le_of_ble_eq_true rfl) ?_
  refine eg_if_eq 46 dX13_best_10 rfl (fun c6 => ?_) (fun c6 => ?_)
  · replace hF := eg_it c6 hF
    refine eg_ldcw (v := (-1000000 : Int32)) dX13_best_46 ew_1899 ?_
    exact eg_iretE dX13_best_49 hF
  · replace hF := eg_if c6 hF
    refine eg_aload_n (i := 0) 0 dX13_best_13 rfl rfl ?_
    refine eg_iload_n (i := 2) 2 dX13_best_14 rfl rfl ?_
    replace hF := eg_bind hF; obtain ⟨⟨v8, h7⟩, e9, hF⟩ := hF
    refine eg_callV (c := 13) (n := 1) [.int l2] dX13_best_15 (mX13_isFrom e9) rfl (fX13_isFrom_O e9) (Nat.le_of_ble_eq_true rfl) rfl ew_1933 ew_1935 ew_77 ew_110 ew_1936 hy_X13_isFrom rfl (Nat.le_of_ble_eq_true rfl) (Nat.le_of_ble_eq_true rfl) (Nat.le_of_ble_eq_true rfl) ?_
    refine eg_if_eq 46 dX13_best_18 rfl (fun c10 => ?_) (fun c10 => ?_)
    · replace hF := eg_it c10 hF
      refine eg_ldcw (v := (-1000000 : Int32)) dX13_best_46 ew_1899 ?_
      exact eg_iretE dX13_best_49 hF
    · replace hF := eg_if c10 hF
      refine eg_iload_n (i := 3) 3 dX13_best_21 rfl rfl ?_
      refine eg_i2l dX13_best_22 ?_
      refine eg_lconst (v := (1 : Int64)) dX13_best_23 (by decide) ?_
      refine eg_ldc2 (v := (60 : Int64)) dX13_best_24 ew_1912 ?_
      replace hF := eg_bind hF; obtain ⟨⟨v12, h11⟩, e13, hF⟩ := hF
      refine eg_callS (n := 3) [.long l3.toInt64, .long (1 : Int64), .long (60 : Int64)] dX13_best_27 (mX13_isIn e13) rfl ew_1697 ew_1698 ew_110 ew_1699 hy_X13_isIn.2 rfl (Nat.le_of_ble_eq_true rfl) (Nat.le_of_ble_eq_true rfl) (Nat.le_of_ble_eq_true rfl) ?_
      refine eg_if_eq 46 dX13_best_30 rfl (fun c14 => ?_) (fun c14 => ?_)
      · replace hF := eg_it c14 hF
        refine eg_ldcw (v := (-1000000 : Int32)) dX13_best_46 ew_1899 ?_
        exact eg_iretE dX13_best_49 hF
      · replace hF := eg_if c14 hF
        refine eg_iload (i := 4) 4 dX13_best_33 rfl ?_
        refine eg_i2l dX13_best_35 ?_
        refine eg_lconst (v := (0 : Int64)) dX13_best_36 (by decide) ?_
        refine eg_ldc2 (v := (2 : Int64)) dX13_best_37 ew_1696 ?_
        replace hF := eg_bind hF; obtain ⟨⟨v16, h15⟩, e17, hF⟩ := hF
        refine eg_callS (n := 3) [.long l4.toInt64, .long (0 : Int64), .long (2 : Int64)] dX13_best_40 (mX13_isIn e17) rfl ew_1697 ew_1698 ew_110 ew_1699 hy_X13_isIn.2 rfl (Nat.le_of_ble_eq_true rfl) (Nat.le_of_ble_eq_true rfl) (Nat.le_of_ble_eq_true rfl) ?_
        refine eg_if_ne 50 dX13_best_43 rfl (fun c18 => ?_) (fun c18 => ?_)
        · replace hF := eg_it c18 hF
          refine eg_ldcw (v := (-1000000 : Int32)) dX13_best_46 ew_1899 ?_
          exact eg_iretE dX13_best_49 hF
        · replace hF := eg_if c18 hF
          refine eg_aload_n (i := 0) 0 dX13_best_50 rfl rfl ?_
          refine eg_iload_n (i := 1) 1 dX13_best_51 rfl rfl ?_
          refine eg_bipush (v := (10 : Int32)) dX13_best_52 (by decide) ?_
          refine eg_idiv dX13_best_54 (by decide) ?_
          refine eg_iload_n (i := 1) 1 dX13_best_55 rfl rfl ?_
          refine eg_bipush (v := (10 : Int32)) dX13_best_56 (by decide) ?_
          refine eg_irem dX13_best_58 (by decide) ?_
          refine eg_iload_n (i := 2) 2 dX13_best_59 rfl rfl ?_
          refine eg_iload_n (i := 3) 3 dX13_best_60 rfl rfl ?_
          replace hF := eg_bind hF; obtain ⟨h19, e20, hF⟩ := hF
          refine eg_callV (c := 13) (n := 4) [.int (l1 / (10 : Int32)), .int (l1 % (10 : Int32)), .int l2, .int l3] dX13_best_61 (mX13_layBest e20) rfl (fX13_layBest_O e20) (Nat.le_of_ble_eq_true rfl) rfl ew_1965 ew_1967 ew_84 ew_110 ew_1968 hy_X13_layBest rfl (Nat.le_of_ble_eq_true rfl) (Nat.le_of_ble_eq_true rfl) (Nat.le_of_ble_eq_true rfl) ?_
          refine eg_iload (i := 4) 4 dX13_best_64 rfl ?_
          refine eg_if_ne 76 dX13_best_66 rfl (fun c21 => ?_) (fun c21 => ?_)
          · replace hF := eg_it c21 hF
            refine eg_aload_n (i := 0) 0 dX13_best_69 rfl rfl ?_
            replace hF := eg_bind hF; obtain ⟨v22, e23, hF⟩ := hF
            refine eg_getI dX13_best_70 e23 (Nat.le_of_ble_eq_true rfl) (Nat.le_of_ble_eq_true rfl) rfl ew_1470 ?_
            refine eg_goto 93 dX13_best_73 rfl ?_
            exact eg_iretE dX13_best_93 hF
          · replace hF := eg_if c21 hF
            refine eg_iload (i := 4) 4 dX13_best_76 rfl ?_
            refine eg_iconst (v := (1 : Int32)) dX13_best_78 (by decide) ?_
            refine eg_ic_ne 89 dX13_best_79 rfl (fun c24 => ?_) (fun c24 => ?_)
            · replace hF := eg_it c24 hF
              refine eg_aload_n (i := 0) 0 dX13_best_82 rfl rfl ?_
              replace hF := eg_bind hF; obtain ⟨v25, e26, hF⟩ := hF
              refine eg_getI dX13_best_83 e26 (Nat.le_of_ble_eq_true rfl) (Nat.le_of_ble_eq_true rfl) rfl ew_1471 ?_
              refine eg_goto 93 dX13_best_86 rfl ?_
              exact eg_iretE dX13_best_93 hF
            · replace hF := eg_if c24 hF
              refine eg_aload_n (i := 0) 0 dX13_best_89 rfl rfl ?_
              replace hF := eg_bind hF; obtain ⟨v27, e28, hF⟩ := hF
              refine eg_getI dX13_best_90 e28 (Nat.le_of_ble_eq_true rfl) (Nat.le_of_ble_eq_true rfl) rfl ew_1472 ?_
              exact eg_iretE dX13_best_93 hF
theorem dX13_goPair_0 : decode cX13_goPair 0 = .ok (.ldc_w 429, 3) := by decide +kernel
theorem dX13_goPair_3 : decode cX13_goPair 3 = .ok (.istore 5, 2) := by decide +kernel
theorem dX13_goPair_5 : decode cX13_goPair 5 = .ok (.iconst 0, 1) := by decide +kernel
theorem dX13_goPair_6 : decode cX13_goPair 6 = .ok (.istore 6, 2) := by decide +kernel
theorem dX13_goPair_8 : decode cX13_goPair 8 = .ok (.iload 6, 2) := by decide +kernel
theorem dX13_goPair_10 : decode cX13_goPair 10 = .ok (.bipush 62, 2) := by decide +kernel
theorem dX13_goPair_12 : decode cX13_goPair 12 = .ok (.if_icmp .ge 28, 3) := by decide +kernel
theorem dX13_goPair_15 : decode cX13_goPair 15 = .ok (.aload_n 0, 1) := by decide +kernel
theorem dX13_goPair_16 : decode cX13_goPair 16 = .ok (.getfield 72, 3) := by decide +kernel
theorem dX13_goPair_19 : decode cX13_goPair 19 = .ok (.iload 6, 2) := by decide +kernel
theorem dX13_goPair_21 : decode cX13_goPair 21 = .ok (.iload 6, 2) := by decide +kernel
theorem dX13_goPair_23 : decode cX13_goPair 23 = .ok (.ifCond .ne 9, 3) := by decide +kernel
theorem dX13_goPair_26 : decode cX13_goPair 26 = .ok (.ldc_w 429, 3) := by decide +kernel
theorem dX13_goPair_29 : decode cX13_goPair 29 = .ok (.goto 4, 3) := by decide +kernel
theorem dX13_goPair_32 : decode cX13_goPair 32 = .ok (.iconst 0, 1) := by decide +kernel
theorem dX13_goPair_33 : decode cX13_goPair 33 = .ok (.iastore, 1) := by decide +kernel
theorem dX13_goPair_34 : decode cX13_goPair 34 = .ok (.iinc 6 1, 3) := by decide +kernel
theorem dX13_goPair_37 : decode cX13_goPair 37 = .ok (.goto (-29), 3) := by decide +kernel
theorem dX13_goPair_40 : decode cX13_goPair 40 = .ok (.aload_n 0, 1) := by decide +kernel
theorem dX13_goPair_41 : decode cX13_goPair 41 = .ok (.iconst 0, 1) := by decide +kernel
theorem dX13_goPair_42 : decode cX13_goPair 42 = .ok (.putfield 430, 3) := by decide +kernel
theorem dX13_goPair_45 : decode cX13_goPair 45 = .ok (.aload_n 0, 1) := by decide +kernel
theorem dX13_goPair_46 : decode cX13_goPair 46 = .ok (.lconst 0, 1) := by decide +kernel
theorem dX13_goPair_47 : decode cX13_goPair 47 = .ok (.putfield 433, 3) := by decide +kernel
theorem dX13_goPair_50 : decode cX13_goPair 50 = .ok (.iconst 1, 1) := by decide +kernel
theorem dX13_goPair_51 : decode cX13_goPair 51 = .ok (.istore 6, 2) := by decide +kernel
theorem dX13_goPair_53 : decode cX13_goPair 53 = .ok (.iload 6, 2) := by decide +kernel
theorem dX13_goPair_55 : decode cX13_goPair 55 = .ok (.iload 4, 2) := by decide +kernel
theorem dX13_goPair_57 : decode cX13_goPair 57 = .ok (.if_icmp .gt 189, 3) := by decide +kernel
theorem dX13_goPair_60 : decode cX13_goPair 60 = .ok (.aload_n 0, 1) := by decide +kernel
theorem dX13_goPair_61 : decode cX13_goPair 61 = .ok (.getfield 37, 3) := by decide +kernel
theorem dX13_goPair_64 : decode cX13_goPair 64 = .ok (.iconst 3, 1) := by decide +kernel
theorem dX13_goPair_65 : decode cX13_goPair 65 = .ok (.iaload, 1) := by decide +kernel
theorem dX13_goPair_66 : decode cX13_goPair 66 = .ok (.iload 6, 2) := by decide +kernel
theorem dX13_goPair_68 : decode cX13_goPair 68 = .ok (.iconst 1, 1) := by decide +kernel
theorem dX13_goPair_69 : decode cX13_goPair 69 = .ok (.isub, 1) := by decide +kernel
theorem dX13_goPair_70 : decode cX13_goPair 70 = .ok (.iload_n 3, 1) := by decide +kernel
theorem dX13_goPair_71 : decode cX13_goPair 71 = .ok (.imul, 1) := by decide +kernel
theorem dX13_goPair_72 : decode cX13_goPair 72 = .ok (.iadd, 1) := by decide +kernel
theorem dX13_goPair_73 : decode cX13_goPair 73 = .ok (.istore 7, 2) := by decide +kernel
theorem dX13_goPair_75 : decode cX13_goPair 75 = .ok (.iload 7, 2) := by decide +kernel
theorem dX13_goPair_77 : decode cX13_goPair 77 = .ok (.bipush 60, 2) := by decide +kernel
theorem dX13_goPair_79 : decode cX13_goPair 79 = .ok (.if_icmp .gt 8, 3) := by decide +kernel
theorem dX13_goPair_82 : decode cX13_goPair 82 = .ok (.iload 5, 2) := by decide +kernel
theorem dX13_goPair_84 : decode cX13_goPair 84 = .ok (.ifCond .ne 5, 3) := by decide +kernel
theorem dX13_goPair_87 : decode cX13_goPair 87 = .ok (.iconst 0, 1) := by decide +kernel
theorem dX13_goPair_88 : decode cX13_goPair 88 = .ok (.ireturn, 1) := by decide +kernel
theorem dX13_goPair_89 : decode cX13_goPair 89 = .ok (.iload 6, 2) := by decide +kernel
theorem dX13_goPair_91 : decode cX13_goPair 91 = .ok (.iconst 2, 1) := by decide +kernel
theorem dX13_goPair_92 : decode cX13_goPair 92 = .ok (.irem, 1) := by decide +kernel
theorem dX13_goPair_93 : decode cX13_goPair 93 = .ok (.iconst 1, 1) := by decide +kernel
theorem dX13_goPair_94 : decode cX13_goPair 94 = .ok (.if_icmp .ne 7, 3) := by decide +kernel
theorem dX13_goPair_97 : decode cX13_goPair 97 = .ok (.iconst 1, 1) := by decide +kernel
theorem dX13_goPair_98 : decode cX13_goPair 98 = .ok (.goto 4, 3) := by decide +kernel
theorem dX13_goPair_101 : decode cX13_goPair 101 = .ok (.iconst 0, 1) := by decide +kernel
theorem dX13_goPair_102 : decode cX13_goPair 102 = .ok (.istore 8, 2) := by decide +kernel
theorem dX13_goPair_104 : decode cX13_goPair 104 = .ok (.iload 8, 2) := by decide +kernel
theorem dX13_goPair_106 : decode cX13_goPair 106 = .ok (.ifCond .eq 10, 3) := by decide +kernel
theorem dX13_goPair_109 : decode cX13_goPair 109 = .ok (.iload_n 1, 1) := by decide +kernel
theorem dX13_goPair_110 : decode cX13_goPair 110 = .ok (.bipush 10, 2) := by decide +kernel
theorem dX13_goPair_112 : decode cX13_goPair 112 = .ok (.idiv, 1) := by decide +kernel
theorem dX13_goPair_113 : decode cX13_goPair 113 = .ok (.goto 7, 3) := by decide +kernel
theorem dX13_goPair_116 : decode cX13_goPair 116 = .ok (.iload_n 1, 1) := by decide +kernel
theorem dX13_goPair_117 : decode cX13_goPair 117 = .ok (.bipush 10, 2) := by decide +kernel
theorem dX13_goPair_119 : decode cX13_goPair 119 = .ok (.irem, 1) := by decide +kernel
theorem dX13_goPair_120 : decode cX13_goPair 120 = .ok (.istore 9, 2) := by decide +kernel
theorem dX13_goPair_122 : decode cX13_goPair 122 = .ok (.iload 8, 2) := by decide +kernel
theorem dX13_goPair_124 : decode cX13_goPair 124 = .ok (.ifCond .eq 10, 3) := by decide +kernel
theorem dX13_goPair_127 : decode cX13_goPair 127 = .ok (.iload_n 1, 1) := by decide +kernel
theorem dX13_goPair_128 : decode cX13_goPair 128 = .ok (.bipush 10, 2) := by decide +kernel
theorem dX13_goPair_130 : decode cX13_goPair 130 = .ok (.irem, 1) := by decide +kernel
theorem dX13_goPair_131 : decode cX13_goPair 131 = .ok (.goto 7, 3) := by decide +kernel
theorem dX13_goPair_134 : decode cX13_goPair 134 = .ok (.iload_n 1, 1) := by decide +kernel
theorem dX13_goPair_135 : decode cX13_goPair 135 = .ok (.bipush 10, 2) := by decide +kernel
theorem dX13_goPair_137 : decode cX13_goPair 137 = .ok (.idiv, 1) := by decide +kernel
theorem dX13_goPair_138 : decode cX13_goPair 138 = .ok (.istore 10, 2) := by decide +kernel
theorem dX13_goPair_140 : decode cX13_goPair 140 = .ok (.aload_n 0, 1) := by decide +kernel
theorem dX13_goPair_141 : decode cX13_goPair 141 = .ok (.iload 9, 2) := by decide +kernel
theorem dX13_goPair_143 : decode cX13_goPair 143 = .ok (.iload 10, 2) := by decide +kernel
theorem dX13_goPair_145 : decode cX13_goPair 145 = .ok (.iload 8, 2) := by decide +kernel
theorem dX13_goPair_147 : decode cX13_goPair 147 = .ok (.ifCond .eq 7, 3) := by decide +kernel
theorem dX13_goPair_150 : decode cX13_goPair 150 = .ok (.iload_n 2, 1) := by decide +kernel
theorem dX13_goPair_151 : decode cX13_goPair 151 = .ok (.goto 17, 3) := by decide +kernel
theorem dX13_goPair_154 : decode cX13_goPair 154 = .ok (.iload_n 2, 1) := by decide +kernel
theorem dX13_goPair_155 : decode cX13_goPair 155 = .ok (.bipush 10, 2) := by decide +kernel
theorem dX13_goPair_157 : decode cX13_goPair 157 = .ok (.idiv, 1) := by decide +kernel
theorem dX13_goPair_158 : decode cX13_goPair 158 = .ok (.bipush 10, 2) := by decide +kernel
theorem dX13_goPair_160 : decode cX13_goPair 160 = .ok (.imul, 1) := by decide +kernel
theorem dX13_goPair_161 : decode cX13_goPair 161 = .ok (.iconst 1, 1) := by decide +kernel
theorem dX13_goPair_162 : decode cX13_goPair 162 = .ok (.iadd, 1) := by decide +kernel
theorem dX13_goPair_163 : decode cX13_goPair 163 = .ok (.iload_n 2, 1) := by decide +kernel
theorem dX13_goPair_164 : decode cX13_goPair 164 = .ok (.bipush 10, 2) := by decide +kernel
theorem dX13_goPair_166 : decode cX13_goPair 166 = .ok (.irem, 1) := by decide +kernel
theorem dX13_goPair_167 : decode cX13_goPair 167 = .ok (.isub, 1) := by decide +kernel
theorem dX13_goPair_168 : decode cX13_goPair 168 = .ok (.iload 7, 2) := by decide +kernel
theorem dX13_goPair_170 : decode cX13_goPair 170 = .ok (.invokevirtual 426, 3) := by decide +kernel
theorem dX13_goPair_173 : decode cX13_goPair 173 = .ok (.iload 5, 2) := by decide +kernel
theorem dX13_goPair_175 : decode cX13_goPair 175 = .ok (.i2l, 1) := by decide +kernel
theorem dX13_goPair_176 : decode cX13_goPair 176 = .ok (.aload_n 0, 1) := by decide +kernel
theorem dX13_goPair_177 : decode cX13_goPair 177 = .ok (.getfield 417, 3) := by decide +kernel
theorem dX13_goPair_180 : decode cX13_goPair 180 = .ok (.i2l, 1) := by decide +kernel
theorem dX13_goPair_181 : decode cX13_goPair 181 = .ok (.lmul, 1) := by decide +kernel
theorem dX13_goPair_182 : decode cX13_goPair 182 = .ok (.iconst 2, 1) := by decide +kernel
theorem dX13_goPair_183 : decode cX13_goPair 183 = .ok (.aload_n 0, 1) := by decide +kernel
theorem dX13_goPair_184 : decode cX13_goPair 184 = .ok (.getfield 43, 3) := by decide +kernel
theorem dX13_goPair_187 : decode cX13_goPair 187 = .ok (.iconst 4, 1) := by decide +kernel
theorem dX13_goPair_188 : decode cX13_goPair 188 = .ok (.iload 9, 2) := by decide +kernel
theorem dX13_goPair_190 : decode cX13_goPair 190 = .ok (.imul, 1) := by decide +kernel
theorem dX13_goPair_191 : decode cX13_goPair 191 = .ok (.iaload, 1) := by decide +kernel
theorem dX13_goPair_192 : decode cX13_goPair 192 = .ok (.imul, 1) := by decide +kernel
theorem dX13_goPair_193 : decode cX13_goPair 193 = .ok (.iconst 1, 1) := by decide +kernel
theorem dX13_goPair_194 : decode cX13_goPair 194 = .ok (.iadd, 1) := by decide +kernel
theorem dX13_goPair_195 : decode cX13_goPair 195 = .ok (.i2l, 1) := by decide +kernel
theorem dX13_goPair_196 : decode cX13_goPair 196 = .ok (.ldiv, 1) := by decide +kernel
theorem dX13_goPair_197 : decode cX13_goPair 197 = .ok (.l2i, 1) := by decide +kernel
theorem dX13_goPair_198 : decode cX13_goPair 198 = .ok (.istore 5, 2) := by decide +kernel
theorem dX13_goPair_200 : decode cX13_goPair 200 = .ok (.aload_n 0, 1) := by decide +kernel
theorem dX13_goPair_201 : decode cX13_goPair 201 = .ok (.getfield 72, 3) := by decide +kernel
theorem dX13_goPair_204 : decode cX13_goPair 204 = .ok (.iload 6, 2) := by decide +kernel
theorem dX13_goPair_206 : decode cX13_goPair 206 = .ok (.iload 5, 2) := by decide +kernel
theorem dX13_goPair_208 : decode cX13_goPair 208 = .ok (.iastore, 1) := by decide +kernel
theorem dX13_goPair_209 : decode cX13_goPair 209 = .ok (.aload_n 0, 1) := by decide +kernel
theorem dX13_goPair_210 : decode cX13_goPair 210 = .ok (.dup, 1) := by decide +kernel
theorem dX13_goPair_211 : decode cX13_goPair 211 = .ok (.getfield 433, 3) := by decide +kernel
theorem dX13_goPair_214 : decode cX13_goPair 214 = .ok (.iload 5, 2) := by decide +kernel
theorem dX13_goPair_216 : decode cX13_goPair 216 = .ok (.i2l, 1) := by decide +kernel
theorem dX13_goPair_217 : decode cX13_goPair 217 = .ok (.ladd, 1) := by decide +kernel
theorem dX13_goPair_218 : decode cX13_goPair 218 = .ok (.putfield 433, 3) := by decide +kernel
theorem dX13_goPair_221 : decode cX13_goPair 221 = .ok (.aload_n 0, 1) := by decide +kernel
theorem dX13_goPair_222 : decode cX13_goPair 222 = .ok (.dup, 1) := by decide +kernel
theorem dX13_goPair_223 : decode cX13_goPair 223 = .ok (.getfield 430, 3) := by decide +kernel
theorem dX13_goPair_226 : decode cX13_goPair 226 = .ok (.iload 5, 2) := by decide +kernel
theorem dX13_goPair_228 : decode cX13_goPair 228 = .ok (.ifCond .le 7, 3) := by decide +kernel
theorem dX13_goPair_231 : decode cX13_goPair 231 = .ok (.iconst 1, 1) := by decide +kernel
theorem dX13_goPair_232 : decode cX13_goPair 232 = .ok (.goto 4, 3) := by decide +kernel
theorem dX13_goPair_235 : decode cX13_goPair 235 = .ok (.iconst 0, 1) := by decide +kernel
theorem dX13_goPair_236 : decode cX13_goPair 236 = .ok (.iadd, 1) := by decide +kernel
theorem dX13_goPair_237 : decode cX13_goPair 237 = .ok (.putfield 430, 3) := by decide +kernel
theorem dX13_goPair_240 : decode cX13_goPair 240 = .ok (.iinc 6 1, 3) := by decide +kernel
theorem dX13_goPair_243 : decode cX13_goPair 243 = .ok (.goto (-190), 3) := by decide +kernel
theorem dX13_goPair_246 : decode cX13_goPair 246 = .ok (.iload 5, 2) := by decide +kernel
theorem dX13_goPair_248 : decode cX13_goPair 248 = .ok (.ireturn, 1) := by decide +kernel
def fX13_goPair_L8 : Nat → eg_H → Nat → Int32 → Int32 → Int32 → Int32 → Int32 → Int32 → Option (Nat × Int32 × Int32 × Int32 × Int32 × Int32 × eg_H)
  | 0, _, _, _, _, _, _, _, _ => none
  | n + 1, h, l0, l1, l2, l3, l4, l5, l6 =>
    if (62 : Int32) ≤ l6 then
      (some (l0, l1, l2, l3, l4, l5, h))
    else
      (eg_gR h 13 39 l0).bind fun p2 =>
      if l6 = 0 then
        ((eg_wI h 100 p2 l6 (1000000000 : Int32)).bind fun h5 =>
        fX13_goPair_L8 n h5 l0 l1 l2 l3 l4 l5 (l6 + (1 : Int32)))
      else
        (eg_wI h 100 p2 l6 (0 : Int32)).bind fun h7 =>
        fX13_goPair_L8 n h7 l0 l1 l2 l3 l4 l5 (l6 + (1 : Int32))
set_option maxRecDepth 20000 in
theorem fX13_goPair_L8_ok {h0 : eg_H} {Z : eg_C → State → Prop} {N S : Nat} : ∀ (n : Nat) (h : eg_H) (l0 : Nat) (l1 : Int32) (l2 : Int32) (l3 : Int32) (l4 : Int32) (l5 : Int32) (l6 : Int32) (eE : Nat × Int32 × Int32 × Int32 × Int32 × Int32 × eg_H), fX13_goPair_L8 n h l0 l1 l2 l3 l4 l5 l6 = some eE → (hk0 : ∀ (l0 : Nat) (l1 : Int32) (l2 : Int32) (l3 : Int32) (l4 : Int32) (l5 : Int32) (h : eg_H), eE = (l0, l1, l2, l3, l4, l5, h) → eg_AW (RX13, cX13_goPair, 11, 398, none, "goPair", (some .int)) Z N S h0 40 [(0, .ref l0), (1, .int l1), (2, .int l2), (3, .int l3), (4, .int l4), (5, .int l5)] [] h) → eg_AW (RX13, cX13_goPair, 11, 398, none, "goPair", (some .int)) Z N S h0 8 [(0, .ref l0), (1, .int l1), (2, .int l2), (3, .int l3), (4, .int l4), (5, .int l5), (6, .int l6)] [] h := by
  intro n
  induction n with
  | zero => intro h l0 l1 l2 l3 l4 l5 l6 eE hF; exact absurd hF (by intro q; cases q)
  | succ n ih =>
    intro h l0 l1 l2 l3 l4 l5 l6 eE hF hk0
    have hrec := fun (h' : eg_H) (l0 : Nat) (l1 : Int32) (l2 : Int32) (l3 : Int32) (l4 : Int32) (l5 : Int32) (l6 : Int32) hq => ih h' l0 l1 l2 l3 l4 l5 l6 eE hq hk0
    refine eg_iload (i := 6) 6 dX13_goPair_8 rfl ?_
    refine eg_bipush (v := (62 : Int32)) dX13_goPair_10 (by decide) ?_
    refine eg_ic_ge 40 dX13_goPair_12 rfl (fun c1 => ?_) (fun c1 => ?_)
    · replace hF := eg_it c1 hF
      exact eg_sub [0, 1, 2, 3, 4, 5] [(0, .ref l0), (1, .int l1), (2, .int l2), (3, .int l3), (4, .int l4), (5, .int l5)] rfl (hk0 l0 l1 l2 l3 l4 l5 h (Option.some.inj hF).symm)
    · replace hF := eg_if c1 hF
      refine eg_aload_n (i := 0) 0 dX13_goPair_15 rfl rfl ?_
      replace hF := eg_bind hF; obtain ⟨p2, e3, hF⟩ := hF
      refine eg_getR dX13_goPair_16 e3 (Nat.le_of_ble_eq_true rfl) (Nat.le_of_ble_eq_true rfl) rfl ew_1473 ?_
      refine eg_iload (i := 6) 6 dX13_goPair_19 rfl ?_
      refine eg_iload (i := 6) 6 dX13_goPair_21 rfl ?_
      refine eg_if_ne 32 dX13_goPair_23 rfl (fun c4 => ?_) (fun c4 => ?_)
      · replace hF := eg_it c4 hF
        refine eg_ldcw (v := (1000000000 : Int32)) dX13_goPair_26 ew_1977 ?_
        refine eg_goto 33 dX13_goPair_29 rfl ?_
        replace hF := eg_bind hF; obtain ⟨h5, e6, hF⟩ := hF
        refine eg_iast dX13_goPair_33 e6 ?_
        refine eg_iinc (i := 6) (v := (l6 + (1 : Int32))) 6 [(6, .int (l6 + (1 : Int32))), (0, .ref l0), (1, .int l1), (2, .int l2), (3, .int l3), (4, .int l4), (5, .int l5)] dX13_goPair_34 rfl rfl (Nat.le_of_ble_eq_true rfl) rfl ?_
        refine eg_goto 8 dX13_goPair_37 rfl ?_
        exact eg_sub [1, 2, 3, 4, 5, 6, 0] [(0, .ref l0), (1, .int l1), (2, .int l2), (3, .int l3), (4, .int l4), (5, .int l5), (6, .int (l6 + (1 : Int32)))] rfl (hrec h5 l0 l1 l2 l3 l4 l5 (l6 + (1 : Int32)) hF)
      · replace hF := eg_if c4 hF
        refine eg_iconst (v := (0 : Int32)) dX13_goPair_32 (by decide) ?_
        replace hF := eg_bind hF; obtain ⟨h7, e8, hF⟩ := hF
        refine eg_iast dX13_goPair_33 e8 ?_
        refine eg_iinc (i := 6) (v := (l6 + (1 : Int32))) 6 [(6, .int (l6 + (1 : Int32))), (0, .ref l0), (1, .int l1), (2, .int l2), (3, .int l3), (4, .int l4), (5, .int l5)] dX13_goPair_34 rfl rfl (Nat.le_of_ble_eq_true rfl) rfl ?_
        refine eg_goto 8 dX13_goPair_37 rfl ?_
        exact eg_sub [1, 2, 3, 4, 5, 6, 0] [(0, .ref l0), (1, .int l1), (2, .int l2), (3, .int l3), (4, .int l4), (5, .int l5), (6, .int (l6 + (1 : Int32)))] rfl (hrec h7 l0 l1 l2 l3 l4 l5 (l6 + (1 : Int32)) hF)
def fX13_goPair_j168 (rec : eg_H → Nat → Int32 → Int32 → Int32 → Int32 → Int32 → Int32 → Option ((Int32 × eg_H) ⊕ (eg_H))) (h : eg_H) (l0 : Nat) (l1 : Int32) (l2 : Int32) (l3 : Int32) (l4 : Int32) (l5 : Int32) (l6 : Int32) (l7 : Int32) (l9 : Int32) (s0 : Nat) (s1 : Int32) (s2 : Int32) (s3 : Int32) : Option ((Int32 × eg_H) ⊕ (eg_H)) :=
  (fX13_layBest h s0 s1 s2 s3 l7).bind fun h1 =>
  (eg_gI h1 13 38 l0).bind fun v3 =>
  (eg_gR h1 13 20 l0).bind fun p5 =>
  (eg_aI h1 100 p5 ((4 : Int32) * l9)).bind fun v7 =>
  if (((2 : Int32) * v7) + (1 : Int32)).toInt64 = 0 then none else
  (some (((l5.toInt64 * v3.toInt64) / (((2 : Int32) * v7) + (1 : Int32)).toInt64).toInt32)).bind fun v10 =>
  (eg_gR h1 13 39 l0).bind fun p12 =>
  (eg_wI h1 100 p12 l6 v10).bind fun h14 =>
  (eg_gL h14 13 41 l0).bind fun v16 =>
  (eg_pL h14 13 41 l0 (v16 + v10.toInt64)).bind fun h18 =>
  (eg_gI h18 13 40 l0).bind fun v20 =>
  if v10 ≤ 0 then
    ((eg_pI h18 13 40 l0 (v20 + (0 : Int32))).bind fun h23 =>
    rec h23 l0 l1 l2 l3 l4 v10 (l6 + (1 : Int32)))
  else
    (eg_pI h18 13 40 l0 (v20 + (1 : Int32))).bind fun h25 =>
    rec h25 l0 l1 l2 l3 l4 v10 (l6 + (1 : Int32))
set_option maxRecDepth 20000 in
theorem fX13_goPair_j168_ok {rec : eg_H → Nat → Int32 → Int32 → Int32 → Int32 → Int32 → Int32 → Option ((Int32 × eg_H) ⊕ (eg_H))} {h0 : eg_H} {Z : eg_C → State → Prop} {N S : Nat} (h : eg_H) (l0 : Nat) (l1 : Int32) (l2 : Int32) (l3 : Int32) (l4 : Int32) (l5 : Int32) (l6 : Int32) (l7 : Int32) (l9 : Int32) (s0 : Nat) (s1 : Int32) (s2 : Int32) (s3 : Int32) (eE : (Int32 × eg_H) ⊕ (eg_H)) (hF : fX13_goPair_j168 rec h l0 l1 l2 l3 l4 l5 l6 l7 l9 s0 s1 s2 s3 = some eE) (hrec : ∀ (h : eg_H) (l0 : Nat) (l1 : Int32) (l2 : Int32) (l3 : Int32) (l4 : Int32) (l5 : Int32) (l6 : Int32), rec h l0 l1 l2 l3 l4 l5 l6 = some eE → eg_AW (RX13, cX13_goPair, 11, 398, none, "goPair", (some .int)) Z N S h0 53 [(0, .ref l0), (1, .int l1), (2, .int l2), (3, .int l3), (4, .int l4), (5, .int l5), (6, .int l6)] [] h) (hk0 : ∀ (l5 : Int32) (h : eg_H), eE = (.inl (l5, h)) → eg_AW (RX13, cX13_goPair, 11, 398, none, "goPair", (some .int)) Z N S h0 246 [(5, .int l5)] [] h) (hk1 : ∀  (h : eg_H), eE = (.inr (h)) → eg_AW (RX13, cX13_goPair, 11, 398, none, "goPair", (some .int)) Z N S h0 87 [] [] h) : eg_AW (RX13, cX13_goPair, 11, 398, none, "goPair", (some .int)) Z N S h0 168 [(0, .ref l0), (1, .int l1), (2, .int l2), (3, .int l3), (4, .int l4), (5, .int l5), (6, .int l6), (7, .int l7), (9, .int l9)] [.int s3, .int s2, .int s1, .ref s0] h := by
  refine eg_iload (i := 7) 7 dX13_goPair_168 rfl ?_
  replace hF := eg_bind hF; obtain ⟨h1, e2, hF⟩ := hF
  refine eg_callV (c := 13) (n := 4) [.int s1, .int s2, .int s3, .int l7] dX13_goPair_170 (mX13_layBest e2) rfl (fX13_layBest_O e2) (Nat.le_of_ble_eq_true rfl) rfl ew_1965 ew_1967 ew_84 ew_110 ew_1968 hy_X13_layBest rfl (Nat.le_of_ble_eq_true rfl) (Nat.le_of_ble_eq_true rfl) (Nat.le_of_ble_eq_true rfl) ?_
  refine eg_iload (i := 5) 5 dX13_goPair_173 rfl ?_
  refine eg_i2l dX13_goPair_175 ?_
  refine eg_aload_n (i := 0) 0 dX13_goPair_176 rfl rfl ?_
  replace hF := eg_bind hF; obtain ⟨v3, e4, hF⟩ := hF
  refine eg_getI dX13_goPair_177 e4 (Nat.le_of_ble_eq_true rfl) (Nat.le_of_ble_eq_true rfl) rfl ew_1472 ?_
  refine eg_i2l dX13_goPair_180 ?_
  refine eg_lmul dX13_goPair_181 ?_
  refine eg_iconst (v := (2 : Int32)) dX13_goPair_182 (by decide) ?_
  refine eg_aload_n (i := 0) 0 dX13_goPair_183 rfl rfl ?_
  replace hF := eg_bind hF; obtain ⟨p5, e6, hF⟩ := hF
  refine eg_getR dX13_goPair_184 e6 (Nat.le_of_ble_eq_true rfl) (Nat.le_of_ble_eq_true rfl) rfl ew_1454 ?_
  refine eg_iconst (v := (4 : Int32)) dX13_goPair_187 (by decide) ?_
  refine eg_iload (i := 9) 8 dX13_goPair_188 rfl ?_
  refine eg_imul dX13_goPair_190 ?_
  replace hF := eg_bind hF; obtain ⟨v7, e8, hF⟩ := hF
  refine eg_iald dX13_goPair_191 e8 ?_
  refine eg_imul dX13_goPair_192 ?_
  refine eg_iconst (v := (1 : Int32)) dX13_goPair_193 (by decide) ?_
  refine eg_iadd dX13_goPair_194 ?_
  refine eg_i2l dX13_goPair_195 ?_
  replace hF := eg_nif hF; obtain ⟨c9, hF⟩ := hF
  refine eg_ldiv dX13_goPair_196 c9 ?_
  refine eg_l2i dX13_goPair_197 ?_
  replace hF := eg_bind hF; obtain ⟨v10, e11, hF⟩ := hF
  replace e11 := Option.some.inj e11
  rw [e11]
  refine eg_istore (i := 5) [(5, .int v10), (0, .ref l0), (1, .int l1), (2, .int l2), (3, .int l3), (4, .int l4), (6, .int l6), (7, .int l7), (9, .int l9)] dX13_goPair_198 (Nat.le_of_ble_eq_true rfl) rfl ?_
  refine eg_aload_n (i := 0) 1 dX13_goPair_200 rfl rfl ?_
  replace hF := eg_bind hF; obtain ⟨p12, e13, hF⟩ := hF
  refine eg_getR dX13_goPair_201 e13 (Nat.le_of_ble_eq_true rfl) (Nat.le_of_ble_eq_true rfl) rfl ew_1473 ?_
  refine eg_iload (i := 6) 6 dX13_goPair_204 rfl ?_
  refine eg_iload (i := 5) 0 dX13_goPair_206 rfl ?_
  replace hF := eg_bind hF; obtain ⟨h14, e15, hF⟩ := hF
  refine eg_iast dX13_goPair_208 e15 ?_
  refine eg_aload_n (i := 0) 1 dX13_goPair_209 rfl rfl ?_
  refine eg_dup dX13_goPair_210 rfl ?_
  replace hF := eg_bind hF; obtain ⟨v16, e17, hF⟩ := hF
  refine eg_getL dX13_goPair_211 e17 (Nat.le_of_ble_eq_true rfl) (Nat.le_of_ble_eq_true rfl) rfl ew_1475 ?_
  refine eg_iload (i := 5) 0 dX13_goPair_214 rfl ?_
  refine eg_i2l dX13_goPair_216 ?_
  refine eg_ladd dX13_goPair_217 ?_
  replace hF := eg_bind hF; obtain ⟨h18, e19, hF⟩ := hF
  refine eg_putL dX13_goPair_218 e19 (Nat.le_of_ble_eq_true rfl) (Nat.le_of_ble_eq_true rfl) rfl ew_1475 rfl ?_
  refine eg_aload_n (i := 0) 1 dX13_goPair_221 rfl rfl ?_
  refine eg_dup dX13_goPair_222 rfl ?_
  replace hF := eg_bind hF; obtain ⟨v20, e21, hF⟩ := hF
  refine eg_getI dX13_goPair_223 e21 (Nat.le_of_ble_eq_true rfl) (Nat.le_of_ble_eq_true rfl) rfl ew_1474 ?_
  refine eg_iload (i := 5) 0 dX13_goPair_226 rfl ?_
  refine eg_if_le 235 dX13_goPair_228 rfl (fun c22 => ?_) (fun c22 => ?_)
  · replace hF := eg_it c22 hF
    refine eg_iconst (v := (0 : Int32)) dX13_goPair_235 (by decide) ?_
    refine eg_iadd dX13_goPair_236 ?_
    replace hF := eg_bind hF; obtain ⟨h23, e24, hF⟩ := hF
    refine eg_putI dX13_goPair_237 e24 (Nat.le_of_ble_eq_true rfl) (Nat.le_of_ble_eq_true rfl) rfl ew_1474 (Or.inl rfl) ?_
    refine eg_iinc (i := 6) (v := (l6 + (1 : Int32))) 6 [(6, .int (l6 + (1 : Int32))), (5, .int v10), (0, .ref l0), (1, .int l1), (2, .int l2), (3, .int l3), (4, .int l4), (7, .int l7), (9, .int l9)] dX13_goPair_240 rfl rfl (Nat.le_of_ble_eq_true rfl) rfl ?_
    refine eg_goto 53 dX13_goPair_243 rfl ?_
    exact eg_sub [2, 3, 4, 5, 6, 1, 0] [(0, .ref l0), (1, .int l1), (2, .int l2), (3, .int l3), (4, .int l4), (5, .int v10), (6, .int (l6 + (1 : Int32)))] rfl (hrec h23 l0 l1 l2 l3 l4 v10 (l6 + (1 : Int32)) hF)
  · replace hF := eg_if c22 hF
    refine eg_iconst (v := (1 : Int32)) dX13_goPair_231 (by decide) ?_
    refine eg_goto 236 dX13_goPair_232 rfl ?_
    refine eg_iadd dX13_goPair_236 ?_
    replace hF := eg_bind hF; obtain ⟨h25, e26, hF⟩ := hF
    refine eg_putI dX13_goPair_237 e26 (Nat.le_of_ble_eq_true rfl) (Nat.le_of_ble_eq_true rfl) rfl ew_1474 (Or.inl rfl) ?_
    refine eg_iinc (i := 6) (v := (l6 + (1 : Int32))) 6 [(6, .int (l6 + (1 : Int32))), (5, .int v10), (0, .ref l0), (1, .int l1), (2, .int l2), (3, .int l3), (4, .int l4), (7, .int l7), (9, .int l9)] dX13_goPair_240 rfl rfl (Nat.le_of_ble_eq_true rfl) rfl ?_
    refine eg_goto 53 dX13_goPair_243 rfl ?_
    exact eg_sub [2, 3, 4, 5, 6, 1, 0] [(0, .ref l0), (1, .int l1), (2, .int l2), (3, .int l3), (4, .int l4), (5, .int v10), (6, .int (l6 + (1 : Int32)))] rfl (hrec h25 l0 l1 l2 l3 l4 v10 (l6 + (1 : Int32)) hF)
def fX13_goPair_j138 (rec : eg_H → Nat → Int32 → Int32 → Int32 → Int32 → Int32 → Int32 → Option ((Int32 × eg_H) ⊕ (eg_H))) (h : eg_H) (l0 : Nat) (l1 : Int32) (l2 : Int32) (l3 : Int32) (l4 : Int32) (l5 : Int32) (l6 : Int32) (l7 : Int32) (l8 : Int32) (l9 : Int32) (s0 : Int32) : Option ((Int32 × eg_H) ⊕ (eg_H)) :=
  if l8 = 0 then
    (fX13_goPair_j168 rec h l0 l1 l2 l3 l4 l5 l6 l7 l9 l0 l9 s0 ((((l2 / (10 : Int32)) * (10 : Int32)) + (1 : Int32)) - (l2 % (10 : Int32))))
  else
    fX13_goPair_j168 rec h l0 l1 l2 l3 l4 l5 l6 l7 l9 l0 l9 s0 l2
set_option maxRecDepth 20000 in
theorem fX13_goPair_j138_ok {rec : eg_H → Nat → Int32 → Int32 → Int32 → Int32 → Int32 → Int32 → Option ((Int32 × eg_H) ⊕ (eg_H))} {h0 : eg_H} {Z : eg_C → State → Prop} {N S : Nat} (h : eg_H) (l0 : Nat) (l1 : Int32) (l2 : Int32) (l3 : Int32) (l4 : Int32) (l5 : Int32) (l6 : Int32) (l7 : Int32) (l8 : Int32) (l9 : Int32) (s0 : Int32) (eE : (Int32 × eg_H) ⊕ (eg_H)) (hF : fX13_goPair_j138 rec h l0 l1 l2 l3 l4 l5 l6 l7 l8 l9 s0 = some eE) (hrec : ∀ (h : eg_H) (l0 : Nat) (l1 : Int32) (l2 : Int32) (l3 : Int32) (l4 : Int32) (l5 : Int32) (l6 : Int32), rec h l0 l1 l2 l3 l4 l5 l6 = some eE → eg_AW (RX13, cX13_goPair, 11, 398, none, "goPair", (some .int)) Z N S h0 53 [(0, .ref l0), (1, .int l1), (2, .int l2), (3, .int l3), (4, .int l4), (5, .int l5), (6, .int l6)] [] h) (hk0 : ∀ (l5 : Int32) (h : eg_H), eE = (.inl (l5, h)) → eg_AW (RX13, cX13_goPair, 11, 398, none, "goPair", (some .int)) Z N S h0 246 [(5, .int l5)] [] h) (hk1 : ∀  (h : eg_H), eE = (.inr (h)) → eg_AW (RX13, cX13_goPair, 11, 398, none, "goPair", (some .int)) Z N S h0 87 [] [] h) : eg_AW (RX13, cX13_goPair, 11, 398, none, "goPair", (some .int)) Z N S h0 138 [(0, .ref l0), (1, .int l1), (2, .int l2), (3, .int l3), (4, .int l4), (5, .int l5), (6, .int l6), (7, .int l7), (8, .int l8), (9, .int l9)] [.int s0] h := by
  refine eg_istore (i := 10) [(10, .int s0), (0, .ref l0), (1, .int l1), (2, .int l2), (3, .int l3), (4, .int l4), (5, .int l5), (6, .int l6), (7, .int l7), (8, .int l8), (9, .int l9)] dX13_goPair_138 (Nat.le_of_ble_eq_true rfl) rfl ?_
  refine eg_aload_n (i := 0) 1 dX13_goPair_140 rfl rfl ?_
  refine eg_iload (i := 9) 10 dX13_goPair_141 rfl ?_
  refine eg_iload (i := 10) 0 dX13_goPair_143 rfl ?_
  refine eg_iload (i := 8) 9 dX13_goPair_145 rfl ?_
  refine eg_if_eq 154 dX13_goPair_147 rfl (fun c1 => ?_) (fun c1 => ?_)
  · replace hF := eg_it c1 hF
    refine eg_iload_n (i := 2) 3 dX13_goPair_154 rfl rfl ?_
    refine eg_bipush (v := (10 : Int32)) dX13_goPair_155 (by decide) ?_
    refine eg_idiv dX13_goPair_157 (by decide) ?_
    refine eg_bipush (v := (10 : Int32)) dX13_goPair_158 (by decide) ?_
    refine eg_imul dX13_goPair_160 ?_
    refine eg_iconst (v := (1 : Int32)) dX13_goPair_161 (by decide) ?_
    refine eg_iadd dX13_goPair_162 ?_
    refine eg_iload_n (i := 2) 3 dX13_goPair_163 rfl rfl ?_
    refine eg_bipush (v := (10 : Int32)) dX13_goPair_164 (by decide) ?_
    refine eg_irem dX13_goPair_166 (by decide) ?_
    refine eg_isub dX13_goPair_167 ?_
    exact eg_sub [1, 2, 3, 4, 5, 6, 7, 8, 10] [(0, .ref l0), (1, .int l1), (2, .int l2), (3, .int l3), (4, .int l4), (5, .int l5), (6, .int l6), (7, .int l7), (9, .int l9)] rfl (fX13_goPair_j168_ok h l0 l1 l2 l3 l4 l5 l6 l7 l9 l0 l9 s0 ((((l2 / (10 : Int32)) * (10 : Int32)) + (1 : Int32)) - (l2 % (10 : Int32))) eE hF hrec hk0 hk1)
  · replace hF := eg_if c1 hF
    refine eg_iload_n (i := 2) 3 dX13_goPair_150 rfl rfl ?_
    refine eg_goto 168 dX13_goPair_151 rfl ?_
    exact eg_sub [1, 2, 3, 4, 5, 6, 7, 8, 10] [(0, .ref l0), (1, .int l1), (2, .int l2), (3, .int l3), (4, .int l4), (5, .int l5), (6, .int l6), (7, .int l7), (9, .int l9)] rfl (fX13_goPair_j168_ok h l0 l1 l2 l3 l4 l5 l6 l7 l9 l0 l9 s0 l2 eE hF hrec hk0 hk1)
def fX13_goPair_j120 (rec : eg_H → Nat → Int32 → Int32 → Int32 → Int32 → Int32 → Int32 → Option ((Int32 × eg_H) ⊕ (eg_H))) (h : eg_H) (l0 : Nat) (l1 : Int32) (l2 : Int32) (l3 : Int32) (l4 : Int32) (l5 : Int32) (l6 : Int32) (l7 : Int32) (l8 : Int32) (s0 : Int32) : Option ((Int32 × eg_H) ⊕ (eg_H)) :=
  if l8 = 0 then
    (fX13_goPair_j138 rec h l0 l1 l2 l3 l4 l5 l6 l7 l8 s0 (l1 / (10 : Int32)))
  else
    fX13_goPair_j138 rec h l0 l1 l2 l3 l4 l5 l6 l7 l8 s0 (l1 % (10 : Int32))
set_option maxRecDepth 20000 in
theorem fX13_goPair_j120_ok {rec : eg_H → Nat → Int32 → Int32 → Int32 → Int32 → Int32 → Int32 → Option ((Int32 × eg_H) ⊕ (eg_H))} {h0 : eg_H} {Z : eg_C → State → Prop} {N S : Nat} (h : eg_H) (l0 : Nat) (l1 : Int32) (l2 : Int32) (l3 : Int32) (l4 : Int32) (l5 : Int32) (l6 : Int32) (l7 : Int32) (l8 : Int32) (s0 : Int32) (eE : (Int32 × eg_H) ⊕ (eg_H)) (hF : fX13_goPair_j120 rec h l0 l1 l2 l3 l4 l5 l6 l7 l8 s0 = some eE) (hrec : ∀ (h : eg_H) (l0 : Nat) (l1 : Int32) (l2 : Int32) (l3 : Int32) (l4 : Int32) (l5 : Int32) (l6 : Int32), rec h l0 l1 l2 l3 l4 l5 l6 = some eE → eg_AW (RX13, cX13_goPair, 11, 398, none, "goPair", (some .int)) Z N S h0 53 [(0, .ref l0), (1, .int l1), (2, .int l2), (3, .int l3), (4, .int l4), (5, .int l5), (6, .int l6)] [] h) (hk0 : ∀ (l5 : Int32) (h : eg_H), eE = (.inl (l5, h)) → eg_AW (RX13, cX13_goPair, 11, 398, none, "goPair", (some .int)) Z N S h0 246 [(5, .int l5)] [] h) (hk1 : ∀  (h : eg_H), eE = (.inr (h)) → eg_AW (RX13, cX13_goPair, 11, 398, none, "goPair", (some .int)) Z N S h0 87 [] [] h) : eg_AW (RX13, cX13_goPair, 11, 398, none, "goPair", (some .int)) Z N S h0 120 [(0, .ref l0), (1, .int l1), (2, .int l2), (3, .int l3), (4, .int l4), (5, .int l5), (6, .int l6), (7, .int l7), (8, .int l8)] [.int s0] h := by
  refine eg_istore (i := 9) [(9, .int s0), (0, .ref l0), (1, .int l1), (2, .int l2), (3, .int l3), (4, .int l4), (5, .int l5), (6, .int l6), (7, .int l7), (8, .int l8)] dX13_goPair_120 (Nat.le_of_ble_eq_true rfl) rfl ?_
  refine eg_iload (i := 8) 9 dX13_goPair_122 rfl ?_
  refine eg_if_eq 134 dX13_goPair_124 rfl (fun c1 => ?_) (fun c1 => ?_)
  · replace hF := eg_it c1 hF
    refine eg_iload_n (i := 1) 2 dX13_goPair_134 rfl rfl ?_
    refine eg_bipush (v := (10 : Int32)) dX13_goPair_135 (by decide) ?_
    refine eg_idiv dX13_goPair_137 (by decide) ?_
    exact eg_sub [1, 2, 3, 4, 5, 6, 7, 8, 9, 0] [(0, .ref l0), (1, .int l1), (2, .int l2), (3, .int l3), (4, .int l4), (5, .int l5), (6, .int l6), (7, .int l7), (8, .int l8), (9, .int s0)] rfl (fX13_goPair_j138_ok h l0 l1 l2 l3 l4 l5 l6 l7 l8 s0 (l1 / (10 : Int32)) eE hF hrec hk0 hk1)
  · replace hF := eg_if c1 hF
    refine eg_iload_n (i := 1) 2 dX13_goPair_127 rfl rfl ?_
    refine eg_bipush (v := (10 : Int32)) dX13_goPair_128 (by decide) ?_
    refine eg_irem dX13_goPair_130 (by decide) ?_
    refine eg_goto 138 dX13_goPair_131 rfl ?_
    exact eg_sub [1, 2, 3, 4, 5, 6, 7, 8, 9, 0] [(0, .ref l0), (1, .int l1), (2, .int l2), (3, .int l3), (4, .int l4), (5, .int l5), (6, .int l6), (7, .int l7), (8, .int l8), (9, .int s0)] rfl (fX13_goPair_j138_ok h l0 l1 l2 l3 l4 l5 l6 l7 l8 s0 (l1 % (10 : Int32)) eE hF hrec hk0 hk1)
def fX13_goPair_j102 (rec : eg_H → Nat → Int32 → Int32 → Int32 → Int32 → Int32 → Int32 → Option ((Int32 × eg_H) ⊕ (eg_H))) (h : eg_H) (l0 : Nat) (l1 : Int32) (l2 : Int32) (l3 : Int32) (l4 : Int32) (l5 : Int32) (l6 : Int32) (l7 : Int32) (s0 : Int32) : Option ((Int32 × eg_H) ⊕ (eg_H)) :=
  if s0 = 0 then
    (fX13_goPair_j120 rec h l0 l1 l2 l3 l4 l5 l6 l7 s0 (l1 % (10 : Int32)))
  else
    fX13_goPair_j120 rec h l0 l1 l2 l3 l4 l5 l6 l7 s0 (l1 / (10 : Int32))
set_option maxRecDepth 20000 in
theorem fX13_goPair_j102_ok {rec : eg_H → Nat → Int32 → Int32 → Int32 → Int32 → Int32 → Int32 → Option ((Int32 × eg_H) ⊕ (eg_H))} {h0 : eg_H} {Z : eg_C → State → Prop} {N S : Nat} (h : eg_H) (l0 : Nat) (l1 : Int32) (l2 : Int32) (l3 : Int32) (l4 : Int32) (l5 : Int32) (l6 : Int32) (l7 : Int32) (s0 : Int32) (eE : (Int32 × eg_H) ⊕ (eg_H)) (hF : fX13_goPair_j102 rec h l0 l1 l2 l3 l4 l5 l6 l7 s0 = some eE) (hrec : ∀ (h : eg_H) (l0 : Nat) (l1 : Int32) (l2 : Int32) (l3 : Int32) (l4 : Int32) (l5 : Int32) (l6 : Int32), rec h l0 l1 l2 l3 l4 l5 l6 = some eE → eg_AW (RX13, cX13_goPair, 11, 398, none, "goPair", (some .int)) Z N S h0 53 [(0, .ref l0), (1, .int l1), (2, .int l2), (3, .int l3), (4, .int l4), (5, .int l5), (6, .int l6)] [] h) (hk0 : ∀ (l5 : Int32) (h : eg_H), eE = (.inl (l5, h)) → eg_AW (RX13, cX13_goPair, 11, 398, none, "goPair", (some .int)) Z N S h0 246 [(5, .int l5)] [] h) (hk1 : ∀  (h : eg_H), eE = (.inr (h)) → eg_AW (RX13, cX13_goPair, 11, 398, none, "goPair", (some .int)) Z N S h0 87 [] [] h) : eg_AW (RX13, cX13_goPair, 11, 398, none, "goPair", (some .int)) Z N S h0 102 [(0, .ref l0), (1, .int l1), (2, .int l2), (3, .int l3), (4, .int l4), (5, .int l5), (6, .int l6), (7, .int l7)] [.int s0] h := by
  refine eg_istore (i := 8) [(8, .int s0), (0, .ref l0), (1, .int l1), (2, .int l2), (3, .int l3), (4, .int l4), (5, .int l5), (6, .int l6), (7, .int l7)] dX13_goPair_102 (Nat.le_of_ble_eq_true rfl) rfl ?_
  refine eg_iload (i := 8) 0 dX13_goPair_104 rfl ?_
  refine eg_if_eq 116 dX13_goPair_106 rfl (fun c1 => ?_) (fun c1 => ?_)
  · replace hF := eg_it c1 hF
    refine eg_iload_n (i := 1) 2 dX13_goPair_116 rfl rfl ?_
    refine eg_bipush (v := (10 : Int32)) dX13_goPair_117 (by decide) ?_
    refine eg_irem dX13_goPair_119 (by decide) ?_
    exact eg_sub [1, 2, 3, 4, 5, 6, 7, 8, 0] [(0, .ref l0), (1, .int l1), (2, .int l2), (3, .int l3), (4, .int l4), (5, .int l5), (6, .int l6), (7, .int l7), (8, .int s0)] rfl (fX13_goPair_j120_ok h l0 l1 l2 l3 l4 l5 l6 l7 s0 (l1 % (10 : Int32)) eE hF hrec hk0 hk1)
  · replace hF := eg_if c1 hF
    refine eg_iload_n (i := 1) 2 dX13_goPair_109 rfl rfl ?_
    refine eg_bipush (v := (10 : Int32)) dX13_goPair_110 (by decide) ?_
    refine eg_idiv dX13_goPair_112 (by decide) ?_
    refine eg_goto 120 dX13_goPair_113 rfl ?_
    exact eg_sub [1, 2, 3, 4, 5, 6, 7, 8, 0] [(0, .ref l0), (1, .int l1), (2, .int l2), (3, .int l3), (4, .int l4), (5, .int l5), (6, .int l6), (7, .int l7), (8, .int s0)] rfl (fX13_goPair_j120_ok h l0 l1 l2 l3 l4 l5 l6 l7 s0 (l1 / (10 : Int32)) eE hF hrec hk0 hk1)
def fX13_goPair_L53 : Nat → eg_H → Nat → Int32 → Int32 → Int32 → Int32 → Int32 → Int32 → Option ((Int32 × eg_H) ⊕ (eg_H))
  | 0, _, _, _, _, _, _, _, _ => none
  | n + 1, h, l0, l1, l2, l3, l4, l5, l6 =>
    if l4 < l6 then
      (some (.inl (l5, h)))
    else
      (eg_gR h 13 18 l0).bind fun p2 =>
      (eg_aI h 100 p2 (3 : Int32)).bind fun v4 =>
      (some ((v4 + ((l6 - (1 : Int32)) * l3)))).bind fun v6 =>
      if (60 : Int32) < v6 then
        (some (.inr (h)))
      else
        if l5 = 0 then
          (some (.inr (h)))
        else
          if (l6 % (2 : Int32)) = (1 : Int32) then
            (fX13_goPair_j102 (fX13_goPair_L53 n) h l0 l1 l2 l3 l4 l5 l6 v6 (1 : Int32))
          else
            fX13_goPair_j102 (fX13_goPair_L53 n) h l0 l1 l2 l3 l4 l5 l6 v6 (0 : Int32)
set_option maxRecDepth 20000 in
theorem fX13_goPair_L53_ok {h0 : eg_H} {Z : eg_C → State → Prop} {N S : Nat} : ∀ (n : Nat) (h : eg_H) (l0 : Nat) (l1 : Int32) (l2 : Int32) (l3 : Int32) (l4 : Int32) (l5 : Int32) (l6 : Int32) (eE : (Int32 × eg_H) ⊕ (eg_H)), fX13_goPair_L53 n h l0 l1 l2 l3 l4 l5 l6 = some eE → (hk0 : ∀ (l5 : Int32) (h : eg_H), eE = (.inl (l5, h)) → eg_AW (RX13, cX13_goPair, 11, 398, none, "goPair", (some .int)) Z N S h0 246 [(5, .int l5)] [] h) → (hk1 : ∀  (h : eg_H), eE = (.inr (h)) → eg_AW (RX13, cX13_goPair, 11, 398, none, "goPair", (some .int)) Z N S h0 87 [] [] h) → eg_AW (RX13, cX13_goPair, 11, 398, none, "goPair", (some .int)) Z N S h0 53 [(0, .ref l0), (1, .int l1), (2, .int l2), (3, .int l3), (4, .int l4), (5, .int l5), (6, .int l6)] [] h := by
  intro n
  induction n with
  | zero => intro h l0 l1 l2 l3 l4 l5 l6 eE hF; exact absurd hF (by intro q; cases q)
  | succ n ih =>
    intro h l0 l1 l2 l3 l4 l5 l6 eE hF hk0 hk1
    have hrec := fun (h' : eg_H) (l0 : Nat) (l1 : Int32) (l2 : Int32) (l3 : Int32) (l4 : Int32) (l5 : Int32) (l6 : Int32) hq => ih h' l0 l1 l2 l3 l4 l5 l6 eE hq hk0 hk1
    refine eg_iload (i := 6) 6 dX13_goPair_53 rfl ?_
    refine eg_iload (i := 4) 4 dX13_goPair_55 rfl ?_
    refine eg_ic_gt 246 dX13_goPair_57 rfl (fun c1 => ?_) (fun c1 => ?_)
    · replace hF := eg_it c1 hF
      exact eg_sub [5] [(5, .int l5)] rfl (hk0 l5 h (Option.some.inj hF).symm)
    · replace hF := eg_if c1 hF
      refine eg_aload_n (i := 0) 0 dX13_goPair_60 rfl rfl ?_
      replace hF := eg_bind hF; obtain ⟨p2, e3, hF⟩ := hF
      refine eg_getR dX13_goPair_61 e3 (Nat.le_of_ble_eq_true rfl) (Nat.le_of_ble_eq_true rfl) rfl ew_1452 ?_
      refine eg_iconst (v := (3 : Int32)) dX13_goPair_64 (by decide) ?_
      replace hF := eg_bind hF; obtain ⟨v4, e5, hF⟩ := hF
      refine eg_iald dX13_goPair_65 e5 ?_
      refine eg_iload (i := 6) 6 dX13_goPair_66 rfl ?_
      refine eg_iconst (v := (1 : Int32)) dX13_goPair_68 (by decide) ?_
      refine eg_isub dX13_goPair_69 ?_
      refine eg_iload_n (i := 3) 3 dX13_goPair_70 rfl rfl ?_
      refine eg_imul dX13_goPair_71 ?_
      refine eg_iadd dX13_goPair_72 ?_
      replace hF := eg_bind hF; obtain ⟨v6, e7, hF⟩ := hF
      replace e7 := Option.some.inj e7
      rw [e7]
      refine eg_istore (i := 7) [(7, .int v6), (0, .ref l0), (1, .int l1), (2, .int l2), (3, .int l3), (4, .int l4), (5, .int l5), (6, .int l6)] dX13_goPair_73 (Nat.le_of_ble_eq_true rfl) rfl ?_
      refine eg_iload (i := 7) 0 dX13_goPair_75 rfl ?_
      refine eg_bipush (v := (60 : Int32)) dX13_goPair_77 (by decide) ?_
      refine eg_ic_gt 87 dX13_goPair_79 rfl (fun c8 => ?_) (fun c8 => ?_)
      · replace hF := eg_it c8 hF
        exact eg_sub [] [] rfl (hk1 h (Option.some.inj hF).symm)
      · replace hF := eg_if c8 hF
        refine eg_iload (i := 5) 6 dX13_goPair_82 rfl ?_
        refine eg_if_ne 89 dX13_goPair_84 rfl (fun c9 => ?_) (fun c9 => ?_)
        · replace hF := eg_it c9 hF
          exact eg_sub [] [] rfl (hk1 h (Option.some.inj hF).symm)
        · replace hF := eg_if c9 hF
          refine eg_iload (i := 6) 7 dX13_goPair_89 rfl ?_
          refine eg_iconst (v := (2 : Int32)) dX13_goPair_91 (by decide) ?_
          refine eg_irem dX13_goPair_92 (by decide) ?_
          refine eg_iconst (v := (1 : Int32)) dX13_goPair_93 (by decide) ?_
          refine eg_ic_ne 101 dX13_goPair_94 rfl (fun c10 => ?_) (fun c10 => ?_)
          · replace hF := eg_it c10 hF
            refine eg_iconst (v := (1 : Int32)) dX13_goPair_97 (by decide) ?_
            refine eg_goto 102 dX13_goPair_98 rfl ?_
            exact eg_sub [1, 2, 3, 4, 5, 6, 7, 0] [(0, .ref l0), (1, .int l1), (2, .int l2), (3, .int l3), (4, .int l4), (5, .int l5), (6, .int l6), (7, .int v6)] rfl (fX13_goPair_j102_ok h l0 l1 l2 l3 l4 l5 l6 v6 (1 : Int32) eE hF hrec hk0 hk1)
          · replace hF := eg_if c10 hF
            refine eg_iconst (v := (0 : Int32)) dX13_goPair_101 (by decide) ?_
            exact eg_sub [1, 2, 3, 4, 5, 6, 7, 0] [(0, .ref l0), (1, .int l1), (2, .int l2), (3, .int l3), (4, .int l4), (5, .int l5), (6, .int l6), (7, .int v6)] rfl (fX13_goPair_j102_ok h l0 l1 l2 l3 l4 l5 l6 v6 (0 : Int32) eE hF hrec hk0 hk1)
def fX13_goPair (h : eg_H) (l0 : Nat) (l1 : Int32) (l2 : Int32) (l3 : Int32) (l4 : Int32) : Option (Int32 × eg_H) :=
  if eg_isO h 13 l0 then (
    (fX13_goPair_L8 eg_F h l0 l1 l2 l3 l4 (1000000000 : Int32) (0 : Int32)).bind fun e =>
    match e with
    | (p3, v4, v5, v6, v7, v8, h9) =>
      (eg_pI h9 13 40 p3 (0 : Int32)).bind fun h10 =>
      (eg_pL h10 13 41 p3 (0 : Int64)).bind fun h12 =>
      (fX13_goPair_L53 eg_F h12 p3 v4 v5 v6 v7 v8 (1 : Int32)).bind fun e =>
      match e with
      | .inl (v16, h17) =>
        some (v16, h17)
      | .inr (h19) =>
        some ((0 : Int32), h19)) else none
theorem fX13_goPair_O {h : eg_H} {l0 : Nat} {l1 : Int32} {l2 : Int32} {l3 : Int32} {l4 : Int32} {rE : Int32} {hE : eg_H} (hF : fX13_goPair h l0 l1 l2 l3 l4 = some (rE, hE)) : eg_isO h 13 l0 := (eg_ifn hF).1
set_option maxRecDepth 20000 in
theorem mX13_goPair {h : eg_H} {l0 : Nat} {l1 : Int32} {l2 : Int32} {l3 : Int32} {l4 : Int32} {rE : Int32} {hE : eg_H} (hF : fX13_goPair h l0 l1 l2 l3 l4 = some (rE, hE)) : eg_Met yX13_goPair cX13_goPair 11 (some .int) 398 [.ref l0, .int l1, .int l2, .int l3, .int l4] h (some (.int rE)) hE := by
  refine eg_enter rfl (Nat.le_of_ble_eq_true rfl) ?_
  show eg_AW (RX13, cX13_goPair, 11, 398, none, "goPair", (some .int)) (eg_Zm (some (.int rE)) hE h) (eg_nc hE) (eg_ns hE) h 0 [(0, .ref l0), (1, .int l1), (2, .int l2), (3, .int l3), (4, .int l4)] [] h
  replace hF := (eg_ifn hF).2
  refine eg_ldcw (v := (1000000000 : Int32)) dX13_goPair_0 ew_1977 ?_
  refine eg_istore (i := 5) [(5, .int (1000000000 : Int32)), (0, .ref l0), (1, .int l1), (2, .int l2), (3, .int l3), (4, .int l4)] dX13_goPair_3 (Nat.le_of_ble_eq_true rfl) rfl ?_
  refine eg_iconst (v := (0 : Int32)) dX13_goPair_5 (by decide) ?_
  refine eg_istore (i := 6) [(6, .int (0 : Int32)), (5, .int (1000000000 : Int32)), (0, .ref l0), (1, .int l1), (2, .int l2), (3, .int l3), (4, .int l4)] dX13_goPair_6 (Nat.le_of_ble_eq_true rfl) rfl ?_
  replace hF := eg_bind hF; obtain ⟨x2, e1, hF⟩ := hF
  refine eg_sub [2, 3, 4, 5, 6, 1, 0] [(0, .ref l0), (1, .int l1), (2, .int l2), (3, .int l3), (4, .int l4), (5, .int (1000000000 : Int32)), (6, .int (0 : Int32))] rfl (fX13_goPair_L8_ok eg_F h l0 l1 l2 l3 l4 (1000000000 : Int32) (0 : Int32) x2 e1 ?_)
  · intro p3 v4 v5 v6 v7 v8 h9 e21
    subst e21
    refine eg_aload_n (i := 0) 0 dX13_goPair_40 rfl rfl ?_
    refine eg_iconst (v := (0 : Int32)) dX13_goPair_41 (by decide) ?_
    replace hF := eg_bind hF; obtain ⟨h10, e11, hF⟩ := hF
    refine eg_putI dX13_goPair_42 e11 (Nat.le_of_ble_eq_true rfl) (Nat.le_of_ble_eq_true rfl) rfl ew_1474 (Or.inl rfl) ?_
    refine eg_aload_n (i := 0) 0 dX13_goPair_45 rfl rfl ?_
    refine eg_lconst (v := (0 : Int64)) dX13_goPair_46 (by decide) ?_
    replace hF := eg_bind hF; obtain ⟨h12, e13, hF⟩ := hF
    refine eg_putL dX13_goPair_47 e13 (Nat.le_of_ble_eq_true rfl) (Nat.le_of_ble_eq_true rfl) rfl ew_1475 rfl ?_
    refine eg_iconst (v := (1 : Int32)) dX13_goPair_50 (by decide) ?_
    refine eg_istore (i := 6) [(6, .int (1 : Int32)), (0, .ref p3), (1, .int v4), (2, .int v5), (3, .int v6), (4, .int v7), (5, .int v8)] dX13_goPair_51 (Nat.le_of_ble_eq_true rfl) rfl ?_
    replace hF := eg_bind hF; obtain ⟨x15, e14, hF⟩ := hF
    refine eg_sub [1, 2, 3, 4, 5, 6, 0] [(0, .ref p3), (1, .int v4), (2, .int v5), (3, .int v6), (4, .int v7), (5, .int v8), (6, .int (1 : Int32))] rfl (fX13_goPair_L53_ok eg_F h12 p3 v4 v5 v6 v7 v8 (1 : Int32) x15 e14 ?_ ?_)
    · intro v16 h17 e18
      subst e18
      refine eg_iload (i := 5) 0 dX13_goPair_246 rfl ?_
      exact eg_iretE dX13_goPair_248 hF
    · intro h19 e20
      subst e20
      refine eg_iconst (v := (0 : Int32)) dX13_goPair_87 (by decide) ?_
      exact eg_iretE dX13_goPair_88 hF
theorem dX13_comes_0 : decode cX13_comes 0 = .ok (.aload_n 0, 1) := by decide +kernel
theorem dX13_comes_1 : decode cX13_comes 1 = .ok (.iconst 0, 1) := by decide +kernel
theorem dX13_comes_2 : decode cX13_comes 2 = .ok (.putfield 148, 3) := by decide +kernel
theorem dX13_comes_5 : decode cX13_comes 5 = .ok (.aload_n 0, 1) := by decide +kernel
theorem dX13_comes_6 : decode cX13_comes 6 = .ok (.iload_n 1, 1) := by decide +kernel
theorem dX13_comes_7 : decode cX13_comes 7 = .ok (.invokevirtual 405, 3) := by decide +kernel
theorem dX13_comes_10 : decode cX13_comes 10 = .ok (.ifCond .eq 15, 3) := by decide +kernel
theorem dX13_comes_13 : decode cX13_comes 13 = .ok (.aload_n 0, 1) := by decide +kernel
theorem dX13_comes_14 : decode cX13_comes 14 = .ok (.iload_n 2, 1) := by decide +kernel
theorem dX13_comes_15 : decode cX13_comes 15 = .ok (.invokevirtual 408, 3) := by decide +kernel
theorem dX13_comes_18 : decode cX13_comes 18 = .ok (.ifCond .eq 7, 3) := by decide +kernel
theorem dX13_comes_21 : decode cX13_comes 21 = .ok (.iload_n 3, 1) := by decide +kernel
theorem dX13_comes_22 : decode cX13_comes 22 = .ok (.ifCond .ge 5, 3) := by decide +kernel
theorem dX13_comes_25 : decode cX13_comes 25 = .ok (.iconst (-1), 1) := by decide +kernel
theorem dX13_comes_26 : decode cX13_comes 26 = .ok (.ireturn, 1) := by decide +kernel
theorem dX13_comes_27 : decode cX13_comes 27 = .ok (.iload_n 3, 1) := by decide +kernel
theorem dX13_comes_28 : decode cX13_comes 28 = .ok (.bipush 60, 2) := by decide +kernel
theorem dX13_comes_30 : decode cX13_comes 30 = .ok (.if_icmp .le 7, 3) := by decide +kernel
theorem dX13_comes_33 : decode cX13_comes 33 = .ok (.iconst 0, 1) := by decide +kernel
theorem dX13_comes_34 : decode cX13_comes 34 = .ok (.goto 16, 3) := by decide +kernel
theorem dX13_comes_37 : decode cX13_comes 37 = .ok (.aload_n 0, 1) := by decide +kernel
theorem dX13_comes_38 : decode cX13_comes 38 = .ok (.iload_n 1, 1) := by decide +kernel
theorem dX13_comes_39 : decode cX13_comes 39 = .ok (.iload_n 2, 1) := by decide +kernel
theorem dX13_comes_40 : decode cX13_comes 40 = .ok (.aload_n 0, 1) := by decide +kernel
theorem dX13_comes_41 : decode cX13_comes 41 = .ok (.getfield 37, 3) := by decide +kernel
theorem dX13_comes_44 : decode cX13_comes 44 = .ok (.iconst 2, 1) := by decide +kernel
theorem dX13_comes_45 : decode cX13_comes 45 = .ok (.iaload, 1) := by decide +kernel
theorem dX13_comes_46 : decode cX13_comes 46 = .ok (.iload_n 3, 1) := by decide +kernel
theorem dX13_comes_47 : decode cX13_comes 47 = .ok (.invokevirtual 437, 3) := by decide +kernel
theorem dX13_comes_50 : decode cX13_comes 50 = .ok (.ireturn, 1) := by decide +kernel
def fX13_comes (h : eg_H) (l0 : Nat) (l1 : Int32) (l2 : Int32) (l3 : Int32) : Option (Int32 × eg_H) :=
  if eg_isO h 13 l0 then (
    (eg_pI h 13 0 l0 (0 : Int32)).bind fun h1 =>
    (fX13_isTwo h1 l0 l1).bind fun ⟨v4, h3⟩ =>
    if v4 = 0 then
      (some ((-1 : Int32), h3))
    else
      (fX13_isFrom h3 l0 l2).bind fun ⟨v8, h7⟩ =>
      if v8 = 0 then
        (some ((-1 : Int32), h7))
      else
        if 0 ≤ l3 then
          (if l3 ≤ (60 : Int32) then
            ((eg_gR h7 13 18 l0).bind fun p13 =>
            (eg_aI h7 100 p13 (2 : Int32)).bind fun v15 =>
            (fX13_goPair h7 l0 l1 l2 v15 l3).bind fun ⟨v18, h17⟩ =>
            some (v18, h17))
          else
            some ((0 : Int32), h7))
        else
          some ((-1 : Int32), h7)) else none
theorem fX13_comes_O {h : eg_H} {l0 : Nat} {l1 : Int32} {l2 : Int32} {l3 : Int32} {rE : Int32} {hE : eg_H} (hF : fX13_comes h l0 l1 l2 l3 = some (rE, hE)) : eg_isO h 13 l0 := (eg_ifn hF).1
set_option maxRecDepth 20000 in
theorem mX13_comes {h : eg_H} {l0 : Nat} {l1 : Int32} {l2 : Int32} {l3 : Int32} {rE : Int32} {hE : eg_H} (hF : fX13_comes h l0 l1 l2 l3 = some (rE, hE)) : eg_Met yX13_comes cX13_comes 4 (some .int) 399 [.ref l0, .int l1, .int l2, .int l3] h (some (.int rE)) hE := by
  refine eg_enter rfl (Nat.le_of_ble_eq_true rfl) ?_
  show eg_AW (RX13, cX13_comes, 4, 399, none, "comes", (some .int)) (eg_Zm (some (.int rE)) hE h) (eg_nc hE) (eg_ns hE) h 0 [(0, .ref l0), (1, .int l1), (2, .int l2), (3, .int l3)] [] h
  replace hF := (eg_ifn hF).2
  refine eg_aload_n (i := 0) 0 dX13_comes_0 rfl rfl ?_
  refine eg_iconst (v := (0 : Int32)) dX13_comes_1 (by decide) ?_
  replace hF := eg_bind hF; obtain ⟨h1, e2, hF⟩ := hF
  refine eg_putI dX13_comes_2 e2 (Nat.le_of_ble_eq_true rfl) (Nat.le_of_ble_eq_true rfl) rfl ew_1434 (Or.inl rfl) ?_
  refine eg_aload_n (i := 0) 0 dX13_comes_5 rfl rfl ?_
  refine eg_iload_n (i := 1) 1 dX13_comes_6 rfl rfl ?_
  replace hF := eg_bind hF; obtain ⟨⟨v4, h3⟩, e5, hF⟩ := hF
  refine eg_callV (c := 13) (n := 1) [.int l1] dX13_comes_7 (mX13_isTwo e5) rfl (fX13_isTwo_O e5) (Nat.le_of_ble_eq_true rfl) rfl ew_1929 ew_1931 ew_76 ew_110 ew_1932 hy_X13_isTwo rfl (Nat.le_of_ble_eq_true rfl) (Nat.le_of_ble_eq_true rfl) (Nat.le_of_ble_eq_true rfl) ?_
  refine eg_if_eq 25 dX13_comes_10 rfl (fun c6 => ?_) (fun c6 => ?_)
  · replace hF := eg_it c6 hF
    refine eg_iconst (v := (-1 : Int32)) dX13_comes_25 (by decide) ?_
    exact eg_iretE dX13_comes_26 hF
  · replace hF := eg_if c6 hF
    refine eg_aload_n (i := 0) 0 dX13_comes_13 rfl rfl ?_
    refine eg_iload_n (i := 2) 2 dX13_comes_14 rfl rfl ?_
    replace hF := eg_bind hF; obtain ⟨⟨v8, h7⟩, e9, hF⟩ := hF
    refine eg_callV (c := 13) (n := 1) [.int l2] dX13_comes_15 (mX13_isFrom e9) rfl (fX13_isFrom_O e9) (Nat.le_of_ble_eq_true rfl) rfl ew_1933 ew_1935 ew_77 ew_110 ew_1936 hy_X13_isFrom rfl (Nat.le_of_ble_eq_true rfl) (Nat.le_of_ble_eq_true rfl) (Nat.le_of_ble_eq_true rfl) ?_
    refine eg_if_eq 25 dX13_comes_18 rfl (fun c10 => ?_) (fun c10 => ?_)
    · replace hF := eg_it c10 hF
      refine eg_iconst (v := (-1 : Int32)) dX13_comes_25 (by decide) ?_
      exact eg_iretE dX13_comes_26 hF
    · replace hF := eg_if c10 hF
      refine eg_iload_n (i := 3) 3 dX13_comes_21 rfl rfl ?_
      refine eg_if_ge 27 dX13_comes_22 rfl (fun c11 => ?_) (fun c11 => ?_)
      · replace hF := eg_it c11 hF
        refine eg_iload_n (i := 3) 3 dX13_comes_27 rfl rfl ?_
        refine eg_bipush (v := (60 : Int32)) dX13_comes_28 (by decide) ?_
        refine eg_ic_le 37 dX13_comes_30 rfl (fun c12 => ?_) (fun c12 => ?_)
        · replace hF := eg_it c12 hF
          refine eg_aload_n (i := 0) 0 dX13_comes_37 rfl rfl ?_
          refine eg_iload_n (i := 1) 1 dX13_comes_38 rfl rfl ?_
          refine eg_iload_n (i := 2) 2 dX13_comes_39 rfl rfl ?_
          refine eg_aload_n (i := 0) 0 dX13_comes_40 rfl rfl ?_
          replace hF := eg_bind hF; obtain ⟨p13, e14, hF⟩ := hF
          refine eg_getR dX13_comes_41 e14 (Nat.le_of_ble_eq_true rfl) (Nat.le_of_ble_eq_true rfl) rfl ew_1452 ?_
          refine eg_iconst (v := (2 : Int32)) dX13_comes_44 (by decide) ?_
          replace hF := eg_bind hF; obtain ⟨v15, e16, hF⟩ := hF
          refine eg_iald dX13_comes_45 e16 ?_
          refine eg_iload_n (i := 3) 3 dX13_comes_46 rfl rfl ?_
          replace hF := eg_bind hF; obtain ⟨⟨v18, h17⟩, e19, hF⟩ := hF
          refine eg_callV (c := 13) (n := 4) [.int l1, .int l2, .int v15, .int l3] dX13_comes_47 (mX13_goPair e19) rfl (fX13_goPair_O e19) (Nat.le_of_ble_eq_true rfl) rfl ew_1973 ew_1975 ew_85 ew_110 ew_1976 hy_X13_goPair rfl (Nat.le_of_ble_eq_true rfl) (Nat.le_of_ble_eq_true rfl) (Nat.le_of_ble_eq_true rfl) ?_
          exact eg_iretE dX13_comes_50 hF
        · replace hF := eg_if c12 hF
          refine eg_iconst (v := (0 : Int32)) dX13_comes_33 (by decide) ?_
          refine eg_goto 50 dX13_comes_34 rfl ?_
          exact eg_iretE dX13_comes_50 hF
      · replace hF := eg_if c11 hF
        refine eg_iconst (v := (-1 : Int32)) dX13_comes_25 (by decide) ?_
        exact eg_iretE dX13_comes_26 hF
theorem dX13_hopeOf_0 : decode cX13_hopeOf 0 = .ok (.aload_n 0, 1) := by decide +kernel
theorem dX13_hopeOf_1 : decode cX13_hopeOf 1 = .ok (.iload_n 1, 1) := by decide +kernel
theorem dX13_hopeOf_2 : decode cX13_hopeOf 2 = .ok (.iload_n 2, 1) := by decide +kernel
theorem dX13_hopeOf_3 : decode cX13_hopeOf 3 = .ok (.aload_n 0, 1) := by decide +kernel
theorem dX13_hopeOf_4 : decode cX13_hopeOf 4 = .ok (.getfield 37, 3) := by decide +kernel
theorem dX13_hopeOf_7 : decode cX13_hopeOf 7 = .ok (.iconst 2, 1) := by decide +kernel
theorem dX13_hopeOf_8 : decode cX13_hopeOf 8 = .ok (.iaload, 1) := by decide +kernel
theorem dX13_hopeOf_9 : decode cX13_hopeOf 9 = .ok (.bipush 60, 2) := by decide +kernel
theorem dX13_hopeOf_11 : decode cX13_hopeOf 11 = .ok (.invokevirtual 437, 3) := by decide +kernel
theorem dX13_hopeOf_14 : decode cX13_hopeOf 14 = .ok (.istore_n 3, 1) := by decide +kernel
theorem dX13_hopeOf_15 : decode cX13_hopeOf 15 = .ok (.iload_n 3, 1) := by decide +kernel
theorem dX13_hopeOf_16 : decode cX13_hopeOf 16 = .ok (.ifCond .ge 7, 3) := by decide +kernel
theorem dX13_hopeOf_19 : decode cX13_hopeOf 19 = .ok (.lconst 0, 1) := by decide +kernel
theorem dX13_hopeOf_20 : decode cX13_hopeOf 20 = .ok (.goto 7, 3) := by decide +kernel
theorem dX13_hopeOf_23 : decode cX13_hopeOf 23 = .ok (.aload_n 0, 1) := by decide +kernel
theorem dX13_hopeOf_24 : decode cX13_hopeOf 24 = .ok (.getfield 433, 3) := by decide +kernel
theorem dX13_hopeOf_27 : decode cX13_hopeOf 27 = .ok (.lreturn, 1) := by decide +kernel
def fX13_hopeOf (h : eg_H) (l0 : Nat) (l1 : Int32) (l2 : Int32) : Option (Int64 × eg_H) :=
  if eg_isO h 13 l0 then (
    (eg_gR h 13 18 l0).bind fun p1 =>
    (eg_aI h 100 p1 (2 : Int32)).bind fun v3 =>
    (fX13_goPair h l0 l1 l2 v3 (60 : Int32)).bind fun ⟨v6, h5⟩ =>
    if 0 ≤ v6 then
      ((eg_gL h5 13 41 l0).bind fun v9 =>
      some (v9, h5))
    else
      some ((0 : Int64), h5)) else none
theorem fX13_hopeOf_O {h : eg_H} {l0 : Nat} {l1 : Int32} {l2 : Int32} {rE : Int64} {hE : eg_H} (hF : fX13_hopeOf h l0 l1 l2 = some (rE, hE)) : eg_isO h 13 l0 := (eg_ifn hF).1
set_option maxRecDepth 20000 in
theorem mX13_hopeOf {h : eg_H} {l0 : Nat} {l1 : Int32} {l2 : Int32} {rE : Int64} {hE : eg_H} (hF : fX13_hopeOf h l0 l1 l2 = some (rE, hE)) : eg_Met yX13_hopeOf cX13_hopeOf 4 (some .long) 399 [.ref l0, .int l1, .int l2] h (some (.long rE)) hE := by
  refine eg_enter rfl (Nat.le_of_ble_eq_true rfl) ?_
  show eg_AW (RX13, cX13_hopeOf, 4, 399, none, "hopeOf", (some .long)) (eg_Zm (some (.long rE)) hE h) (eg_nc hE) (eg_ns hE) h 0 [(0, .ref l0), (1, .int l1), (2, .int l2)] [] h
  replace hF := (eg_ifn hF).2
  refine eg_aload_n (i := 0) 0 dX13_hopeOf_0 rfl rfl ?_
  refine eg_iload_n (i := 1) 1 dX13_hopeOf_1 rfl rfl ?_
  refine eg_iload_n (i := 2) 2 dX13_hopeOf_2 rfl rfl ?_
  refine eg_aload_n (i := 0) 0 dX13_hopeOf_3 rfl rfl ?_
  replace hF := eg_bind hF; obtain ⟨p1, e2, hF⟩ := hF
  refine eg_getR dX13_hopeOf_4 e2 (Nat.le_of_ble_eq_true rfl) (Nat.le_of_ble_eq_true rfl) rfl ew_1452 ?_
  refine eg_iconst (v := (2 : Int32)) dX13_hopeOf_7 (by decide) ?_
  replace hF := eg_bind hF; obtain ⟨v3, e4, hF⟩ := hF
  refine eg_iald dX13_hopeOf_8 e4 ?_
  refine eg_bipush (v := (60 : Int32)) dX13_hopeOf_9 (by decide) ?_
  replace hF := eg_bind hF; obtain ⟨⟨v6, h5⟩, e7, hF⟩ := hF
  refine eg_callV (c := 13) (n := 4) [.int l1, .int l2, .int v3, .int (60 : Int32)] dX13_hopeOf_11 (mX13_goPair e7) rfl (fX13_goPair_O e7) (Nat.le_of_ble_eq_true rfl) rfl ew_1973 ew_1975 ew_85 ew_110 ew_1976 hy_X13_goPair rfl (Nat.le_of_ble_eq_true rfl) (Nat.le_of_ble_eq_true rfl) (Nat.le_of_ble_eq_true rfl) ?_
  refine eg_istore_n (i := 3) [(3, .int v6), (0, .ref l0), (1, .int l1), (2, .int l2)] dX13_hopeOf_14 rfl (Nat.le_of_ble_eq_true rfl) rfl ?_
  refine eg_iload_n (i := 3) 0 dX13_hopeOf_15 rfl rfl ?_
  refine eg_if_ge 23 dX13_hopeOf_16 rfl (fun c8 => ?_) (fun c8 => ?_)
  · replace hF := eg_it c8 hF
    refine eg_aload_n (i := 0) 1 dX13_hopeOf_23 rfl rfl ?_
    replace hF := eg_bind hF; obtain ⟨v9, e10, hF⟩ := hF
    refine eg_getL dX13_hopeOf_24 e10 (Nat.le_of_ble_eq_true rfl) (Nat.le_of_ble_eq_true rfl) rfl ew_1475 ?_
    exact eg_lretE dX13_hopeOf_27 hF
  · replace hF := eg_if c8 hF
    refine eg_lconst (v := (0 : Int64)) dX13_hopeOf_19 (by decide) ?_
    refine eg_goto 27 dX13_hopeOf_20 rfl ?_
    exact eg_lretE dX13_hopeOf_27 hF
theorem dX13_far_0 : decode cX13_far 0 = .ok (.aload_n 0, 1) := by decide +kernel
theorem dX13_far_1 : decode cX13_far 1 = .ok (.iconst 0, 1) := by decide +kernel
theorem dX13_far_2 : decode cX13_far 2 = .ok (.putfield 148, 3) := by decide +kernel
theorem dX13_far_5 : decode cX13_far 5 = .ok (.aload_n 0, 1) := by decide +kernel
theorem dX13_far_6 : decode cX13_far 6 = .ok (.iload_n 1, 1) := by decide +kernel
theorem dX13_far_7 : decode cX13_far 7 = .ok (.invokevirtual 405, 3) := by decide +kernel
theorem dX13_far_10 : decode cX13_far 10 = .ok (.ifCond .eq 11, 3) := by decide +kernel
theorem dX13_far_13 : decode cX13_far 13 = .ok (.aload_n 0, 1) := by decide +kernel
theorem dX13_far_14 : decode cX13_far 14 = .ok (.iload_n 2, 1) := by decide +kernel
theorem dX13_far_15 : decode cX13_far 15 = .ok (.invokevirtual 408, 3) := by decide +kernel
theorem dX13_far_18 : decode cX13_far 18 = .ok (.ifCond .ne 5, 3) := by decide +kernel
theorem dX13_far_21 : decode cX13_far 21 = .ok (.iconst (-1), 1) := by decide +kernel
theorem dX13_far_22 : decode cX13_far 22 = .ok (.ireturn, 1) := by decide +kernel
theorem dX13_far_23 : decode cX13_far 23 = .ok (.aload_n 0, 1) := by decide +kernel
theorem dX13_far_24 : decode cX13_far 24 = .ok (.iload_n 1, 1) := by decide +kernel
theorem dX13_far_25 : decode cX13_far 25 = .ok (.iload_n 2, 1) := by decide +kernel
theorem dX13_far_26 : decode cX13_far 26 = .ok (.invokevirtual 440, 3) := by decide +kernel
theorem dX13_far_29 : decode cX13_far 29 = .ok (.pop2, 1) := by decide +kernel
theorem dX13_far_30 : decode cX13_far 30 = .ok (.aload_n 0, 1) := by decide +kernel
theorem dX13_far_31 : decode cX13_far 31 = .ok (.getfield 430, 3) := by decide +kernel
theorem dX13_far_34 : decode cX13_far 34 = .ok (.ireturn, 1) := by decide +kernel
def fX13_far (h : eg_H) (l0 : Nat) (l1 : Int32) (l2 : Int32) : Option (Int32 × eg_H) :=
  if eg_isO h 13 l0 then (
    (eg_pI h 13 0 l0 (0 : Int32)).bind fun h1 =>
    (fX13_isTwo h1 l0 l1).bind fun ⟨v4, h3⟩ =>
    if v4 = 0 then
      (some ((-1 : Int32), h3))
    else
      (fX13_isFrom h3 l0 l2).bind fun ⟨v8, h7⟩ =>
      if v8 = 0 then
        (some ((-1 : Int32), h7))
      else
        (fX13_hopeOf h7 l0 l1 l2).bind fun ⟨v12, h11⟩ =>
        (eg_gI h11 13 40 l0).bind fun v14 =>
        some (v14, h11)) else none
theorem fX13_far_O {h : eg_H} {l0 : Nat} {l1 : Int32} {l2 : Int32} {rE : Int32} {hE : eg_H} (hF : fX13_far h l0 l1 l2 = some (rE, hE)) : eg_isO h 13 l0 := (eg_ifn hF).1
set_option maxRecDepth 20000 in
theorem mX13_far {h : eg_H} {l0 : Nat} {l1 : Int32} {l2 : Int32} {rE : Int32} {hE : eg_H} (hF : fX13_far h l0 l1 l2 = some (rE, hE)) : eg_Met yX13_far cX13_far 3 (some .int) 400 [.ref l0, .int l1, .int l2] h (some (.int rE)) hE := by
  refine eg_enter rfl (Nat.le_of_ble_eq_true rfl) ?_
  show eg_AW (RX13, cX13_far, 3, 400, none, "far", (some .int)) (eg_Zm (some (.int rE)) hE h) (eg_nc hE) (eg_ns hE) h 0 [(0, .ref l0), (1, .int l1), (2, .int l2)] [] h
  replace hF := (eg_ifn hF).2
  refine eg_aload_n (i := 0) 0 dX13_far_0 rfl rfl ?_
  refine eg_iconst (v := (0 : Int32)) dX13_far_1 (by decide) ?_
  replace hF := eg_bind hF; obtain ⟨h1, e2, hF⟩ := hF
  refine eg_putI dX13_far_2 e2 (Nat.le_of_ble_eq_true rfl) (Nat.le_of_ble_eq_true rfl) rfl ew_1434 (Or.inl rfl) ?_
  refine eg_aload_n (i := 0) 0 dX13_far_5 rfl rfl ?_
  refine eg_iload_n (i := 1) 1 dX13_far_6 rfl rfl ?_
  replace hF := eg_bind hF; obtain ⟨⟨v4, h3⟩, e5, hF⟩ := hF
  refine eg_callV (c := 13) (n := 1) [.int l1] dX13_far_7 (mX13_isTwo e5) rfl (fX13_isTwo_O e5) (Nat.le_of_ble_eq_true rfl) rfl ew_1929 ew_1931 ew_76 ew_110 ew_1932 hy_X13_isTwo rfl (Nat.le_of_ble_eq_true rfl) (Nat.le_of_ble_eq_true rfl) (Nat.le_of_ble_eq_true rfl) ?_
  refine eg_if_eq 21 dX13_far_10 rfl (fun c6 => ?_) (fun c6 => ?_)
  · replace hF := eg_it c6 hF
    refine eg_iconst (v := (-1 : Int32)) dX13_far_21 (by decide) ?_
    exact eg_iretE dX13_far_22 hF
  · replace hF := eg_if c6 hF
    refine eg_aload_n (i := 0) 0 dX13_far_13 rfl rfl ?_
    refine eg_iload_n (i := 2) 2 dX13_far_14 rfl rfl ?_
    replace hF := eg_bind hF; obtain ⟨⟨v8, h7⟩, e9, hF⟩ := hF
    refine eg_callV (c := 13) (n := 1) [.int l2] dX13_far_15 (mX13_isFrom e9) rfl (fX13_isFrom_O e9) (Nat.le_of_ble_eq_true rfl) rfl ew_1933 ew_1935 ew_77 ew_110 ew_1936 hy_X13_isFrom rfl (Nat.le_of_ble_eq_true rfl) (Nat.le_of_ble_eq_true rfl) (Nat.le_of_ble_eq_true rfl) ?_
    refine eg_if_ne 23 dX13_far_18 rfl (fun c10 => ?_) (fun c10 => ?_)
    · replace hF := eg_it c10 hF
      refine eg_iconst (v := (-1 : Int32)) dX13_far_21 (by decide) ?_
      exact eg_iretE dX13_far_22 hF
    · replace hF := eg_if c10 hF
      refine eg_aload_n (i := 0) 0 dX13_far_23 rfl rfl ?_
      refine eg_iload_n (i := 1) 1 dX13_far_24 rfl rfl ?_
      refine eg_iload_n (i := 2) 2 dX13_far_25 rfl rfl ?_
      replace hF := eg_bind hF; obtain ⟨⟨v12, h11⟩, e13, hF⟩ := hF
      refine eg_callV (c := 13) (n := 2) [.int l1, .int l2] dX13_far_26 (mX13_hopeOf e13) rfl (fX13_hopeOf_O e13) (Nat.le_of_ble_eq_true rfl) rfl ew_1982 ew_1984 ew_86 ew_110 ew_1985 hy_X13_hopeOf rfl (Nat.le_of_ble_eq_true rfl) (Nat.le_of_ble_eq_true rfl) (Nat.le_of_ble_eq_true rfl) ?_
      refine eg_pop2 dX13_far_29 rfl ?_
      refine eg_aload_n (i := 0) 0 dX13_far_30 rfl rfl ?_
      replace hF := eg_bind hF; obtain ⟨v14, e15, hF⟩ := hF
      refine eg_getI dX13_far_31 e15 (Nat.le_of_ble_eq_true rfl) (Nat.le_of_ble_eq_true rfl) rfl ew_1474 ?_
      exact eg_iretE dX13_far_34 hF
theorem dX13_hope_0 : decode cX13_hope 0 = .ok (.aload_n 0, 1) := by decide +kernel
theorem dX13_hope_1 : decode cX13_hope 1 = .ok (.iconst 0, 1) := by decide +kernel
theorem dX13_hope_2 : decode cX13_hope 2 = .ok (.putfield 148, 3) := by decide +kernel
theorem dX13_hope_5 : decode cX13_hope 5 = .ok (.aload_n 0, 1) := by decide +kernel
theorem dX13_hope_6 : decode cX13_hope 6 = .ok (.iload_n 1, 1) := by decide +kernel
theorem dX13_hope_7 : decode cX13_hope 7 = .ok (.invokevirtual 405, 3) := by decide +kernel
theorem dX13_hope_10 : decode cX13_hope 10 = .ok (.ifCond .eq 20, 3) := by decide +kernel
theorem dX13_hope_13 : decode cX13_hope 13 = .ok (.aload_n 0, 1) := by decide +kernel
theorem dX13_hope_14 : decode cX13_hope 14 = .ok (.iload_n 2, 1) := by decide +kernel
theorem dX13_hope_15 : decode cX13_hope 15 = .ok (.invokevirtual 408, 3) := by decide +kernel
theorem dX13_hope_18 : decode cX13_hope 18 = .ok (.ifCond .eq 12, 3) := by decide +kernel
theorem dX13_hope_21 : decode cX13_hope 21 = .ok (.aload_n 0, 1) := by decide +kernel
theorem dX13_hope_22 : decode cX13_hope 22 = .ok (.iload_n 1, 1) := by decide +kernel
theorem dX13_hope_23 : decode cX13_hope 23 = .ok (.iload_n 2, 1) := by decide +kernel
theorem dX13_hope_24 : decode cX13_hope 24 = .ok (.invokevirtual 440, 3) := by decide +kernel
theorem dX13_hope_27 : decode cX13_hope 27 = .ok (.goto 6, 3) := by decide +kernel
theorem dX13_hope_30 : decode cX13_hope 30 = .ok (.ldc2_w 444, 3) := by decide +kernel
theorem dX13_hope_33 : decode cX13_hope 33 = .ok (.lreturn, 1) := by decide +kernel
def fX13_hope (h : eg_H) (l0 : Nat) (l1 : Int32) (l2 : Int32) : Option (Int64 × eg_H) :=
  if eg_isO h 13 l0 then (
    (eg_pI h 13 0 l0 (0 : Int32)).bind fun h1 =>
    (fX13_isTwo h1 l0 l1).bind fun ⟨v4, h3⟩ =>
    if v4 = 0 then
      (some ((-1 : Int64), h3))
    else
      (fX13_isFrom h3 l0 l2).bind fun ⟨v8, h7⟩ =>
      if v8 = 0 then
        (some ((-1 : Int64), h7))
      else
        (fX13_hopeOf h7 l0 l1 l2).bind fun ⟨v12, h11⟩ =>
        some (v12, h11)) else none
theorem fX13_hope_O {h : eg_H} {l0 : Nat} {l1 : Int32} {l2 : Int32} {rE : Int64} {hE : eg_H} (hF : fX13_hope h l0 l1 l2 = some (rE, hE)) : eg_isO h 13 l0 := (eg_ifn hF).1
set_option maxRecDepth 20000 in
theorem mX13_hope {h : eg_H} {l0 : Nat} {l1 : Int32} {l2 : Int32} {rE : Int64} {hE : eg_H} (hF : fX13_hope h l0 l1 l2 = some (rE, hE)) : eg_Met yX13_hope cX13_hope 3 (some .long) 400 [.ref l0, .int l1, .int l2] h (some (.long rE)) hE := by
  refine eg_enter rfl (Nat.le_of_ble_eq_true rfl) ?_
  show eg_AW (RX13, cX13_hope, 3, 400, none, "hope", (some .long)) (eg_Zm (some (.long rE)) hE h) (eg_nc hE) (eg_ns hE) h 0 [(0, .ref l0), (1, .int l1), (2, .int l2)] [] h
  replace hF := (eg_ifn hF).2
  refine eg_aload_n (i := 0) 0 dX13_hope_0 rfl rfl ?_
  refine eg_iconst (v := (0 : Int32)) dX13_hope_1 (by decide) ?_
  replace hF := eg_bind hF; obtain ⟨h1, e2, hF⟩ := hF
  refine eg_putI dX13_hope_2 e2 (Nat.le_of_ble_eq_true rfl) (Nat.le_of_ble_eq_true rfl) rfl ew_1434 (Or.inl rfl) ?_
  refine eg_aload_n (i := 0) 0 dX13_hope_5 rfl rfl ?_
  refine eg_iload_n (i := 1) 1 dX13_hope_6 rfl rfl ?_
  replace hF := eg_bind hF; obtain ⟨⟨v4, h3⟩, e5, hF⟩ := hF
  refine eg_callV (c := 13) (n := 1) [.int l1] dX13_hope_7 (mX13_isTwo e5) rfl (fX13_isTwo_O e5) (Nat.le_of_ble_eq_true rfl) rfl ew_1929 ew_1931 ew_76 ew_110 ew_1932 hy_X13_isTwo rfl (Nat.le_of_ble_eq_true rfl) (Nat.le_of_ble_eq_true rfl) (Nat.le_of_ble_eq_true rfl) ?_
  refine eg_if_eq 30 dX13_hope_10 rfl (fun c6 => ?_) (fun c6 => ?_)
  · replace hF := eg_it c6 hF
    refine eg_ldc2 (v := (-1 : Int64)) dX13_hope_30 ew_1990 ?_
    exact eg_lretE dX13_hope_33 hF
  · replace hF := eg_if c6 hF
    refine eg_aload_n (i := 0) 0 dX13_hope_13 rfl rfl ?_
    refine eg_iload_n (i := 2) 2 dX13_hope_14 rfl rfl ?_
    replace hF := eg_bind hF; obtain ⟨⟨v8, h7⟩, e9, hF⟩ := hF
    refine eg_callV (c := 13) (n := 1) [.int l2] dX13_hope_15 (mX13_isFrom e9) rfl (fX13_isFrom_O e9) (Nat.le_of_ble_eq_true rfl) rfl ew_1933 ew_1935 ew_77 ew_110 ew_1936 hy_X13_isFrom rfl (Nat.le_of_ble_eq_true rfl) (Nat.le_of_ble_eq_true rfl) (Nat.le_of_ble_eq_true rfl) ?_
    refine eg_if_eq 30 dX13_hope_18 rfl (fun c10 => ?_) (fun c10 => ?_)
    · replace hF := eg_it c10 hF
      refine eg_ldc2 (v := (-1 : Int64)) dX13_hope_30 ew_1990 ?_
      exact eg_lretE dX13_hope_33 hF
    · replace hF := eg_if c10 hF
      refine eg_aload_n (i := 0) 0 dX13_hope_21 rfl rfl ?_
      refine eg_iload_n (i := 1) 1 dX13_hope_22 rfl rfl ?_
      refine eg_iload_n (i := 2) 2 dX13_hope_23 rfl rfl ?_
      replace hF := eg_bind hF; obtain ⟨⟨v12, h11⟩, e13, hF⟩ := hF
      refine eg_callV (c := 13) (n := 2) [.int l1, .int l2] dX13_hope_24 (mX13_hopeOf e13) rfl (fX13_hopeOf_O e13) (Nat.le_of_ble_eq_true rfl) rfl ew_1982 ew_1984 ew_86 ew_110 ew_1985 hy_X13_hopeOf rfl (Nat.le_of_ble_eq_true rfl) (Nat.le_of_ble_eq_true rfl) (Nat.le_of_ble_eq_true rfl) ?_
      refine eg_goto 33 dX13_hope_27 rfl ?_
      exact eg_lretE dX13_hope_33 hF
theorem dX13_turned_0 : decode cX13_turned 0 = .ok (.iload_n 0, 1) := by decide +kernel
theorem dX13_turned_1 : decode cX13_turned 1 = .ok (.bipush 10, 2) := by decide +kernel
theorem dX13_turned_3 : decode cX13_turned 3 = .ok (.irem, 1) := by decide +kernel
theorem dX13_turned_4 : decode cX13_turned 4 = .ok (.bipush 10, 2) := by decide +kernel
theorem dX13_turned_6 : decode cX13_turned 6 = .ok (.imul, 1) := by decide +kernel
theorem dX13_turned_7 : decode cX13_turned 7 = .ok (.iload_n 0, 1) := by decide +kernel
theorem dX13_turned_8 : decode cX13_turned 8 = .ok (.bipush 10, 2) := by decide +kernel
theorem dX13_turned_10 : decode cX13_turned 10 = .ok (.idiv, 1) := by decide +kernel
theorem dX13_turned_11 : decode cX13_turned 11 = .ok (.iadd, 1) := by decide +kernel
theorem dX13_turned_12 : decode cX13_turned 12 = .ok (.ireturn, 1) := by decide +kernel
def fX13_turned (h : eg_H) (l0 : Int32) : Option (Int32 × eg_H) :=
  some ((((l0 % (10 : Int32)) * (10 : Int32)) + (l0 / (10 : Int32))), h)
set_option maxRecDepth 20000 in
theorem mX13_turned {h : eg_H} {l0 : Int32} {rE : Int32} {hE : eg_H} (hF : fX13_turned h l0 = some (rE, hE)) : eg_Met yX13_turned cX13_turned 1 (some .int) 1 [.int l0] h (some (.int rE)) hE := by
  refine eg_enter rfl (Nat.le_of_ble_eq_true rfl) ?_
  show eg_AW (RX13, cX13_turned, 1, 1, none, "turned", (some .int)) (eg_Zm (some (.int rE)) hE h) (eg_nc hE) (eg_ns hE) h 0 [(0, .int l0)] [] h
  refine eg_iload_n (i := 0) 0 dX13_turned_0 rfl rfl ?_
  refine eg_bipush (v := (10 : Int32)) dX13_turned_1 (by decide) ?_
  refine eg_irem dX13_turned_3 (by decide) ?_
  refine eg_bipush (v := (10 : Int32)) dX13_turned_4 (by decide) ?_
  refine eg_imul dX13_turned_6 ?_
  refine eg_iload_n (i := 0) 0 dX13_turned_7 rfl rfl ?_
  refine eg_bipush (v := (10 : Int32)) dX13_turned_8 (by decide) ?_
  refine eg_idiv dX13_turned_10 (by decide) ?_
  refine eg_iadd dX13_turned_11 ?_
  exact eg_iretE dX13_turned_12 hF
