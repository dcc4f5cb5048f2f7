theorem dX12_crownOf_0 : decode cX12_crownOf 0 = .ok (.iload_n 1, 1) := by decide +kernel
theorem dX12_crownOf_1 : decode cX12_crownOf 1 = .ok (.ifCond .lt 12, 3) := by decide +kernel
theorem dX12_crownOf_4 : decode cX12_crownOf 4 = .ok (.iload_n 1, 1) := by decide +kernel
theorem dX12_crownOf_5 : decode cX12_crownOf 5 = .ok (.aload_n 0, 1) := by decide +kernel
theorem dX12_crownOf_6 : decode cX12_crownOf 6 = .ok (.getfield 107, 3) := by decide +kernel
theorem dX12_crownOf_9 : decode cX12_crownOf 9 = .ok (.arraylength, 1) := by decide +kernel
theorem dX12_crownOf_10 : decode cX12_crownOf 10 = .ok (.if_icmp .lt 5, 3) := by decide +kernel
theorem dX12_crownOf_13 : decode cX12_crownOf 13 = .ok (.lconst 0, 1) := by decide +kernel
theorem dX12_crownOf_14 : decode cX12_crownOf 14 = .ok (.lreturn, 1) := by decide +kernel
theorem dX12_crownOf_15 : decode cX12_crownOf 15 = .ok (.aload_n 0, 1) := by decide +kernel
theorem dX12_crownOf_16 : decode cX12_crownOf 16 = .ok (.getfield 107, 3) := by decide +kernel
theorem dX12_crownOf_19 : decode cX12_crownOf 19 = .ok (.iload_n 1, 1) := by decide +kernel
theorem dX12_crownOf_20 : decode cX12_crownOf 20 = .ok (.aaload, 1) := by decide +kernel
theorem dX12_crownOf_21 : decode cX12_crownOf 21 = .ok (.iload_n 3, 1) := by decide +kernel
theorem dX12_crownOf_22 : decode cX12_crownOf 22 = .ok (.invokevirtual 395, 3) := by decide +kernel
theorem dX12_crownOf_25 : decode cX12_crownOf 25 = .ok (.lstore 4, 2) := by decide +kernel
theorem dX12_crownOf_27 : decode cX12_crownOf 27 = .ok (.iconst 0, 1) := by decide +kernel
theorem dX12_crownOf_28 : decode cX12_crownOf 28 = .ok (.istore 6, 2) := by decide +kernel
theorem dX12_crownOf_30 : decode cX12_crownOf 30 = .ok (.iload 6, 2) := by decide +kernel
theorem dX12_crownOf_32 : decode cX12_crownOf 32 = .ok (.iload_n 2, 1) := by decide +kernel
theorem dX12_crownOf_33 : decode cX12_crownOf 33 = .ok (.if_icmp .ge 45, 3) := by decide +kernel
theorem dX12_crownOf_36 : decode cX12_crownOf 36 = .ok (.iload 6, 2) := by decide +kernel
theorem dX12_crownOf_38 : decode cX12_crownOf 38 = .ok (.aload_n 0, 1) := by decide +kernel
theorem dX12_crownOf_39 : decode cX12_crownOf 39 = .ok (.getfield 107, 3) := by decide +kernel
theorem dX12_crownOf_42 : decode cX12_crownOf 42 = .ok (.arraylength, 1) := by decide +kernel
theorem dX12_crownOf_43 : decode cX12_crownOf 43 = .ok (.if_icmp .ge 35, 3) := by decide +kernel
theorem dX12_crownOf_46 : decode cX12_crownOf 46 = .ok (.iload 6, 2) := by decide +kernel
theorem dX12_crownOf_48 : decode cX12_crownOf 48 = .ok (.iload_n 1, 1) := by decide +kernel
theorem dX12_crownOf_49 : decode cX12_crownOf 49 = .ok (.if_icmp .eq 23, 3) := by decide +kernel
theorem dX12_crownOf_52 : decode cX12_crownOf 52 = .ok (.lload 4, 2) := by decide +kernel
theorem dX12_crownOf_54 : decode cX12_crownOf 54 = .ok (.aload_n 0, 1) := by decide +kernel
theorem dX12_crownOf_55 : decode cX12_crownOf 55 = .ok (.getfield 107, 3) := by decide +kernel
theorem dX12_crownOf_58 : decode cX12_crownOf 58 = .ok (.iload 6, 2) := by decide +kernel
theorem dX12_crownOf_60 : decode cX12_crownOf 60 = .ok (.aaload, 1) := by decide +kernel
theorem dX12_crownOf_61 : decode cX12_crownOf 61 = .ok (.iload_n 3, 1) := by decide +kernel
theorem dX12_crownOf_62 : decode cX12_crownOf 62 = .ok (.invokevirtual 391, 3) := by decide +kernel
theorem dX12_crownOf_65 : decode cX12_crownOf 65 = .ok (.lmul, 1) := by decide +kernel
theorem dX12_crownOf_66 : decode cX12_crownOf 66 = .ok (.ldc2_w 398, 3) := by decide +kernel
theorem dX12_crownOf_69 : decode cX12_crownOf 69 = .ok (.ldiv, 1) := by decide +kernel
theorem dX12_crownOf_70 : decode cX12_crownOf 70 = .ok (.lstore 4, 2) := by decide +kernel
theorem dX12_crownOf_72 : decode cX12_crownOf 72 = .ok (.iinc 6 1, 3) := by decide +kernel
theorem dX12_crownOf_75 : decode cX12_crownOf 75 = .ok (.goto (-45), 3) := by decide +kernel
theorem dX12_crownOf_78 : decode cX12_crownOf 78 = .ok (.lload 4, 2) := by decide +kernel
theorem dX12_crownOf_80 : decode cX12_crownOf 80 = .ok (.lreturn, 1) := by decide +kernel
def fX12_crownOf_L30 : Nat → eg_H → Nat → Int32 → Int32 → Int32 → Int64 → Int32 → Option (Int64 × eg_H)
  | 0, _, _, _, _, _, _, _ => none
  | n + 1, h, l0, l1, l2, l3, l4, l6 =>
    if l2 ≤ l6 then
      (some (l4, h))
    else
      (eg_gR h 12 17 l0).bind fun p2 =>
      (eg_al h p2).bind fun v4 =>
      if v4 ≤ l6 then
        (some (l4, h))
      else
        if l6 = l1 then
          (fX12_crownOf_L30 n h l0 l1 l2 l3 l4 (l6 + (1 : Int32)))
        else
          (eg_gR h 12 17 l0).bind fun p8 =>
          (eg_aR h 112 p8 l6).bind fun p10 =>
          (fX2_fewerThan h p10 l3).bind fun ⟨v13, h12⟩ =>
          (some (((l4 * v13) / (1000000000 : Int64)))).bind fun v15 =>
          fX12_crownOf_L30 n h12 l0 l1 l2 l3 v15 (l6 + (1 : Int32))
set_option maxRecDepth 20000 in
theorem fX12_crownOf_L30_ok {h0 : eg_H} {Z : eg_C → State → Prop} {N S : Nat} : ∀ (n : Nat) (h : eg_H) (l0 : Nat) (l1 : Int32) (l2 : Int32) (l3 : Int32) (l4 : Int64) (l6 : Int32) (eE : Int64 × eg_H), fX12_crownOf_L30 n h l0 l1 l2 l3 l4 l6 = some eE → (hk0 : ∀ (l4 : Int64) (h : eg_H), eE = (l4, h) → eg_AW (RX12, cX12_crownOf, 7, 3, none, "crownOf", (some .long)) Z N S h0 78 [(4, .long l4)] [] h) → eg_AW (RX12, cX12_crownOf, 7, 3, none, "crownOf", (some .long)) Z N S h0 30 [(0, .ref l0), (1, .int l1), (2, .int l2), (3, .int l3), (4, .long l4), (6, .int l6)] [] h := by
  intro n
  induction n with
  | zero => intro h l0 l1 l2 l3 l4 l6 eE hF; exact absurd hF (by intro q; cases q)
  | succ n ih =>
    intro h l0 l1 l2 l3 l4 l6 eE hF hk0
    have hrec := fun (h' : eg_H) (l0 : Nat) (l1 : Int32) (l2 : Int32) (l3 : Int32) (l4 : Int64) (l6 : Int32) hq => ih h' l0 l1 l2 l3 l4 l6 eE hq hk0
    refine eg_iload (i := 6) 5 dX12_crownOf_30 rfl ?_
    refine eg_iload_n (i := 2) 2 dX12_crownOf_32 rfl rfl ?_
    refine eg_ic_ge 78 dX12_crownOf_33 rfl (fun c1 => ?_) (fun c1 => ?_)
    · replace hF := eg_it c1 hF
      exact eg_sub [4] [(4, .long l4)] rfl (hk0 l4 h (Option.some.inj hF).symm)
    · replace hF := eg_if c1 hF
      refine eg_iload (i := 6) 5 dX12_crownOf_36 rfl ?_
      refine eg_aload_n (i := 0) 0 dX12_crownOf_38 rfl rfl ?_
      replace hF := eg_bind hF; obtain ⟨p2, e3, hF⟩ := hF
      refine eg_getR dX12_crownOf_39 e3 (Nat.le_of_ble_eq_true rfl) (Nat.le_of_ble_eq_true rfl) rfl ew_373 ?_
      replace hF := eg_bind hF; obtain ⟨v4, e5, hF⟩ := hF
      refine eg_alen dX12_crownOf_42 e5 ?_
      refine eg_ic_ge 78 dX12_crownOf_43 rfl (fun c6 => ?_) (fun c6 => ?_)
      · replace hF := eg_it c6 hF
        exact eg_sub [4] [(4, .long l4)] rfl (hk0 l4 h (Option.some.inj hF).symm)
      · replace hF := eg_if c6 hF
        refine eg_iload (i := 6) 5 dX12_crownOf_46 rfl ?_
        refine eg_iload_n (i := 1) 1 dX12_crownOf_48 rfl rfl ?_
        refine eg_ic_eq 72 dX12_crownOf_49 rfl (fun c7 => ?_) (fun c7 => ?_)
        · replace hF := eg_it c7 hF
          refine eg_iinc (i := 6) (v := (l6 + (1 : Int32))) 5 [(6, .int (l6 + (1 : Int32))), (0, .ref l0), (1, .int l1), (2, .int l2), (3, .int l3), (4, .long l4)] dX12_crownOf_72 rfl rfl (Nat.le_of_ble_eq_true rfl) rfl ?_
          refine eg_goto 30 dX12_crownOf_75 rfl ?_
          exact eg_sub [1, 2, 3, 4, 5, 0] [(0, .ref l0), (1, .int l1), (2, .int l2), (3, .int l3), (4, .long l4), (6, .int (l6 + (1 : Int32)))] rfl (hrec h l0 l1 l2 l3 l4 (l6 + (1 : Int32)) hF)
        · replace hF := eg_if c7 hF
          refine eg_lload (i := 4) 4 dX12_crownOf_52 rfl ?_
          refine eg_aload_n (i := 0) 0 dX12_crownOf_54 rfl rfl ?_
          replace hF := eg_bind hF; obtain ⟨p8, e9, hF⟩ := hF
          refine eg_getR dX12_crownOf_55 e9 (Nat.le_of_ble_eq_true rfl) (Nat.le_of_ble_eq_true rfl) rfl ew_373 ?_
          refine eg_iload (i := 6) 5 dX12_crownOf_58 rfl ?_
          replace hF := eg_bind hF; obtain ⟨p10, e11, hF⟩ := hF
          refine eg_aaldr (c := 2) dX12_crownOf_60 e11 (Nat.le_of_ble_eq_true rfl) (Nat.le_of_ble_eq_true rfl) ?_
          refine eg_iload_n (i := 3) 3 dX12_crownOf_61 rfl rfl ?_
          replace hF := eg_bind hF; obtain ⟨⟨v13, h12⟩, e14, hF⟩ := hF
          refine eg_callV (c := 2) (n := 1) [.int l3] dX12_crownOf_62 (mX2_fewerThan e14) rfl (fX2_fewerThan_O e14) (Nat.le_of_ble_eq_true rfl) rfl ew_1127 ew_1128 ew_1129 ew_108 ew_1130 hy_X2_fewerThan rfl (Nat.le_of_ble_eq_true rfl) (Nat.le_of_ble_eq_true rfl) (Nat.le_of_ble_eq_true rfl) ?_
          refine eg_lmul dX12_crownOf_65 ?_
          refine eg_ldc2 (v := (1000000000 : Int64)) dX12_crownOf_66 ew_1135 ?_
          refine eg_ldiv dX12_crownOf_69 (by decide) ?_
          replace hF := eg_bind hF; obtain ⟨v15, e16, hF⟩ := hF
          replace e16 := Option.some.inj e16
          rw [e16]
          refine eg_lstore (i := 4) [(4, .long v15), (0, .ref l0), (1, .int l1), (2, .int l2), (3, .int l3), (6, .int l6)] dX12_crownOf_70 (Nat.le_of_ble_eq_true rfl) rfl ?_
          refine eg_iinc (i := 6) (v := (l6 + (1 : Int32))) 5 [(6, .int (l6 + (1 : Int32))), (4, .long v15), (0, .ref l0), (1, .int l1), (2, .int l2), (3, .int l3)] dX12_crownOf_72 rfl rfl (Nat.le_of_ble_eq_true rfl) rfl ?_
          refine eg_goto 30 dX12_crownOf_75 rfl ?_
          exact eg_sub [2, 3, 4, 5, 1, 0] [(0, .ref l0), (1, .int l1), (2, .int l2), (3, .int l3), (4, .long v15), (6, .int (l6 + (1 : Int32)))] rfl (hrec h12 l0 l1 l2 l3 v15 (l6 + (1 : Int32)) hF)
def fX12_crownOf (h : eg_H) (l0 : Nat) (l1 : Int32) (l2 : Int32) (l3 : Int32) : Option (Int64 × eg_H) :=
  if eg_isO h 12 l0 then (
    if l1 < 0 then
      (some ((0 : Int64), h))
    else
      (eg_gR h 12 17 l0).bind fun p2 =>
      (eg_al h p2).bind fun v4 =>
      if l1 < v4 then
        ((eg_gR h 12 17 l0).bind fun p7 =>
        (eg_aR h 112 p7 l1).bind fun p9 =>
        (fX2_just h p9 l3).bind fun ⟨v12, h11⟩ =>
        (fX12_crownOf_L30 eg_F h11 l0 l1 l2 l3 v12 (0 : Int32)).bind fun e =>
        match e with
        | (v16, h17) =>
          some (v16, h17))
      else
        some ((0 : Int64), h)) else none
theorem fX12_crownOf_O {h : eg_H} {l0 : Nat} {l1 : Int32} {l2 : Int32} {l3 : Int32} {rE : Int64} {hE : eg_H} (hF : fX12_crownOf h l0 l1 l2 l3 = some (rE, hE)) : eg_isO h 12 l0 := (eg_ifn hF).1
set_option maxRecDepth 20000 in
theorem mX12_crownOf {h : eg_H} {l0 : Nat} {l1 : Int32} {l2 : Int32} {l3 : Int32} {rE : Int64} {hE : eg_H} (hF : fX12_crownOf h l0 l1 l2 l3 = some (rE, hE)) : eg_Met yX12_crownOf cX12_crownOf 7 (some .long) 3 [.ref l0, .int l1, .int l2, .int l3] h (some (.long rE)) hE := by
  refine eg_enter rfl (Nat.le_of_ble_eq_true rfl) ?_
  show eg_AW (RX12, cX12_crownOf, 7, 3, none, "crownOf", (some .long)) (eg_Zm (some (.long rE)) hE h) (eg_nc hE) (eg_ns hE) h 0 [(0, .ref l0), (1, .int l1), (2, .int l2), (3, .int l3)] [] h
  replace hF := (eg_ifn hF).2
  refine eg_iload_n (i := 1) 1 dX12_crownOf_0 rfl rfl ?_
  refine eg_if_lt 13 dX12_crownOf_1 rfl (fun c1 => ?_) (fun c1 => ?_)
  · replace hF := eg_it c1 hF
    refine eg_lconst (v := (0 : Int64)) dX12_crownOf_13 (by decide) ?_
    exact eg_lretE dX12_crownOf_14 hF
  · replace hF := eg_if c1 hF
    refine eg_iload_n (i := 1) 1 dX12_crownOf_4 rfl rfl ?_
    refine eg_aload_n (i := 0) 0 dX12_crownOf_5 rfl rfl ?_
    replace hF := eg_bind hF; obtain ⟨p2, e3, hF⟩ := hF
    refine eg_getR dX12_crownOf_6 e3 (Nat.le_of_ble_eq_true rfl) (Nat.le_of_ble_eq_true rfl) rfl ew_373 ?_
    replace hF := eg_bind hF; obtain ⟨v4, e5, hF⟩ := hF
    refine eg_alen dX12_crownOf_9 e5 ?_
    refine eg_ic_lt 15 dX12_crownOf_10 rfl (fun c6 => ?_) (fun c6 => ?_)
    · replace hF := eg_it c6 hF
      refine eg_aload_n (i := 0) 0 dX12_crownOf_15 rfl rfl ?_
      replace hF := eg_bind hF; obtain ⟨p7, e8, hF⟩ := hF
      refine eg_getR dX12_crownOf_16 e8 (Nat.le_of_ble_eq_true rfl) (Nat.le_of_ble_eq_true rfl) rfl ew_373 ?_
      refine eg_iload_n (i := 1) 1 dX12_crownOf_19 rfl rfl ?_
      replace hF := eg_bind hF; obtain ⟨p9, e10, hF⟩ := hF
      refine eg_aaldr (c := 2) dX12_crownOf_20 e10 (Nat.le_of_ble_eq_true rfl) (Nat.le_of_ble_eq_true rfl) ?_
      refine eg_iload_n (i := 3) 3 dX12_crownOf_21 rfl rfl ?_
      replace hF := eg_bind hF; obtain ⟨⟨v12, h11⟩, e13, hF⟩ := hF
      refine eg_callV (c := 2) (n := 1) [.int l3] dX12_crownOf_22 (mX2_just e13) rfl (fX2_just_O e13) (Nat.le_of_ble_eq_true rfl) rfl ew_1131 ew_1132 ew_1133 ew_108 ew_1134 hy_X2_just rfl (Nat.le_of_ble_eq_true rfl) (Nat.le_of_ble_eq_true rfl) (Nat.le_of_ble_eq_true rfl) ?_
      refine eg_lstore (i := 4) [(4, .long v12), (0, .ref l0), (1, .int l1), (2, .int l2), (3, .int l3)] dX12_crownOf_25 (Nat.le_of_ble_eq_true rfl) rfl ?_
      refine eg_iconst (v := (0 : Int32)) dX12_crownOf_27 (by decide) ?_
      refine eg_istore (i := 6) [(6, .int (0 : Int32)), (4, .long v12), (0, .ref l0), (1, .int l1), (2, .int l2), (3, .int l3)] dX12_crownOf_28 (Nat.le_of_ble_eq_true rfl) rfl ?_
      replace hF := eg_bind hF; obtain ⟨x15, e14, hF⟩ := hF
      refine eg_sub [2, 3, 4, 5, 1, 0] [(0, .ref l0), (1, .int l1), (2, .int l2), (3, .int l3), (4, .long v12), (6, .int (0 : Int32))] rfl (fX12_crownOf_L30_ok eg_F h11 l0 l1 l2 l3 v12 (0 : Int32) x15 e14 ?_)
      · intro v16 h17 e18
        subst e18
        refine eg_lload (i := 4) 0 dX12_crownOf_78 rfl ?_
        exact eg_lretE dX12_crownOf_80 hF
    · replace hF := eg_if c6 hF
      refine eg_lconst (v := (0 : Int64)) dX12_crownOf_13 (by decide) ?_
      exact eg_lretE dX12_crownOf_14 hF
theorem dX12_crown_0 : decode cX12_crown 0 = .ok (.aload_n 0, 1) := by decide +kernel
theorem dX12_crown_1 : decode cX12_crown 1 = .ok (.getfield 115, 3) := by decide +kernel
theorem dX12_crown_4 : decode cX12_crown 4 = .ok (.iload_n 1, 1) := by decide +kernel
theorem dX12_crown_5 : decode cX12_crown 5 = .ok (.aload_n 0, 1) := by decide +kernel
theorem dX12_crown_6 : decode cX12_crown 6 = .ok (.getfield 35, 3) := by decide +kernel
theorem dX12_crown_9 : decode cX12_crown 9 = .ok (.invokevirtual 159, 3) := by decide +kernel
theorem dX12_crown_12 : decode cX12_crown 12 = .ok (.invokevirtual 400, 3) := by decide +kernel
theorem dX12_crown_15 : decode cX12_crown 15 = .ok (.istore_n 3, 1) := by decide +kernel
theorem dX12_crown_16 : decode cX12_crown 16 = .ok (.aload_n 0, 1) := by decide +kernel
theorem dX12_crown_17 : decode cX12_crown 17 = .ok (.getfield 115, 3) := by decide +kernel
theorem dX12_crown_20 : decode cX12_crown 20 = .ok (.iload_n 2, 1) := by decide +kernel
theorem dX12_crown_21 : decode cX12_crown 21 = .ok (.iload_n 3, 1) := by decide +kernel
theorem dX12_crown_22 : decode cX12_crown 22 = .ok (.invokevirtual 425, 3) := by decide +kernel
theorem dX12_crown_25 : decode cX12_crown 25 = .ok (.istore 4, 2) := by decide +kernel
theorem dX12_crown_27 : decode cX12_crown 27 = .ok (.iload_n 3, 1) := by decide +kernel
theorem dX12_crown_28 : decode cX12_crown 28 = .ok (.ifCond .eq 19, 3) := by decide +kernel
theorem dX12_crown_31 : decode cX12_crown 31 = .ok (.iload 4, 2) := by decide +kernel
theorem dX12_crown_33 : decode cX12_crown 33 = .ok (.iconst (-1), 1) := by decide +kernel
theorem dX12_crown_34 : decode cX12_crown 34 = .ok (.if_icmp .eq 13, 3) := by decide +kernel
theorem dX12_crown_37 : decode cX12_crown 37 = .ok (.aload_n 0, 1) := by decide +kernel
theorem dX12_crown_38 : decode cX12_crown 38 = .ok (.getfield 35, 3) := by decide +kernel
theorem dX12_crown_41 : decode cX12_crown 41 = .ok (.invokevirtual 287, 3) := by decide +kernel
theorem dX12_crown_44 : decode cX12_crown 44 = .ok (.ifCond .gt 7, 3) := by decide +kernel
theorem dX12_crown_47 : decode cX12_crown 47 = .ok (.ldc2_w 314, 3) := by decide +kernel
theorem dX12_crown_50 : decode cX12_crown 50 = .ok (.lreturn, 1) := by decide +kernel
theorem dX12_crown_51 : decode cX12_crown 51 = .ok (.iconst 0, 1) := by decide +kernel
theorem dX12_crown_52 : decode cX12_crown 52 = .ok (.istore 5, 2) := by decide +kernel
theorem dX12_crown_54 : decode cX12_crown 54 = .ok (.iload 5, 2) := by decide +kernel
theorem dX12_crown_56 : decode cX12_crown 56 = .ok (.iload_n 3, 1) := by decide +kernel
theorem dX12_crown_57 : decode cX12_crown 57 = .ok (.if_icmp .ge 38, 3) := by decide +kernel
theorem dX12_crown_60 : decode cX12_crown 60 = .ok (.aload_n 0, 1) := by decide +kernel
theorem dX12_crown_61 : decode cX12_crown 61 = .ok (.iload 5, 2) := by decide +kernel
theorem dX12_crown_63 : decode cX12_crown 63 = .ok (.aload_n 0, 1) := by decide +kernel
theorem dX12_crown_64 : decode cX12_crown 64 = .ok (.getfield 115, 3) := by decide +kernel
theorem dX12_crown_67 : decode cX12_crown 67 = .ok (.iload 5, 2) := by decide +kernel
theorem dX12_crown_69 : decode cX12_crown 69 = .ok (.invokevirtual 418, 3) := by decide +kernel
theorem dX12_crown_72 : decode cX12_crown 72 = .ok (.bipush 10, 2) := by decide +kernel
theorem dX12_crown_74 : decode cX12_crown 74 = .ok (.iload 5, 2) := by decide +kernel
theorem dX12_crown_76 : decode cX12_crown 76 = .ok (.aload_n 0, 1) := by decide +kernel
theorem dX12_crown_77 : decode cX12_crown 77 = .ok (.getfield 35, 3) := by decide +kernel
theorem dX12_crown_80 : decode cX12_crown 80 = .ok (.invokevirtual 287, 3) := by decide +kernel
theorem dX12_crown_83 : decode cX12_crown 83 = .ok (.irem, 1) := by decide +kernel
theorem dX12_crown_84 : decode cX12_crown 84 = .ok (.imul, 1) := by decide +kernel
theorem dX12_crown_85 : decode cX12_crown 85 = .ok (.invokevirtual 304, 3) := by decide +kernel
theorem dX12_crown_88 : decode cX12_crown 88 = .ok (.pop, 1) := by decide +kernel
theorem dX12_crown_89 : decode cX12_crown 89 = .ok (.iinc 5 1, 3) := by decide +kernel
theorem dX12_crown_92 : decode cX12_crown 92 = .ok (.goto (-38), 3) := by decide +kernel
theorem dX12_crown_95 : decode cX12_crown 95 = .ok (.lconst 0, 1) := by decide +kernel
theorem dX12_crown_96 : decode cX12_crown 96 = .ok (.lstore 5, 2) := by decide +kernel
theorem dX12_crown_98 : decode cX12_crown 98 = .ok (.iconst 0, 1) := by decide +kernel
theorem dX12_crown_99 : decode cX12_crown 99 = .ok (.istore 7, 2) := by decide +kernel
theorem dX12_crown_101 : decode cX12_crown 101 = .ok (.iload 7, 2) := by decide +kernel
theorem dX12_crown_103 : decode cX12_crown 103 = .ok (.bipush 60, 2) := by decide +kernel
theorem dX12_crown_105 : decode cX12_crown 105 = .ok (.if_icmp .gt 23, 3) := by decide +kernel
theorem dX12_crown_108 : decode cX12_crown 108 = .ok (.lload 5, 2) := by decide +kernel
theorem dX12_crown_110 : decode cX12_crown 110 = .ok (.aload_n 0, 1) := by decide +kernel
theorem dX12_crown_111 : decode cX12_crown 111 = .ok (.iload 4, 2) := by decide +kernel
theorem dX12_crown_113 : decode cX12_crown 113 = .ok (.iload_n 3, 1) := by decide +kernel
theorem dX12_crown_114 : decode cX12_crown 114 = .ok (.iload 7, 2) := by decide +kernel
theorem dX12_crown_116 : decode cX12_crown 116 = .ok (.invokevirtual 428, 3) := by decide +kernel
theorem dX12_crown_119 : decode cX12_crown 119 = .ok (.ladd, 1) := by decide +kernel
theorem dX12_crown_120 : decode cX12_crown 120 = .ok (.lstore 5, 2) := by decide +kernel
theorem dX12_crown_122 : decode cX12_crown 122 = .ok (.iinc 7 1, 3) := by decide +kernel
theorem dX12_crown_125 : decode cX12_crown 125 = .ok (.goto (-24), 3) := by decide +kernel
theorem dX12_crown_128 : decode cX12_crown 128 = .ok (.lload 5, 2) := by decide +kernel
theorem dX12_crown_130 : decode cX12_crown 130 = .ok (.lreturn, 1) := by decide +kernel
def fX12_crown_L54 : Nat → eg_H → Nat → Int32 → Int32 → Int32 → Option (Nat × Int32 × Int32 × eg_H)
  | 0, _, _, _, _, _ => none
  | n + 1, h, l0, l3, l4, l5 =>
    if l3 ≤ l5 then
      (some (l0, l3, l4, h))
    else
      (eg_gR h 12 18 l0).bind fun p2 =>
      (fX9_pairOf h p2 l5).bind fun ⟨v5, h4⟩ =>
      (eg_gR h4 12 3 l0).bind fun p7 =>
      (fX7_eggs h4 p7).bind fun ⟨v10, h9⟩ =>
      if v10 = 0 then none else
      (fX12_goAlong h9 l0 l5 v5 ((10 : Int32) * (l5 % v10))).bind fun ⟨p14, h13⟩ =>
      fX12_crown_L54 n h13 l0 l3 l4 (l5 + (1 : Int32))
set_option maxRecDepth 20000 in
theorem fX12_crown_L54_ok {h0 : eg_H} {Z : eg_C → State → Prop} {N S : Nat} : ∀ (n : Nat) (h : eg_H) (l0 : Nat) (l3 : Int32) (l4 : Int32) (l5 : Int32) (eE : Nat × Int32 × Int32 × eg_H), fX12_crown_L54 n h l0 l3 l4 l5 = some eE → (hk0 : ∀ (l0 : Nat) (l3 : Int32) (l4 : Int32) (h : eg_H), eE = (l0, l3, l4, h) → eg_AW (RX12, cX12_crown, 8, 8, none, "crown", (some .long)) Z N S h0 95 [(0, .ref l0), (3, .int l3), (4, .int l4)] [] h) → eg_AW (RX12, cX12_crown, 8, 8, none, "crown", (some .long)) Z N S h0 54 [(0, .ref l0), (3, .int l3), (4, .int l4), (5, .int l5)] [] h := by
  intro n
  induction n with
  | zero => intro h l0 l3 l4 l5 eE hF; exact absurd hF (by intro q; cases q)
  | succ n ih =>
    intro h l0 l3 l4 l5 eE hF hk0
    have hrec := fun (h' : eg_H) (l0 : Nat) (l3 : Int32) (l4 : Int32) (l5 : Int32) hq => ih h' l0 l3 l4 l5 eE hq hk0
    refine eg_iload (i := 5) 3 dX12_crown_54 rfl ?_
    refine eg_iload_n (i := 3) 1 dX12_crown_56 rfl rfl ?_
    refine eg_ic_ge 95 dX12_crown_57 rfl (fun c1 => ?_) (fun c1 => ?_)
    · replace hF := eg_it c1 hF
      exact eg_sub [0, 1, 2] [(0, .ref l0), (3, .int l3), (4, .int l4)] rfl (hk0 l0 l3 l4 h (Option.some.inj hF).symm)
    · replace hF := eg_if c1 hF
      refine eg_aload_n (i := 0) 0 dX12_crown_60 rfl rfl ?_
      refine eg_iload (i := 5) 3 dX12_crown_61 rfl ?_
      refine eg_aload_n (i := 0) 0 dX12_crown_63 rfl rfl ?_
      replace hF := eg_bind hF; obtain ⟨p2, e3, hF⟩ := hF
      refine eg_getR dX12_crown_64 e3 (Nat.le_of_ble_eq_true rfl) (Nat.le_of_ble_eq_true rfl) rfl ew_374 ?_
      refine eg_iload (i := 5) 3 dX12_crown_67 rfl ?_
      replace hF := eg_bind hF; obtain ⟨⟨v5, h4⟩, e6, hF⟩ := hF
      refine eg_callV (c := 9) (n := 1) [.int l5] dX12_crown_69 (mX9_pairOf e6) rfl (fX9_pairOf_O e6) (Nat.le_of_ble_eq_true rfl) rfl ew_1157 ew_1158 ew_1159 ew_109 ew_1160 hy_X9_pairOf rfl (Nat.le_of_ble_eq_true rfl) (Nat.le_of_ble_eq_true rfl) (Nat.le_of_ble_eq_true rfl) ?_
      refine eg_bipush (v := (10 : Int32)) dX12_crown_72 (by decide) ?_
      refine eg_iload (i := 5) 3 dX12_crown_74 rfl ?_
      refine eg_aload_n (i := 0) 0 dX12_crown_76 rfl rfl ?_
      replace hF := eg_bind hF; obtain ⟨p7, e8, hF⟩ := hF
      refine eg_getR dX12_crown_77 e8 (Nat.le_of_ble_eq_true rfl) (Nat.le_of_ble_eq_true rfl) rfl ew_359 ?_
      replace hF := eg_bind hF; obtain ⟨⟨v10, h9⟩, e11, hF⟩ := hF
      refine eg_callV (c := 7) (n := 0) [] dX12_crown_80 (mX7_eggs e11) rfl (fX7_eggs_O e11) (Nat.le_of_ble_eq_true rfl) rfl ew_922 ew_923 ew_924 ew_104 ew_925 hy_X7_eggs rfl (Nat.le_of_ble_eq_true rfl) (Nat.le_of_ble_eq_true rfl) (Nat.le_of_ble_eq_true rfl) ?_
      replace hF := eg_nif hF; obtain ⟨c12, hF⟩ := hF
      refine eg_irem dX12_crown_83 c12 ?_
      refine eg_imul dX12_crown_84 ?_
      replace hF := eg_bind hF; obtain ⟨⟨p14, h13⟩, e15, hF⟩ := hF
      refine eg_callV (c := 12) (n := 3) [.int l5, .int v5, .int ((10 : Int32) * (l5 % v10))] dX12_crown_85 (mX12_goAlong e15) rfl (fX12_goAlong_O e15) (Nat.le_of_ble_eq_true rfl) rfl ew_944 ew_946 ew_29 ew_100 ew_947 hy_X12_goAlong rfl (Nat.le_of_ble_eq_true rfl) (Nat.le_of_ble_eq_true rfl) (Nat.le_of_ble_eq_true rfl) ?_
      refine eg_pop dX12_crown_88 rfl ?_
      refine eg_iinc (i := 5) (v := (l5 + (1 : Int32))) 3 [(5, .int (l5 + (1 : Int32))), (0, .ref l0), (3, .int l3), (4, .int l4)] dX12_crown_89 rfl rfl (Nat.le_of_ble_eq_true rfl) rfl ?_
      refine eg_goto 54 dX12_crown_92 rfl ?_
      exact eg_sub [1, 2, 3, 0] [(0, .ref l0), (3, .int l3), (4, .int l4), (5, .int (l5 + (1 : Int32)))] rfl (hrec h13 l0 l3 l4 (l5 + (1 : Int32)) hF)
def fX12_crown_L101 : Nat → eg_H → Nat → Int32 → Int32 → Int64 → Int32 → Option (Int64 × eg_H)
  | 0, _, _, _, _, _, _ => none
  | n + 1, h, l0, l3, l4, l5, l7 =>
    if (60 : Int32) < l7 then
      (some (l5, h))
    else
      (fX12_crownOf h l0 l4 l3 l7).bind fun ⟨v3, h2⟩ =>
      (some ((l5 + v3))).bind fun v5 =>
      fX12_crown_L101 n h2 l0 l3 l4 v5 (l7 + (1 : Int32))
set_option maxRecDepth 20000 in
theorem fX12_crown_L101_ok {h0 : eg_H} {Z : eg_C → State → Prop} {N S : Nat} : ∀ (n : Nat) (h : eg_H) (l0 : Nat) (l3 : Int32) (l4 : Int32) (l5 : Int64) (l7 : Int32) (eE : Int64 × eg_H), fX12_crown_L101 n h l0 l3 l4 l5 l7 = some eE → (hk0 : ∀ (l5 : Int64) (h : eg_H), eE = (l5, h) → eg_AW (RX12, cX12_crown, 8, 8, none, "crown", (some .long)) Z N S h0 128 [(5, .long l5)] [] h) → eg_AW (RX12, cX12_crown, 8, 8, none, "crown", (some .long)) Z N S h0 101 [(0, .ref l0), (3, .int l3), (4, .int l4), (5, .long l5), (7, .int l7)] [] h := by
  intro n
  induction n with
  | zero => intro h l0 l3 l4 l5 l7 eE hF; exact absurd hF (by intro q; cases q)
  | succ n ih =>
    intro h l0 l3 l4 l5 l7 eE hF hk0
    have hrec := fun (h' : eg_H) (l0 : Nat) (l3 : Int32) (l4 : Int32) (l5 : Int64) (l7 : Int32) hq => ih h' l0 l3 l4 l5 l7 eE hq hk0
    refine eg_iload (i := 7) 4 dX12_crown_101 rfl ?_
    refine eg_bipush (v := (60 : Int32)) dX12_crown_103 (by decide) ?_
    refine eg_ic_gt 128 dX12_crown_105 rfl (fun c1 => ?_) (fun c1 => ?_)
    · replace hF := eg_it c1 hF
      exact eg_sub [3] [(5, .long l5)] rfl (hk0 l5 h (Option.some.inj hF).symm)
    · replace hF := eg_if c1 hF
      refine eg_lload (i := 5) 3 dX12_crown_108 rfl ?_
      refine eg_aload_n (i := 0) 0 dX12_crown_110 rfl rfl ?_
      refine eg_iload (i := 4) 2 dX12_crown_111 rfl ?_
      refine eg_iload_n (i := 3) 1 dX12_crown_113 rfl rfl ?_
      refine eg_iload (i := 7) 4 dX12_crown_114 rfl ?_
      replace hF := eg_bind hF; obtain ⟨⟨v3, h2⟩, e4, hF⟩ := hF
      refine eg_callV (c := 12) (n := 3) [.int l4, .int l3, .int l7] dX12_crown_116 (mX12_crownOf e4) rfl (fX12_crownOf_O e4) (Nat.le_of_ble_eq_true rfl) rfl ew_1189 ew_1191 ew_42 ew_100 ew_1192 hy_X12_crownOf rfl (Nat.le_of_ble_eq_true rfl) (Nat.le_of_ble_eq_true rfl) (Nat.le_of_ble_eq_true rfl) ?_
      refine eg_ladd dX12_crown_119 ?_
      replace hF := eg_bind hF; obtain ⟨v5, e6, hF⟩ := hF
      replace e6 := Option.some.inj e6
      rw [e6]
      refine eg_lstore (i := 5) [(5, .long v5), (0, .ref l0), (3, .int l3), (4, .int l4), (7, .int l7)] dX12_crown_120 (Nat.le_of_ble_eq_true rfl) rfl ?_
      refine eg_iinc (i := 7) (v := (l7 + (1 : Int32))) 4 [(7, .int (l7 + (1 : Int32))), (5, .long v5), (0, .ref l0), (3, .int l3), (4, .int l4)] dX12_crown_122 rfl rfl (Nat.le_of_ble_eq_true rfl) rfl ?_
      refine eg_goto 101 dX12_crown_125 rfl ?_
      exact eg_sub [2, 3, 4, 1, 0] [(0, .ref l0), (3, .int l3), (4, .int l4), (5, .long v5), (7, .int (l7 + (1 : Int32)))] rfl (hrec h2 l0 l3 l4 v5 (l7 + (1 : Int32)) hF)
def fX12_crown (h : eg_H) (l0 : Nat) (l1 : Int32) (l2 : Int32) : Option (Int64 × eg_H) :=
  if eg_isO h 12 l0 then (
    (eg_gR h 12 18 l0).bind fun p1 =>
    (eg_gR h 12 3 l0).bind fun p3 =>
    (fX7_persons h p3).bind fun ⟨v6, h5⟩ =>
    (fX9_readPairs h5 p1 l1 v6).bind fun ⟨v9, h8⟩ =>
    (eg_gR h8 12 18 l0).bind fun p11 =>
    (fX9_pairOfLower h8 p11 l2 v9).bind fun ⟨v14, h13⟩ =>
    if v9 = 0 then
      (some ((-1 : Int64), h13))
    else
      if v14 = (-1 : Int32) then
        (some ((-1 : Int64), h13))
      else
        (eg_gR h13 12 3 l0).bind fun p18 =>
        (fX7_eggs h13 p18).bind fun ⟨v21, h20⟩ =>
        if 0 < v21 then
          ((fX12_crown_L54 eg_F h20 l0 v9 v14 (0 : Int32)).bind fun e =>
          match e with
          | (p26, v27, v28, h29) =>
            (fX12_crown_L101 eg_F h29 p26 v27 v28 (0 : Int64) (0 : Int32)).bind fun e =>
            match e with
            | (v32, h33) =>
              some (v32, h33))
        else
          some ((-1 : Int64), h20)) else none
theorem fX12_crown_O {h : eg_H} {l0 : Nat} {l1 : Int32} {l2 : Int32} {rE : Int64} {hE : eg_H} (hF : fX12_crown h l0 l1 l2 = some (rE, hE)) : eg_isO h 12 l0 := (eg_ifn hF).1
set_option maxRecDepth 20000 in
theorem mX12_crown {h : eg_H} {l0 : Nat} {l1 : Int32} {l2 : Int32} {rE : Int64} {hE : eg_H} (hF : fX12_crown h l0 l1 l2 = some (rE, hE)) : eg_Met yX12_crown cX12_crown 8 (some .long) 8 [.ref l0, .int l1, .int l2] h (some (.long rE)) hE := by
  refine eg_enter rfl (Nat.le_of_ble_eq_true rfl) ?_
  show eg_AW (RX12, cX12_crown, 8, 8, none, "crown", (some .long)) (eg_Zm (some (.long rE)) hE h) (eg_nc hE) (eg_ns hE) h 0 [(0, .ref l0), (1, .int l1), (2, .int l2)] [] h
  replace hF := (eg_ifn hF).2
  refine eg_aload_n (i := 0) 0 dX12_crown_0 rfl rfl ?_
  replace hF := eg_bind hF; obtain ⟨p1, e2, hF⟩ := hF
  refine eg_getR dX12_crown_1 e2 (Nat.le_of_ble_eq_true rfl) (Nat.le_of_ble_eq_true rfl) rfl ew_374 ?_
  refine eg_iload_n (i := 1) 1 dX12_crown_4 rfl rfl ?_
  refine eg_aload_n (i := 0) 0 dX12_crown_5 rfl rfl ?_
  replace hF := eg_bind hF; obtain ⟨p3, e4, hF⟩ := hF
  refine eg_getR dX12_crown_6 e4 (Nat.le_of_ble_eq_true rfl) (Nat.le_of_ble_eq_true rfl) rfl ew_359 ?_
  replace hF := eg_bind hF; obtain ⟨⟨v6, h5⟩, e7, hF⟩ := hF
  refine eg_callV (c := 7) (n := 0) [] dX12_crown_9 (mX7_persons e7) rfl (fX7_persons_O e7) (Nat.le_of_ble_eq_true rfl) rfl ew_629 ew_630 ew_631 ew_104 ew_632 hy_X7_persons rfl (Nat.le_of_ble_eq_true rfl) (Nat.le_of_ble_eq_true rfl) (Nat.le_of_ble_eq_true rfl) ?_
  replace hF := eg_bind hF; obtain ⟨⟨v9, h8⟩, e10, hF⟩ := hF
  refine eg_callV (c := 9) (n := 2) [.int l1, .int v6] dX12_crown_12 (mX9_readPairs e10) rfl (fX9_readPairs_O e10) (Nat.le_of_ble_eq_true rfl) rfl ew_1140 ew_1141 ew_1142 ew_109 ew_1143 hy_X9_readPairs rfl (Nat.le_of_ble_eq_true rfl) (Nat.le_of_ble_eq_true rfl) (Nat.le_of_ble_eq_true rfl) ?_
  refine eg_istore_n (i := 3) [(3, .int v9), (0, .ref l0), (1, .int l1), (2, .int l2)] dX12_crown_15 rfl (Nat.le_of_ble_eq_true rfl) rfl ?_
  refine eg_aload_n (i := 0) 1 dX12_crown_16 rfl rfl ?_
  replace hF := eg_bind hF; obtain ⟨p11, e12, hF⟩ := hF
  refine eg_getR dX12_crown_17 e12 (Nat.le_of_ble_eq_true rfl) (Nat.le_of_ble_eq_true rfl) rfl ew_374 ?_
  refine eg_iload_n (i := 2) 3 dX12_crown_20 rfl rfl ?_
  refine eg_iload_n (i := 3) 0 dX12_crown_21 rfl rfl ?_
  replace hF := eg_bind hF; obtain ⟨⟨v14, h13⟩, e15, hF⟩ := hF
  refine eg_callV (c := 9) (n := 2) [.int l2, .int v9] dX12_crown_22 (mX9_pairOfLower e15) rfl (fX9_pairOfLower_O e15) (Nat.le_of_ble_eq_true rfl) rfl ew_1185 ew_1186 ew_1187 ew_109 ew_1188 hy_X9_pairOfLower rfl (Nat.le_of_ble_eq_true rfl) (Nat.le_of_ble_eq_true rfl) (Nat.le_of_ble_eq_true rfl) ?_
  refine eg_istore (i := 4) [(4, .int v14), (3, .int v9), (0, .ref l0), (1, .int l1), (2, .int l2)] dX12_crown_25 (Nat.le_of_ble_eq_true rfl) rfl ?_
  refine eg_iload_n (i := 3) 1 dX12_crown_27 rfl rfl ?_
  refine eg_if_eq 47 dX12_crown_28 rfl (fun c16 => ?_) (fun c16 => ?_)
  · replace hF := eg_it c16 hF
    refine eg_ldc2 (v := (-1 : Int64)) dX12_crown_47 ew_984 ?_
    exact eg_lretE dX12_crown_50 hF
  · replace hF := eg_if c16 hF
    refine eg_iload (i := 4) 0 dX12_crown_31 rfl ?_
    refine eg_iconst (v := (-1 : Int32)) dX12_crown_33 (by decide) ?_
    refine eg_ic_eq 47 dX12_crown_34 rfl (fun c17 => ?_) (fun c17 => ?_)
    · replace hF := eg_it c17 hF
      refine eg_ldc2 (v := (-1 : Int64)) dX12_crown_47 ew_984 ?_
      exact eg_lretE dX12_crown_50 hF
    · replace hF := eg_if c17 hF
      refine eg_aload_n (i := 0) 2 dX12_crown_37 rfl rfl ?_
      replace hF := eg_bind hF; obtain ⟨p18, e19, hF⟩ := hF
      refine eg_getR dX12_crown_38 e19 (Nat.le_of_ble_eq_true rfl) (Nat.le_of_ble_eq_true rfl) rfl ew_359 ?_
      replace hF := eg_bind hF; obtain ⟨⟨v21, h20⟩, e22, hF⟩ := hF
      refine eg_callV (c := 7) (n := 0) [] dX12_crown_41 (mX7_eggs e22) rfl (fX7_eggs_O e22) (Nat.le_of_ble_eq_true rfl) rfl ew_922 ew_923 ew_924 ew_104 ew_925 hy_X7_eggs rfl (Nat.le_of_ble_eq_true rfl) (Nat.le_of_ble_eq_true rfl) (Nat.le_of_ble_eq_true rfl) ?_
      refine eg_if_gt 51 dX12_crown_44 rfl (fun c23 => ?_) (fun c23 => ?_)
      · replace hF := eg_it c23 hF
        refine eg_iconst (v := (0 : Int32)) dX12_crown_51 (by decide) ?_
        refine eg_istore (i := 5) [(5, .int (0 : Int32)), (4, .int v14), (3, .int v9), (0, .ref l0), (1, .int l1), (2, .int l2)] dX12_crown_52 (Nat.le_of_ble_eq_true rfl) rfl ?_
        replace hF := eg_bind hF; obtain ⟨x25, e24, hF⟩ := hF
        refine eg_sub [3, 2, 1, 0] [(0, .ref l0), (3, .int v9), (4, .int v14), (5, .int (0 : Int32))] rfl (fX12_crown_L54_ok eg_F h20 l0 v9 v14 (0 : Int32) x25 e24 ?_)
        · intro p26 v27 v28 h29 e35
          subst e35
          refine eg_lconst (v := (0 : Int64)) dX12_crown_95 (by decide) ?_
          refine eg_lstore (i := 5) [(5, .long (0 : Int64)), (0, .ref p26), (3, .int v27), (4, .int v28)] dX12_crown_96 (Nat.le_of_ble_eq_true rfl) rfl ?_
          refine eg_iconst (v := (0 : Int32)) dX12_crown_98 (by decide) ?_
          refine eg_istore (i := 7) [(7, .int (0 : Int32)), (5, .long (0 : Int64)), (0, .ref p26), (3, .int v27), (4, .int v28)] dX12_crown_99 (Nat.le_of_ble_eq_true rfl) rfl ?_
          replace hF := eg_bind hF; obtain ⟨x31, e30, hF⟩ := hF
          refine eg_sub [2, 3, 4, 1, 0] [(0, .ref p26), (3, .int v27), (4, .int v28), (5, .long (0 : Int64)), (7, .int (0 : Int32))] rfl (fX12_crown_L101_ok eg_F h29 p26 v27 v28 (0 : Int64) (0 : Int32) x31 e30 ?_)
          · intro v32 h33 e34
            subst e34
            refine eg_lload (i := 5) 0 dX12_crown_128 rfl ?_
            exact eg_lretE dX12_crown_130 hF
      · replace hF := eg_if c23 hF
        refine eg_ldc2 (v := (-1 : Int64)) dX12_crown_47 ew_984 ?_
        exact eg_lretE dX12_crown_50 hF
theorem dX12_carton_0 : decode cX12_carton 0 = .ok (.aload_n 0, 1) := by decide +kernel
theorem dX12_carton_1 : decode cX12_carton 1 = .ok (.getfield 35, 3) := by decide +kernel
theorem dX12_carton_4 : decode cX12_carton 4 = .ok (.iload_n 1, 1) := by decide +kernel
theorem dX12_carton_5 : decode cX12_carton 5 = .ok (.invokevirtual 284, 3) := by decide +kernel
theorem dX12_carton_8 : decode cX12_carton 8 = .ok (.ifCond .eq 34, 3) := by decide +kernel
theorem dX12_carton_11 : decode cX12_carton 11 = .ok (.iload_n 2, 1) := by decide +kernel
theorem dX12_carton_12 : decode cX12_carton 12 = .ok (.invokestatic 216, 3) := by decide +kernel
theorem dX12_carton_15 : decode cX12_carton 15 = .ok (.ifCond .eq 27, 3) := by decide +kernel
theorem dX12_carton_18 : decode cX12_carton 18 = .ok (.iload_n 3, 1) := by decide +kernel
theorem dX12_carton_19 : decode cX12_carton 19 = .ok (.iconst 1, 1) := by decide +kernel
theorem dX12_carton_20 : decode cX12_carton 20 = .ok (.if_icmp .lt 22, 3) := by decide +kernel
theorem dX12_carton_23 : decode cX12_carton 23 = .ok (.iload_n 3, 1) := by decide +kernel
theorem dX12_carton_24 : decode cX12_carton 24 = .ok (.aload_n 0, 1) := by decide +kernel
theorem dX12_carton_25 : decode cX12_carton 25 = .ok (.getfield 35, 3) := by decide +kernel
theorem dX12_carton_28 : decode cX12_carton 28 = .ok (.invokevirtual 287, 3) := by decide +kernel
theorem dX12_carton_31 : decode cX12_carton 31 = .ok (.if_icmp .gt 11, 3) := by decide +kernel
theorem dX12_carton_34 : decode cX12_carton 34 = .ok (.iload 4, 2) := by decide +kernel
theorem dX12_carton_36 : decode cX12_carton 36 = .ok (.invokestatic 320, 3) := by decide +kernel
theorem dX12_carton_39 : decode cX12_carton 39 = .ok (.ifCond .ne 5, 3) := by decide +kernel
theorem dX12_carton_42 : decode cX12_carton 42 = .ok (.iconst (-1), 1) := by decide +kernel
theorem dX12_carton_43 : decode cX12_carton 43 = .ok (.ireturn, 1) := by decide +kernel
theorem dX12_carton_44 : decode cX12_carton 44 = .ok (.aload_n 0, 1) := by decide +kernel
theorem dX12_carton_45 : decode cX12_carton 45 = .ok (.getfield 35, 3) := by decide +kernel
theorem dX12_carton_48 : decode cX12_carton 48 = .ok (.iconst 2, 1) := by decide +kernel
theorem dX12_carton_49 : decode cX12_carton 49 = .ok (.invokevirtual 209, 3) := by decide +kernel
theorem dX12_carton_52 : decode cX12_carton 52 = .ok (.istore 5, 2) := by decide +kernel
theorem dX12_carton_54 : decode cX12_carton 54 = .ok (.aload_n 0, 1) := by decide +kernel
theorem dX12_carton_55 : decode cX12_carton 55 = .ok (.getfield 35, 3) := by decide +kernel
theorem dX12_carton_58 : decode cX12_carton 58 = .ok (.iload_n 3, 1) := by decide +kernel
theorem dX12_carton_59 : decode cX12_carton 59 = .ok (.iload 5, 2) := by decide +kernel
theorem dX12_carton_61 : decode cX12_carton 61 = .ok (.invokevirtual 343, 3) := by decide +kernel
theorem dX12_carton_64 : decode cX12_carton 64 = .ok (.bipush 60, 2) := by decide +kernel
theorem dX12_carton_66 : decode cX12_carton 66 = .ok (.if_icmp .le 5, 3) := by decide +kernel
theorem dX12_carton_69 : decode cX12_carton 69 = .ok (.iconst (-1), 1) := by decide +kernel
theorem dX12_carton_70 : decode cX12_carton 70 = .ok (.ireturn, 1) := by decide +kernel
theorem dX12_carton_71 : decode cX12_carton 71 = .ok (.iconst 1, 1) := by decide +kernel
theorem dX12_carton_72 : decode cX12_carton 72 = .ok (.istore 6, 2) := by decide +kernel
theorem dX12_carton_74 : decode cX12_carton 74 = .ok (.iload 6, 2) := by decide +kernel
theorem dX12_carton_76 : decode cX12_carton 76 = .ok (.iload_n 3, 1) := by decide +kernel
theorem dX12_carton_77 : decode cX12_carton 77 = .ok (.if_icmp .gt 114, 3) := by decide +kernel
theorem dX12_carton_80 : decode cX12_carton 80 = .ok (.iload 6, 2) := by decide +kernel
theorem dX12_carton_82 : decode cX12_carton 82 = .ok (.iload_n 1, 1) := by decide +kernel
theorem dX12_carton_83 : decode cX12_carton 83 = .ok (.invokestatic 346, 3) := by decide +kernel
theorem dX12_carton_86 : decode cX12_carton 86 = .ok (.istore 7, 2) := by decide +kernel
theorem dX12_carton_88 : decode cX12_carton 88 = .ok (.iconst 0, 1) := by decide +kernel
theorem dX12_carton_89 : decode cX12_carton 89 = .ok (.istore 8, 2) := by decide +kernel
theorem dX12_carton_91 : decode cX12_carton 91 = .ok (.iload 8, 2) := by decide +kernel
theorem dX12_carton_93 : decode cX12_carton 93 = .ok (.aload_n 0, 1) := by decide +kernel
theorem dX12_carton_94 : decode cX12_carton 94 = .ok (.getfield 35, 3) := by decide +kernel
theorem dX12_carton_97 : decode cX12_carton 97 = .ok (.invokevirtual 287, 3) := by decide +kernel
theorem dX12_carton_100 : decode cX12_carton 100 = .ok (.if_icmp .ge 85, 3) := by decide +kernel
theorem dX12_carton_103 : decode cX12_carton 103 = .ok (.iload 6, 2) := by decide +kernel
theorem dX12_carton_105 : decode cX12_carton 105 = .ok (.bipush 10, 2) := by decide +kernel
theorem dX12_carton_107 : decode cX12_carton 107 = .ok (.iload 8, 2) := by decide +kernel
theorem dX12_carton_109 : decode cX12_carton 109 = .ok (.imul, 1) := by decide +kernel
theorem dX12_carton_110 : decode cX12_carton 110 = .ok (.iload_n 2, 1) := by decide +kernel
theorem dX12_carton_111 : decode cX12_carton 111 = .ok (.iadd, 1) := by decide +kernel
theorem dX12_carton_112 : decode cX12_carton 112 = .ok (.invokestatic 349, 3) := by decide +kernel
theorem dX12_carton_115 : decode cX12_carton 115 = .ok (.istore 9, 2) := by decide +kernel
theorem dX12_carton_117 : decode cX12_carton 117 = .ok (.aload_n 0, 1) := by decide +kernel
theorem dX12_carton_118 : decode cX12_carton 118 = .ok (.getfield 101, 3) := by decide +kernel
theorem dX12_carton_121 : decode cX12_carton 121 = .ok (.iload 7, 2) := by decide +kernel
theorem dX12_carton_123 : decode cX12_carton 123 = .ok (.iload 9, 2) := by decide +kernel
theorem dX12_carton_125 : decode cX12_carton 125 = .ok (.aload_n 0, 1) := by decide +kernel
theorem dX12_carton_126 : decode cX12_carton 126 = .ok (.getfield 35, 3) := by decide +kernel
theorem dX12_carton_129 : decode cX12_carton 129 = .ok (.iload 6, 2) := by decide +kernel
theorem dX12_carton_131 : decode cX12_carton 131 = .ok (.iload 5, 2) := by decide +kernel
theorem dX12_carton_133 : decode cX12_carton 133 = .ok (.invokevirtual 343, 3) := by decide +kernel
theorem dX12_carton_136 : decode cX12_carton 136 = .ok (.aload_n 0, 1) := by decide +kernel
theorem dX12_carton_137 : decode cX12_carton 137 = .ok (.getfield 35, 3) := by decide +kernel
theorem dX12_carton_140 : decode cX12_carton 140 = .ok (.iconst 0, 1) := by decide +kernel
theorem dX12_carton_141 : decode cX12_carton 141 = .ok (.invokevirtual 209, 3) := by decide +kernel
theorem dX12_carton_144 : decode cX12_carton 144 = .ok (.invokevirtual 250, 3) := by decide +kernel
theorem dX12_carton_147 : decode cX12_carton 147 = .ok (.istore 10, 2) := by decide +kernel
theorem dX12_carton_149 : decode cX12_carton 149 = .ok (.aload_n 0, 1) := by decide +kernel
theorem dX12_carton_150 : decode cX12_carton 150 = .ok (.getfield 115, 3) := by decide +kernel
theorem dX12_carton_153 : decode cX12_carton 153 = .ok (.iload 6, 2) := by decide +kernel
theorem dX12_carton_155 : decode cX12_carton 155 = .ok (.iconst 1, 1) := by decide +kernel
theorem dX12_carton_156 : decode cX12_carton 156 = .ok (.isub, 1) := by decide +kernel
theorem dX12_carton_157 : decode cX12_carton 157 = .ok (.iload 8, 2) := by decide +kernel
theorem dX12_carton_159 : decode cX12_carton 159 = .ok (.iload 10, 2) := by decide +kernel
theorem dX12_carton_161 : decode cX12_carton 161 = .ok (.invokestatic 260, 3) := by decide +kernel
theorem dX12_carton_164 : decode cX12_carton 164 = .ok (.aload_n 0, 1) := by decide +kernel
theorem dX12_carton_165 : decode cX12_carton 165 = .ok (.getfield 35, 3) := by decide +kernel
theorem dX12_carton_168 : decode cX12_carton 168 = .ok (.iload 7, 2) := by decide +kernel
theorem dX12_carton_170 : decode cX12_carton 170 = .ok (.bipush 10, 2) := by decide +kernel
theorem dX12_carton_172 : decode cX12_carton 172 = .ok (.idiv, 1) := by decide +kernel
theorem dX12_carton_173 : decode cX12_carton 173 = .ok (.invokevirtual 299, 3) := by decide +kernel
theorem dX12_carton_176 : decode cX12_carton 176 = .ok (.invokevirtual 431, 3) := by decide +kernel
theorem dX12_carton_179 : decode cX12_carton 179 = .ok (.iinc 8 1, 3) := by decide +kernel
theorem dX12_carton_182 : decode cX12_carton 182 = .ok (.goto (-91), 3) := by decide +kernel
theorem dX12_carton_185 : decode cX12_carton 185 = .ok (.iinc 6 1, 3) := by decide +kernel
theorem dX12_carton_188 : decode cX12_carton 188 = .ok (.goto (-114), 3) := by decide +kernel
theorem dX12_carton_191 : decode cX12_carton 191 = .ok (.aload_n 0, 1) := by decide +kernel
theorem dX12_carton_192 : decode cX12_carton 192 = .ok (.getfield 115, 3) := by decide +kernel
theorem dX12_carton_195 : decode cX12_carton 195 = .ok (.iload_n 3, 1) := by decide +kernel
theorem dX12_carton_196 : decode cX12_carton 196 = .ok (.aload_n 0, 1) := by decide +kernel
theorem dX12_carton_197 : decode cX12_carton 197 = .ok (.getfield 35, 3) := by decide +kernel
theorem dX12_carton_200 : decode cX12_carton 200 = .ok (.invokevirtual 287, 3) := by decide +kernel
theorem dX12_carton_203 : decode cX12_carton 203 = .ok (.iconst 0, 1) := by decide +kernel
theorem dX12_carton_204 : decode cX12_carton 204 = .ok (.invokevirtual 435, 3) := by decide +kernel
theorem dX12_carton_207 : decode cX12_carton 207 = .ok (.iload 4, 2) := by decide +kernel
theorem dX12_carton_209 : decode cX12_carton 209 = .ok (.ifCond .ne 13, 3) := by decide +kernel
theorem dX12_carton_212 : decode cX12_carton 212 = .ok (.aload_n 0, 1) := by decide +kernel
theorem dX12_carton_213 : decode cX12_carton 213 = .ok (.getfield 115, 3) := by decide +kernel
theorem dX12_carton_216 : decode cX12_carton 216 = .ok (.invokevirtual 369, 3) := by decide +kernel
theorem dX12_carton_219 : decode cX12_carton 219 = .ok (.goto 10, 3) := by decide +kernel
theorem dX12_carton_222 : decode cX12_carton 222 = .ok (.aload_n 0, 1) := by decide +kernel
theorem dX12_carton_223 : decode cX12_carton 223 = .ok (.getfield 115, 3) := by decide +kernel
theorem dX12_carton_226 : decode cX12_carton 226 = .ok (.invokevirtual 439, 3) := by decide +kernel
theorem dX12_carton_229 : decode cX12_carton 229 = .ok (.ireturn, 1) := by decide +kernel
def fX12_carton_L91 : Nat → eg_H → Nat → Int32 → Int32 → Int32 → Int32 → Int32 → Int32 → Int32 → Int32 → Option (Nat × Int32 × Int32 × Int32 × Int32 × Int32 × Int32 × eg_H)
  | 0, _, _, _, _, _, _, _, _, _, _ => none
  | n + 1, h, l0, l1, l2, l3, l4, l5, l6, l7, l8 =>
    (eg_gR h 12 3 l0).bind fun p1 =>
    (fX7_eggs h p1).bind fun ⟨v4, h3⟩ =>
    if v4 ≤ l8 then
      (some (l0, l1, l2, l3, l4, l5, l6, h3))
    else
      (fX2_eggEndOf h3 l6 (((10 : Int32) * l8) + l2)).bind fun ⟨v8, h7⟩ =>
      (eg_gR h7 12 16 l0).bind fun p10 =>
      (eg_gR h7 12 3 l0).bind fun p12 =>
      (fX7_yardsOf h7 p12 l6 l5).bind fun ⟨v15, h14⟩ =>
      (eg_gR h14 12 3 l0).bind fun p17 =>
      (fX7_told h14 p17 (0 : Int32)).bind fun ⟨v20, h19⟩ =>
      (fX0_of h19 p10 l7 v8 v15 v20).bind fun ⟨v23, h22⟩ =>
      (eg_gR h22 12 18 l0).bind fun p25 =>
      (fX11_goodIn h22 v23).bind fun ⟨v28, h27⟩ =>
      (eg_gR h27 12 3 l0).bind fun p30 =>
      (fX7_slips h27 p30 (l7 / (10 : Int32))).bind fun ⟨v33, h32⟩ =>
      (fX9_keepGood h32 p25 (l6 - (1 : Int32)) l8 v28 v33).bind fun h35 =>
      fX12_carton_L91 n h35 l0 l1 l2 l3 l4 l5 l6 l7 (l8 + (1 : Int32))
set_option maxRecDepth 20000 in
theorem fX12_carton_L91_ok {h0 : eg_H} {Z : eg_C → State → Prop} {N S : Nat} : ∀ (n : Nat) (h : eg_H) (l0 : Nat) (l1 : Int32) (l2 : Int32) (l3 : Int32) (l4 : Int32) (l5 : Int32) (l6 : Int32) (l7 : Int32) (l8 : Int32) (eE : Nat × Int32 × Int32 × Int32 × Int32 × Int32 × Int32 × eg_H), fX12_carton_L91 n h l0 l1 l2 l3 l4 l5 l6 l7 l8 = some eE → (hk0 : ∀ (l0 : Nat) (l1 : Int32) (l2 : Int32) (l3 : Int32) (l4 : Int32) (l5 : Int32) (l6 : Int32) (h : eg_H), eE = (l0, l1, l2, l3, l4, l5, l6, h) → eg_AW (RX12, cX12_carton, 11, 67, none, "carton", (some .int)) Z N S h0 185 [(0, .ref l0), (1, .int l1), (2, .int l2), (3, .int l3), (4, .int l4), (5, .int l5), (6, .int l6)] [] h) → eg_AW (RX12, cX12_carton, 11, 67, none, "carton", (some .int)) Z N S h0 91 [(0, .ref l0), (1, .int l1), (2, .int l2), (3, .int l3), (4, .int l4), (5, .int l5), (6, .int l6), (7, .int l7), (8, .int l8)] [] h := by
  intro n
  induction n with
  | zero => intro h l0 l1 l2 l3 l4 l5 l6 l7 l8 eE hF; exact absurd hF (by intro q; cases q)
  | succ n ih =>
    intro h l0 l1 l2 l3 l4 l5 l6 l7 l8 eE hF hk0
    have hrec := fun (h' : eg_H) (l0 : Nat) (l1 : Int32) (l2 : Int32) (l3 : Int32) (l4 : Int32) (l5 : Int32) (l6 : Int32) (l7 : Int32) (l8 : Int32) hq => ih h' l0 l1 l2 l3 l4 l5 l6 l7 l8 eE hq hk0
    refine eg_iload (i := 8) 8 dX12_carton_91 rfl ?_
    refine eg_aload_n (i := 0) 0 dX12_carton_93 rfl rfl ?_
    replace hF := eg_bind hF; obtain ⟨p1, e2, hF⟩ := hF
    refine eg_getR dX12_carton_94 e2 (Nat.le_of_ble_eq_true rfl) (Nat.le_of_ble_eq_true rfl) rfl ew_359 ?_
    replace hF := eg_bind hF; obtain ⟨⟨v4, h3⟩, e5, hF⟩ := hF
    refine eg_callV (c := 7) (n := 0) [] dX12_carton_97 (mX7_eggs e5) rfl (fX7_eggs_O e5) (Nat.le_of_ble_eq_true rfl) rfl ew_922 ew_923 ew_924 ew_104 ew_925 hy_X7_eggs rfl (Nat.le_of_ble_eq_true rfl) (Nat.le_of_ble_eq_true rfl) (Nat.le_of_ble_eq_true rfl) ?_
    refine eg_ic_ge 185 dX12_carton_100 rfl (fun c6 => ?_) (fun c6 => ?_)
    · replace hF := eg_it c6 hF
      exact eg_sub [0, 1, 2, 3, 4, 5, 6] [(0, .ref l0), (1, .int l1), (2, .int l2), (3, .int l3), (4, .int l4), (5, .int l5), (6, .int l6)] rfl (hk0 l0 l1 l2 l3 l4 l5 l6 h3 (Option.some.inj hF).symm)
    · replace hF := eg_if c6 hF
      refine eg_iload (i := 6) 6 dX12_carton_103 rfl ?_
      refine eg_bipush (v := (10 : Int32)) dX12_carton_105 (by decide) ?_
      refine eg_iload (i := 8) 8 dX12_carton_107 rfl ?_
      refine eg_imul dX12_carton_109 ?_
      refine eg_iload_n (i := 2) 2 dX12_carton_110 rfl rfl ?_
      refine eg_iadd dX12_carton_111 ?_
      replace hF := eg_bind hF; obtain ⟨⟨v8, h7⟩, e9, hF⟩ := hF
      refine eg_callS (n := 2) [.int l6, .int (((10 : Int32) * l8) + l2)] dX12_carton_112 (mX2_eggEndOf e9) rfl ew_1041 ew_963 ew_108 ew_964 hy_X2_eggEndOf.2 rfl (Nat.le_of_ble_eq_true rfl) (Nat.le_of_ble_eq_true rfl) (Nat.le_of_ble_eq_true rfl) ?_
      refine eg_istore (i := 9) [(9, .int v8), (0, .ref l0), (1, .int l1), (2, .int l2), (3, .int l3), (4, .int l4), (5, .int l5), (6, .int l6), (7, .int l7), (8, .int l8)] dX12_carton_115 (Nat.le_of_ble_eq_true rfl) rfl ?_
      refine eg_aload_n (i := 0) 1 dX12_carton_117 rfl rfl ?_
      replace hF := eg_bind hF; obtain ⟨p10, e11, hF⟩ := hF
      refine eg_getR dX12_carton_118 e11 (Nat.le_of_ble_eq_true rfl) (Nat.le_of_ble_eq_true rfl) rfl ew_372 ?_
      refine eg_iload (i := 7) 8 dX12_carton_121 rfl ?_
      refine eg_iload (i := 9) 0 dX12_carton_123 rfl ?_
      refine eg_aload_n (i := 0) 1 dX12_carton_125 rfl rfl ?_
      replace hF := eg_bind hF; obtain ⟨p12, e13, hF⟩ := hF
      refine eg_getR dX12_carton_126 e13 (Nat.le_of_ble_eq_true rfl) (Nat.le_of_ble_eq_true rfl) rfl ew_359 ?_
      refine eg_iload (i := 6) 7 dX12_carton_129 rfl ?_
      refine eg_iload (i := 5) 6 dX12_carton_131 rfl ?_
      replace hF := eg_bind hF; obtain ⟨⟨v15, h14⟩, e16, hF⟩ := hF
      refine eg_callV (c := 7) (n := 2) [.int l6, .int l5] dX12_carton_133 (mX7_yardsOf e16) rfl (fX7_yardsOf_O e16) (Nat.le_of_ble_eq_true rfl) rfl ew_1039 ew_956 ew_957 ew_104 ew_958 hy_X7_yardsOf rfl (Nat.le_of_ble_eq_true rfl) (Nat.le_of_ble_eq_true rfl) (Nat.le_of_ble_eq_true rfl) ?_
      refine eg_aload_n (i := 0) 1 dX12_carton_136 rfl rfl ?_
      replace hF := eg_bind hF; obtain ⟨p17, e18, hF⟩ := hF
      refine eg_getR dX12_carton_137 e18 (Nat.le_of_ble_eq_true rfl) (Nat.le_of_ble_eq_true rfl) rfl ew_359 ?_
      refine eg_iconst (v := (0 : Int32)) dX12_carton_140 (by decide) ?_
      replace hF := eg_bind hF; obtain ⟨⟨v20, h19⟩, e21, hF⟩ := hF
      refine eg_callV (c := 7) (n := 1) [.int (0 : Int32)] dX12_carton_141 (mX7_told e21) rfl (fX7_told_O e21) (Nat.le_of_ble_eq_true rfl) rfl ew_717 ew_718 ew_719 ew_104 ew_720 hy_X7_told rfl (Nat.le_of_ble_eq_true rfl) (Nat.le_of_ble_eq_true rfl) (Nat.le_of_ble_eq_true rfl) ?_
      replace hF := eg_bind hF; obtain ⟨⟨v23, h22⟩, e24, hF⟩ := hF
      refine eg_callV (c := 0) (n := 4) [.int l7, .int v8, .int v15, .int v20] dX12_carton_144 (mX0_of e24) rfl (fX0_of_O e24) (Nat.le_of_ble_eq_true rfl) rfl ew_834 ew_835 ew_836 ew_107 ew_837 hy_X0_of rfl (Nat.le_of_ble_eq_true rfl) (Nat.le_of_ble_eq_true rfl) (Nat.le_of_ble_eq_true rfl) ?_
      refine eg_istore (i := 10) [(10, .int v23), (9, .int v8), (0, .ref l0), (1, .int l1), (2, .int l2), (3, .int l3), (4, .int l4), (5, .int l5), (6, .int l6), (7, .int l7), (8, .int l8)] dX12_carton_147 (Nat.le_of_ble_eq_true rfl) rfl ?_
      refine eg_aload_n (i := 0) 2 dX12_carton_149 rfl rfl ?_
      replace hF := eg_bind hF; obtain ⟨p25, e26, hF⟩ := hF
      refine eg_getR dX12_carton_150 e26 (Nat.le_of_ble_eq_true rfl) (Nat.le_of_ble_eq_true rfl) rfl ew_374 ?_
      refine eg_iload (i := 6) 8 dX12_carton_153 rfl ?_
      refine eg_iconst (v := (1 : Int32)) dX12_carton_155 (by decide) ?_
      refine eg_isub dX12_carton_156 ?_
      refine eg_iload (i := 8) 10 dX12_carton_157 rfl ?_
      refine eg_iload (i := 10) 0 dX12_carton_159 rfl ?_
      replace hF := eg_bind hF; obtain ⟨⟨v28, h27⟩, e29, hF⟩ := hF
      refine eg_callS (n := 1) [.int v23] dX12_carton_161 (mX11_goodIn e29) rfl ew_878 ew_879 ew_106 ew_880 hy_X11_goodIn.2 rfl (Nat.le_of_ble_eq_true rfl) (Nat.le_of_ble_eq_true rfl) (Nat.le_of_ble_eq_true rfl) ?_
      refine eg_aload_n (i := 0) 2 dX12_carton_164 rfl rfl ?_
      replace hF := eg_bind hF; obtain ⟨p30, e31, hF⟩ := hF
      refine eg_getR dX12_carton_165 e31 (Nat.le_of_ble_eq_true rfl) (Nat.le_of_ble_eq_true rfl) rfl ew_359 ?_
      refine eg_iload (i := 7) 9 dX12_carton_168 rfl ?_
      refine eg_bipush (v := (10 : Int32)) dX12_carton_170 (by decide) ?_
      refine eg_idiv dX12_carton_172 (by decide) ?_
      replace hF := eg_bind hF; obtain ⟨⟨v33, h32⟩, e34, hF⟩ := hF
      refine eg_callV (c := 7) (n := 1) [.int (l7 / (10 : Int32))] dX12_carton_173 (mX7_slips e34) rfl (fX7_slips_O e34) (Nat.le_of_ble_eq_true rfl) rfl ew_905 ew_906 ew_907 ew_104 ew_908 hy_X7_slips rfl (Nat.le_of_ble_eq_true rfl) (Nat.le_of_ble_eq_true rfl) (Nat.le_of_ble_eq_true rfl) ?_
      replace hF := eg_bind hF; obtain ⟨h35, e36, hF⟩ := hF
      refine eg_callV (c := 9) (n := 4) [.int (l6 - (1 : Int32)), .int l8, .int v28, .int v33] dX12_carton_176 (mX9_keepGood e36) rfl (fX9_keepGood_O e36) (Nat.le_of_ble_eq_true rfl) rfl ew_1197 ew_1198 ew_1199 ew_109 ew_1200 hy_X9_keepGood rfl (Nat.le_of_ble_eq_true rfl) (Nat.le_of_ble_eq_true rfl) (Nat.le_of_ble_eq_true rfl) ?_
      refine eg_iinc (i := 8) (v := (l8 + (1 : Int32))) 10 [(8, .int (l8 + (1 : Int32))), (10, .int v23), (9, .int v8), (0, .ref l0), (1, .int l1), (2, .int l2), (3, .int l3), (4, .int l4), (5, .int l5), (6, .int l6), (7, .int l7)] dX12_carton_179 rfl rfl (Nat.le_of_ble_eq_true rfl) rfl ?_
      refine eg_goto 91 dX12_carton_182 rfl ?_
      exact eg_sub [3, 4, 5, 6, 7, 8, 9, 10, 0] [(0, .ref l0), (1, .int l1), (2, .int l2), (3, .int l3), (4, .int l4), (5, .int l5), (6, .int l6), (7, .int l7), (8, .int (l8 + (1 : Int32)))] rfl (hrec h35 l0 l1 l2 l3 l4 l5 l6 l7 (l8 + (1 : Int32)) hF)
def fX12_carton_L74 : Nat → eg_H → Nat → Int32 → Int32 → Int32 → Int32 → Int32 → Int32 → Option (Nat × Int32 × Int32 × eg_H)
  | 0, _, _, _, _, _, _, _, _ => none
  | n + 1, h, l0, l1, l2, l3, l4, l5, l6 =>
    if l3 < l6 then
      (some (l0, l3, l4, h))
    else
      (fX2_twoOf h l6 l1).bind fun ⟨v3, h2⟩ =>
      (fX12_carton_L91 eg_F h2 l0 l1 l2 l3 l4 l5 l6 v3 (0 : Int32)).bind fun e =>
      match e with
      | (p7, v8, v9, v10, v11, v12, v13, h14) =>
        fX12_carton_L74 n h14 p7 v8 v9 v10 v11 v12 (v13 + (1 : Int32))
set_option maxRecDepth 20000 in
theorem fX12_carton_L74_ok {h0 : eg_H} {Z : eg_C → State → Prop} {N S : Nat} : ∀ (n : Nat) (h : eg_H) (l0 : Nat) (l1 : Int32) (l2 : Int32) (l3 : Int32) (l4 : Int32) (l5 : Int32) (l6 : Int32) (eE : Nat × Int32 × Int32 × eg_H), fX12_carton_L74 n h l0 l1 l2 l3 l4 l5 l6 = some eE → (hk0 : ∀ (l0 : Nat) (l3 : Int32) (l4 : Int32) (h : eg_H), eE = (l0, l3, l4, h) → eg_AW (RX12, cX12_carton, 11, 67, none, "carton", (some .int)) Z N S h0 191 [(0, .ref l0), (3, .int l3), (4, .int l4)] [] h) → eg_AW (RX12, cX12_carton, 11, 67, none, "carton", (some .int)) Z N S h0 74 [(0, .ref l0), (1, .int l1), (2, .int l2), (3, .int l3), (4, .int l4), (5, .int l5), (6, .int l6)] [] h := by
  intro n
  induction n with
  | zero => intro h l0 l1 l2 l3 l4 l5 l6 eE hF; exact absurd hF (by intro q; cases q)
  | succ n ih =>
    intro h l0 l1 l2 l3 l4 l5 l6 eE hF hk0
    have hrec := fun (h' : eg_H) (l0 : Nat) (l1 : Int32) (l2 : Int32) (l3 : Int32) (l4 : Int32) (l5 : Int32) (l6 : Int32) hq => ih h' l0 l1 l2 l3 l4 l5 l6 eE hq hk0
    refine eg_iload (i := 6) 6 dX12_carton_74 rfl ?_
    refine eg_iload_n (i := 3) 3 dX12_carton_76 rfl rfl ?_
    refine eg_ic_gt 191 dX12_carton_77 rfl (fun c1 => ?_) (fun c1 => ?_)
    · replace hF := eg_it c1 hF
      exact eg_sub [0, 3, 4] [(0, .ref l0), (3, .int l3), (4, .int l4)] rfl (hk0 l0 l3 l4 h (Option.some.inj hF).symm)
    · replace hF := eg_if c1 hF
      refine eg_iload (i := 6) 6 dX12_carton_80 rfl ?_
      refine eg_iload_n (i := 1) 1 dX12_carton_82 rfl rfl ?_
      replace hF := eg_bind hF; obtain ⟨⟨v3, h2⟩, e4, hF⟩ := hF
      refine eg_callS (n := 2) [.int l6, .int l1] dX12_carton_83 (mX2_twoOf e4) rfl ew_1040 ew_960 ew_108 ew_961 hy_X2_twoOf.2 rfl (Nat.le_of_ble_eq_true rfl) (Nat.le_of_ble_eq_true rfl) (Nat.le_of_ble_eq_true rfl) ?_
      refine eg_istore (i := 7) [(7, .int v3), (0, .ref l0), (1, .int l1), (2, .int l2), (3, .int l3), (4, .int l4), (5, .int l5), (6, .int l6)] dX12_carton_86 (Nat.le_of_ble_eq_true rfl) rfl ?_
      refine eg_iconst (v := (0 : Int32)) dX12_carton_88 (by decide) ?_
      refine eg_istore (i := 8) [(8, .int (0 : Int32)), (7, .int v3), (0, .ref l0), (1, .int l1), (2, .int l2), (3, .int l3), (4, .int l4), (5, .int l5), (6, .int l6)] dX12_carton_89 (Nat.le_of_ble_eq_true rfl) rfl ?_
      replace hF := eg_bind hF; obtain ⟨x6, e5, hF⟩ := hF
      refine eg_sub [2, 3, 4, 5, 6, 7, 8, 1, 0] [(0, .ref l0), (1, .int l1), (2, .int l2), (3, .int l3), (4, .int l4), (5, .int l5), (6, .int l6), (7, .int v3), (8, .int (0 : Int32))] rfl (fX12_carton_L91_ok eg_F h2 l0 l1 l2 l3 l4 l5 l6 v3 (0 : Int32) x6 e5 ?_)
      · intro p7 v8 v9 v10 v11 v12 v13 h14 e15
        subst e15
        refine eg_iinc (i := 6) (v := (v13 + (1 : Int32))) 6 [(6, .int (v13 + (1 : Int32))), (0, .ref p7), (1, .int v8), (2, .int v9), (3, .int v10), (4, .int v11), (5, .int v12)] dX12_carton_185 rfl rfl (Nat.le_of_ble_eq_true rfl) rfl ?_
        refine eg_goto 74 dX12_carton_188 rfl ?_
        exact eg_sub [1, 2, 3, 4, 5, 6, 0] [(0, .ref p7), (1, .int v8), (2, .int v9), (3, .int v10), (4, .int v11), (5, .int v12), (6, .int (v13 + (1 : Int32)))] rfl (hrec h14 p7 v8 v9 v10 v11 v12 (v13 + (1 : Int32)) hF)
def fX12_carton (h : eg_H) (l0 : Nat) (l1 : Int32) (l2 : Int32) (l3 : Int32) (l4 : Int32) : Option (Int32 × eg_H) :=
  if eg_isO h 12 l0 then (
    (eg_gR h 12 3 l0).bind fun p1 =>
    (fX7_isPair h p1 l1).bind fun ⟨v4, h3⟩ =>
    if v4 = 0 then
      (some ((-1 : Int32), h3))
    else
      (fX12_isEnd h3 l2).bind fun ⟨v8, h7⟩ =>
      if v8 = 0 then
        (some ((-1 : Int32), h7))
      else
        if l3 < (1 : Int32) then
          (some ((-1 : Int32), h7))
        else
          (eg_gR h7 12 3 l0).bind fun p12 =>
          (fX7_eggs h7 p12).bind fun ⟨v15, h14⟩ =>
          if v15 < l3 then
            (some ((-1 : Int32), h14))
          else
            (fX12_isEither h14 l4).bind fun ⟨v19, h18⟩ =>
            if v19 = 0 then
              (some ((-1 : Int32), h18))
            else
              (eg_gR h18 12 3 l0).bind fun p22 =>
              (fX7_told h18 p22 (2 : Int32)).bind fun ⟨v25, h24⟩ =>
              (eg_gR h24 12 3 l0).bind fun p27 =>
              (fX7_yardsOf h24 p27 l3 v25).bind fun ⟨v30, h29⟩ =>
              if v30 ≤ (60 : Int32) then
                ((fX12_carton_L74 eg_F h29 l0 l1 l2 l3 l4 v25 (1 : Int32)).bind fun e =>
                match e with
                | (p35, v36, v37, h38) =>
                  (eg_gR h38 12 18 p35).bind fun p39 =>
                  (eg_gR h38 12 3 p35).bind fun p41 =>
                  (fX7_eggs h38 p41).bind fun ⟨v44, h43⟩ =>
                  (fX9_findRow h43 p39 v36 v44 (0 : Int32)).bind fun h46 =>
                  if v37 = 0 then
                    ((eg_gR h46 12 18 p35).bind fun p49 =>
                    (fX9_digits h46 p49).bind fun ⟨v52, h51⟩ =>
                    some (v52, h51))
                  else
                    (eg_gR h46 12 18 p35).bind fun p54 =>
                    (fX9_parts h46 p54).bind fun ⟨v57, h56⟩ =>
                    some (v57, h56))
              else
                some ((-1 : Int32), h29)) else none
theorem fX12_carton_O {h : eg_H} {l0 : Nat} {l1 : Int32} {l2 : Int32} {l3 : Int32} {l4 : Int32} {rE : Int32} {hE : eg_H} (hF : fX12_carton h l0 l1 l2 l3 l4 = some (rE, hE)) : eg_isO h 12 l0 := (eg_ifn hF).1
set_option maxRecDepth 20000 in
theorem mX12_carton {h : eg_H} {l0 : Nat} {l1 : Int32} {l2 : Int32} {l3 : Int32} {l4 : Int32} {rE : Int32} {hE : eg_H} (hF : fX12_carton h l0 l1 l2 l3 l4 = some (rE, hE)) : eg_Met yX12_carton cX12_carton 11 (some .int) 67 [.ref l0, .int l1, .int l2, .int l3, .int l4] h (some (.int rE)) hE := by
  refine eg_enter rfl (Nat.le_of_ble_eq_true rfl) ?_
  show eg_AW (RX12, cX12_carton, 11, 67, none, "carton", (some .int)) (eg_Zm (some (.int rE)) hE h) (eg_nc hE) (eg_ns hE) h 0 [(0, .ref l0), (1, .int l1), (2, .int l2), (3, .int l3), (4, .int l4)] [] h
  replace hF := (eg_ifn hF).2
  refine eg_aload_n (i := 0) 0 dX12_carton_0 rfl rfl ?_
  replace hF := eg_bind hF; obtain ⟨p1, e2, hF⟩ := hF
  refine eg_getR dX12_carton_1 e2 (Nat.le_of_ble_eq_true rfl) (Nat.le_of_ble_eq_true rfl) rfl ew_359 ?_
  refine eg_iload_n (i := 1) 1 dX12_carton_4 rfl rfl ?_
  replace hF := eg_bind hF; obtain ⟨⟨v4, h3⟩, e5, hF⟩ := hF
  refine eg_callV (c := 7) (n := 1) [.int l1] dX12_carton_5 (mX7_isPair e5) rfl (fX7_isPair_O e5) (Nat.le_of_ble_eq_true rfl) rfl ew_790 ew_791 ew_792 ew_104 ew_793 hy_X7_isPair rfl (Nat.le_of_ble_eq_true rfl) (Nat.le_of_ble_eq_true rfl) (Nat.le_of_ble_eq_true rfl) ?_
  refine eg_if_eq 42 dX12_carton_8 rfl (fun c6 => ?_) (fun c6 => ?_)
  · replace hF := eg_it c6 hF
    refine eg_iconst (v := (-1 : Int32)) dX12_carton_42 (by decide) ?_
    exact eg_iretE dX12_carton_43 hF
  · replace hF := eg_if c6 hF
    refine eg_iload_n (i := 2) 2 dX12_carton_11 rfl rfl ?_
    replace hF := eg_bind hF; obtain ⟨⟨v8, h7⟩, e9, hF⟩ := hF
    refine eg_callS (n := 1) [.int l2] dX12_carton_12 (mX12_isEnd e9) rfl ew_733 ew_734 ew_100 ew_735 hy_X12_isEnd.2 rfl (Nat.le_of_ble_eq_true rfl) (Nat.le_of_ble_eq_true rfl) (Nat.le_of_ble_eq_true rfl) ?_
    refine eg_if_eq 42 dX12_carton_15 rfl (fun c10 => ?_) (fun c10 => ?_)
    · replace hF := eg_it c10 hF
      refine eg_iconst (v := (-1 : Int32)) dX12_carton_42 (by decide) ?_
      exact eg_iretE dX12_carton_43 hF
    · replace hF := eg_if c10 hF
      refine eg_iload_n (i := 3) 3 dX12_carton_18 rfl rfl ?_
      refine eg_iconst (v := (1 : Int32)) dX12_carton_19 (by decide) ?_
      refine eg_ic_lt 42 dX12_carton_20 rfl (fun c11 => ?_) (fun c11 => ?_)
      · replace hF := eg_it c11 hF
        refine eg_iconst (v := (-1 : Int32)) dX12_carton_42 (by decide) ?_
        exact eg_iretE dX12_carton_43 hF
      · replace hF := eg_if c11 hF
        refine eg_iload_n (i := 3) 3 dX12_carton_23 rfl rfl ?_
        refine eg_aload_n (i := 0) 0 dX12_carton_24 rfl rfl ?_
        replace hF := eg_bind hF; obtain ⟨p12, e13, hF⟩ := hF
        refine eg_getR dX12_carton_25 e13 (Nat.le_of_ble_eq_true rfl) (Nat.le_of_ble_eq_true rfl) rfl ew_359 ?_
        replace hF := eg_bind hF; obtain ⟨⟨v15, h14⟩, e16, hF⟩ := hF
        refine eg_callV (c := 7) (n := 0) [] dX12_carton_28 (mX7_eggs e16) rfl (fX7_eggs_O e16) (Nat.le_of_ble_eq_true rfl) rfl ew_922 ew_923 ew_924 ew_104 ew_925 hy_X7_eggs rfl (Nat.le_of_ble_eq_true rfl) (Nat.le_of_ble_eq_true rfl) (Nat.le_of_ble_eq_true rfl) ?_
        refine eg_ic_gt 42 dX12_carton_31 rfl (fun c17 => ?_) (fun c17 => ?_)
        · replace hF := eg_it c17 hF
          refine eg_iconst (v := (-1 : Int32)) dX12_carton_42 (by decide) ?_
          exact eg_iretE dX12_carton_43 hF
        · replace hF := eg_if c17 hF
          refine eg_iload (i := 4) 4 dX12_carton_34 rfl ?_
          replace hF := eg_bind hF; obtain ⟨⟨v19, h18⟩, e20, hF⟩ := hF
          refine eg_callS (n := 1) [.int l4] dX12_carton_36 (mX12_isEither e20) rfl ew_993 ew_994 ew_100 ew_995 hy_X12_isEither.2 rfl (Nat.le_of_ble_eq_true rfl) (Nat.le_of_ble_eq_true rfl) (Nat.le_of_ble_eq_true rfl) ?_
          refine eg_if_ne 44 dX12_carton_39 rfl (fun c21 => ?_) (fun c21 => ?_)
          · replace hF := eg_it c21 hF
            refine eg_iconst (v := (-1 : Int32)) dX12_carton_42 (by decide) ?_
            exact eg_iretE dX12_carton_43 hF
          · replace hF := eg_if c21 hF
            refine eg_aload_n (i := 0) 0 dX12_carton_44 rfl rfl ?_
            replace hF := eg_bind hF; obtain ⟨p22, e23, hF⟩ := hF
            refine eg_getR dX12_carton_45 e23 (Nat.le_of_ble_eq_true rfl) (Nat.le_of_ble_eq_true rfl) rfl ew_359 ?_
            refine eg_iconst (v := (2 : Int32)) dX12_carton_48 (by decide) ?_
            replace hF := eg_bind hF; obtain ⟨⟨v25, h24⟩, e26, hF⟩ := hF
            refine eg_callV (c := 7) (n := 1) [.int (2 : Int32)] dX12_carton_49 (mX7_told e26) rfl (fX7_told_O e26) (Nat.le_of_ble_eq_true rfl) rfl ew_717 ew_718 ew_719 ew_104 ew_720 hy_X7_told rfl (Nat.le_of_ble_eq_true rfl) (Nat.le_of_ble_eq_true rfl) (Nat.le_of_ble_eq_true rfl) ?_
            refine eg_istore (i := 5) [(5, .int v25), (0, .ref l0), (1, .int l1), (2, .int l2), (3, .int l3), (4, .int l4)] dX12_carton_52 (Nat.le_of_ble_eq_true rfl) rfl ?_
            refine eg_aload_n (i := 0) 1 dX12_carton_54 rfl rfl ?_
            replace hF := eg_bind hF; obtain ⟨p27, e28, hF⟩ := hF
            refine eg_getR dX12_carton_55 e28 (Nat.le_of_ble_eq_true rfl) (Nat.le_of_ble_eq_true rfl) rfl ew_359 ?_
            refine eg_iload_n (i := 3) 4 dX12_carton_58 rfl rfl ?_
            refine eg_iload (i := 5) 0 dX12_carton_59 rfl ?_
            replace hF := eg_bind hF; obtain ⟨⟨v30, h29⟩, e31, hF⟩ := hF
            refine eg_callV (c := 7) (n := 2) [.int l3, .int v25] dX12_carton_61 (mX7_yardsOf e31) rfl (fX7_yardsOf_O e31) (Nat.le_of_ble_eq_true rfl) rfl ew_1039 ew_956 ew_957 ew_104 ew_958 hy_X7_yardsOf rfl (Nat.le_of_ble_eq_true rfl) (Nat.le_of_ble_eq_true rfl) (Nat.le_of_ble_eq_true rfl) ?_
            refine eg_bipush (v := (60 : Int32)) dX12_carton_64 (by decide) ?_
            refine eg_ic_le 71 dX12_carton_66 rfl (fun c32 => ?_) (fun c32 => ?_)
            · replace hF := eg_it c32 hF
              refine eg_iconst (v := (1 : Int32)) dX12_carton_71 (by decide) ?_
              refine eg_istore (i := 6) [(6, .int (1 : Int32)), (5, .int v25), (0, .ref l0), (1, .int l1), (2, .int l2), (3, .int l3), (4, .int l4)] dX12_carton_72 (Nat.le_of_ble_eq_true rfl) rfl ?_
              replace hF := eg_bind hF; obtain ⟨x34, e33, hF⟩ := hF
              refine eg_sub [2, 3, 4, 5, 6, 1, 0] [(0, .ref l0), (1, .int l1), (2, .int l2), (3, .int l3), (4, .int l4), (5, .int v25), (6, .int (1 : Int32))] rfl (fX12_carton_L74_ok eg_F h29 l0 l1 l2 l3 l4 v25 (1 : Int32) x34 e33 ?_)
              · intro p35 v36 v37 h38 e59
                subst e59
                refine eg_aload_n (i := 0) 0 dX12_carton_191 rfl rfl ?_
                replace hF := eg_bind hF; obtain ⟨p39, e40, hF⟩ := hF
                refine eg_getR dX12_carton_192 e40 (Nat.le_of_ble_eq_true rfl) (Nat.le_of_ble_eq_true rfl) rfl ew_374 ?_
                refine eg_iload_n (i := 3) 1 dX12_carton_195 rfl rfl ?_
                refine eg_aload_n (i := 0) 0 dX12_carton_196 rfl rfl ?_
                replace hF := eg_bind hF; obtain ⟨p41, e42, hF⟩ := hF
                refine eg_getR dX12_carton_197 e42 (Nat.le_of_ble_eq_true rfl) (Nat.le_of_ble_eq_true rfl) rfl ew_359 ?_
                replace hF := eg_bind hF; obtain ⟨⟨v44, h43⟩, e45, hF⟩ := hF
                refine eg_callV (c := 7) (n := 0) [] dX12_carton_200 (mX7_eggs e45) rfl (fX7_eggs_O e45) (Nat.le_of_ble_eq_true rfl) rfl ew_922 ew_923 ew_924 ew_104 ew_925 hy_X7_eggs rfl (Nat.le_of_ble_eq_true rfl) (Nat.le_of_ble_eq_true rfl) (Nat.le_of_ble_eq_true rfl) ?_
                refine eg_iconst (v := (0 : Int32)) dX12_carton_203 (by decide) ?_
                replace hF := eg_bind hF; obtain ⟨h46, e47, hF⟩ := hF
                refine eg_callV (c := 9) (n := 3) [.int v36, .int v44, .int (0 : Int32)] dX12_carton_204 (mX9_findRow e47) rfl (fX9_findRow_O e47) (Nat.le_of_ble_eq_true rfl) rfl ew_1201 ew_1202 ew_1203 ew_109 ew_1204 hy_X9_findRow rfl (Nat.le_of_ble_eq_true rfl) (Nat.le_of_ble_eq_true rfl) (Nat.le_of_ble_eq_true rfl) ?_
                refine eg_iload (i := 4) 2 dX12_carton_207 rfl ?_
                refine eg_if_ne 222 dX12_carton_209 rfl (fun c48 => ?_) (fun c48 => ?_)
                · replace hF := eg_it c48 hF
                  refine eg_aload_n (i := 0) 0 dX12_carton_212 rfl rfl ?_
                  replace hF := eg_bind hF; obtain ⟨p49, e50, hF⟩ := hF
                  refine eg_getR dX12_carton_213 e50 (Nat.le_of_ble_eq_true rfl) (Nat.le_of_ble_eq_true rfl) rfl ew_374 ?_
                  replace hF := eg_bind hF; obtain ⟨⟨v52, h51⟩, e53, hF⟩ := hF
                  refine eg_callV (c := 9) (n := 0) [] dX12_carton_216 (mX9_digits e53) rfl (fX9_digits_O e53) (Nat.le_of_ble_eq_true rfl) rfl ew_1090 ew_1091 ew_1092 ew_109 ew_1093 hy_X9_digits rfl (Nat.le_of_ble_eq_true rfl) (Nat.le_of_ble_eq_true rfl) (Nat.le_of_ble_eq_true rfl) ?_
                  refine eg_goto 229 dX12_carton_219 rfl ?_
                  exact eg_iretE dX12_carton_229 hF
                · replace hF := eg_if c48 hF
                  refine eg_aload_n (i := 0) 0 dX12_carton_222 rfl rfl ?_
                  replace hF := eg_bind hF; obtain ⟨p54, e55, hF⟩ := hF
                  refine eg_getR dX12_carton_223 e55 (Nat.le_of_ble_eq_true rfl) (Nat.le_of_ble_eq_true rfl) rfl ew_374 ?_
                  replace hF := eg_bind hF; obtain ⟨⟨v57, h56⟩, e58, hF⟩ := hF
                  refine eg_callV (c := 9) (n := 0) [] dX12_carton_226 (mX9_parts e58) rfl (fX9_parts_O e58) (Nat.le_of_ble_eq_true rfl) rfl ew_1214 ew_1215 ew_1216 ew_109 ew_1217 hy_X9_parts rfl (Nat.le_of_ble_eq_true rfl) (Nat.le_of_ble_eq_true rfl) (Nat.le_of_ble_eq_true rfl) ?_
                  exact eg_iretE dX12_carton_229 hF
            · replace hF := eg_if c32 hF
              refine eg_iconst (v := (-1 : Int32)) dX12_carton_69 (by decide) ?_
              exact eg_iretE dX12_carton_70 hF
theorem dX12_chain_0 : decode cX12_chain 0 = .ok (.aload_n 0, 1) := by decide +kernel
theorem dX12_chain_1 : decode cX12_chain 1 = .ok (.getfield 35, 3) := by decide +kernel
theorem dX12_chain_4 : decode cX12_chain 4 = .ok (.invokevirtual 159, 3) := by decide +kernel
theorem dX12_chain_7 : decode cX12_chain 7 = .ok (.istore 4, 2) := by decide +kernel
theorem dX12_chain_9 : decode cX12_chain 9 = .ok (.aload_n 0, 1) := by decide +kernel
theorem dX12_chain_10 : decode cX12_chain 10 = .ok (.getfield 35, 3) := by decide +kernel
theorem dX12_chain_13 : decode cX12_chain 13 = .ok (.iload_n 2, 1) := by decide +kernel
theorem dX12_chain_14 : decode cX12_chain 14 = .ok (.invokevirtual 182, 3) := by decide +kernel
theorem dX12_chain_17 : decode cX12_chain 17 = .ok (.ifCond .eq 23, 3) := by decide +kernel
theorem dX12_chain_20 : decode cX12_chain 20 = .ok (.iload_n 3, 1) := by decide +kernel
theorem dX12_chain_21 : decode cX12_chain 21 = .ok (.invokestatic 227, 3) := by decide +kernel
theorem dX12_chain_24 : decode cX12_chain 24 = .ok (.ifCond .eq 16, 3) := by decide +kernel
theorem dX12_chain_27 : decode cX12_chain 27 = .ok (.aload_n 0, 1) := by decide +kernel
theorem dX12_chain_28 : decode cX12_chain 28 = .ok (.getfield 115, 3) := by decide +kernel
theorem dX12_chain_31 : decode cX12_chain 31 = .ok (.iload_n 1, 1) := by decide +kernel
theorem dX12_chain_32 : decode cX12_chain 32 = .ok (.iload 4, 2) := by decide +kernel
theorem dX12_chain_34 : decode cX12_chain 34 = .ok (.invokevirtual 442, 3) := by decide +kernel
theorem dX12_chain_37 : decode cX12_chain 37 = .ok (.ifCond .ne 5, 3) := by decide +kernel
theorem dX12_chain_40 : decode cX12_chain 40 = .ok (.iconst (-1), 1) := by decide +kernel
theorem dX12_chain_41 : decode cX12_chain 41 = .ok (.ireturn, 1) := by decide +kernel
theorem dX12_chain_42 : decode cX12_chain 42 = .ok (.ldc2_w 398, 3) := by decide +kernel
theorem dX12_chain_45 : decode cX12_chain 45 = .ok (.lstore 5, 2) := by decide +kernel
theorem dX12_chain_47 : decode cX12_chain 47 = .ok (.iconst 1, 1) := by decide +kernel
theorem dX12_chain_48 : decode cX12_chain 48 = .ok (.istore 7, 2) := by decide +kernel
theorem dX12_chain_50 : decode cX12_chain 50 = .ok (.iload 7, 2) := by decide +kernel
theorem dX12_chain_52 : decode cX12_chain 52 = .ok (.iload 4, 2) := by decide +kernel
theorem dX12_chain_54 : decode cX12_chain 54 = .ok (.if_icmp .ge 81, 3) := by decide +kernel
theorem dX12_chain_57 : decode cX12_chain 57 = .ok (.aload_n 0, 1) := by decide +kernel
theorem dX12_chain_58 : decode cX12_chain 58 = .ok (.getfield 115, 3) := by decide +kernel
theorem dX12_chain_61 : decode cX12_chain 61 = .ok (.iload 7, 2) := by decide +kernel
theorem dX12_chain_63 : decode cX12_chain 63 = .ok (.iconst 1, 1) := by decide +kernel
theorem dX12_chain_64 : decode cX12_chain 64 = .ok (.isub, 1) := by decide +kernel
theorem dX12_chain_65 : decode cX12_chain 65 = .ok (.invokevirtual 445, 3) := by decide +kernel
theorem dX12_chain_68 : decode cX12_chain 68 = .ok (.istore 8, 2) := by decide +kernel
theorem dX12_chain_70 : decode cX12_chain 70 = .ok (.aload_n 0, 1) := by decide +kernel
theorem dX12_chain_71 : decode cX12_chain 71 = .ok (.getfield 101, 3) := by decide +kernel
theorem dX12_chain_74 : decode cX12_chain 74 = .ok (.bipush 10, 2) := by decide +kernel
theorem dX12_chain_76 : decode cX12_chain 76 = .ok (.iload 8, 2) := by decide +kernel
theorem dX12_chain_78 : decode cX12_chain 78 = .ok (.imul, 1) := by decide +kernel
theorem dX12_chain_79 : decode cX12_chain 79 = .ok (.aload_n 0, 1) := by decide +kernel
theorem dX12_chain_80 : decode cX12_chain 80 = .ok (.getfield 115, 3) := by decide +kernel
theorem dX12_chain_83 : decode cX12_chain 83 = .ok (.iload 7, 2) := by decide +kernel
theorem dX12_chain_85 : decode cX12_chain 85 = .ok (.invokevirtual 445, 3) := by decide +kernel
theorem dX12_chain_88 : decode cX12_chain 88 = .ok (.iadd, 1) := by decide +kernel
theorem dX12_chain_89 : decode cX12_chain 89 = .ok (.bipush 10, 2) := by decide +kernel
theorem dX12_chain_91 : decode cX12_chain 91 = .ok (.iload_n 2, 1) := by decide +kernel
theorem dX12_chain_92 : decode cX12_chain 92 = .ok (.imul, 1) := by decide +kernel
theorem dX12_chain_93 : decode cX12_chain 93 = .ok (.iload_n 3, 1) := by decide +kernel
theorem dX12_chain_94 : decode cX12_chain 94 = .ok (.aload_n 0, 1) := by decide +kernel
theorem dX12_chain_95 : decode cX12_chain 95 = .ok (.getfield 35, 3) := by decide +kernel
theorem dX12_chain_98 : decode cX12_chain 98 = .ok (.iconst 0, 1) := by decide +kernel
theorem dX12_chain_99 : decode cX12_chain 99 = .ok (.invokevirtual 209, 3) := by decide +kernel
theorem dX12_chain_102 : decode cX12_chain 102 = .ok (.invokevirtual 250, 3) := by decide +kernel
theorem dX12_chain_105 : decode cX12_chain 105 = .ok (.istore 9, 2) := by decide +kernel
theorem dX12_chain_107 : decode cX12_chain 107 = .ok (.lload 5, 2) := by decide +kernel
theorem dX12_chain_109 : decode cX12_chain 109 = .ok (.iload 9, 2) := by decide +kernel
theorem dX12_chain_111 : decode cX12_chain 111 = .ok (.invokestatic 260, 3) := by decide +kernel
theorem dX12_chain_114 : decode cX12_chain 114 = .ok (.i2l, 1) := by decide +kernel
theorem dX12_chain_115 : decode cX12_chain 115 = .ok (.lmul, 1) := by decide +kernel
theorem dX12_chain_116 : decode cX12_chain 116 = .ok (.aload_n 0, 1) := by decide +kernel
theorem dX12_chain_117 : decode cX12_chain 117 = .ok (.getfield 35, 3) := by decide +kernel
theorem dX12_chain_120 : decode cX12_chain 120 = .ok (.iload 8, 2) := by decide +kernel
theorem dX12_chain_122 : decode cX12_chain 122 = .ok (.invokevirtual 299, 3) := by decide +kernel
theorem dX12_chain_125 : decode cX12_chain 125 = .ok (.i2l, 1) := by decide +kernel
theorem dX12_chain_126 : decode cX12_chain 126 = .ok (.ldiv, 1) := by decide +kernel
theorem dX12_chain_127 : decode cX12_chain 127 = .ok (.lstore 5, 2) := by decide +kernel
theorem dX12_chain_129 : decode cX12_chain 129 = .ok (.iinc 7 1, 3) := by decide +kernel
theorem dX12_chain_132 : decode cX12_chain 132 = .ok (.goto (-82), 3) := by decide +kernel
theorem dX12_chain_135 : decode cX12_chain 135 = .ok (.lload 5, 2) := by decide +kernel
theorem dX12_chain_137 : decode cX12_chain 137 = .ok (.l2i, 1) := by decide +kernel
theorem dX12_chain_138 : decode cX12_chain 138 = .ok (.ireturn, 1) := by decide +kernel
def fX12_chain_L50 : Nat → eg_H → Nat → Int32 → Int32 → Int32 → Int64 → Int32 → Option (Int64 × eg_H)
  | 0, _, _, _, _, _, _, _ => none
  | n + 1, h, l0, l2, l3, l4, l5, l7 =>
    if l4 ≤ l7 then
      (some (l5, h))
    else
      (eg_gR h 12 18 l0).bind fun p2 =>
      (fX9_placed h p2 (l7 - (1 : Int32))).bind fun ⟨v5, h4⟩ =>
      (eg_gR h4 12 16 l0).bind fun p7 =>
      (eg_gR h4 12 18 l0).bind fun p9 =>
      (fX9_placed h4 p9 l7).bind fun ⟨v12, h11⟩ =>
      (eg_gR h11 12 3 l0).bind fun p14 =>
      (fX7_told h11 p14 (0 : Int32)).bind fun ⟨v17, h16⟩ =>
      (fX0_of h16 p7 (((10 : Int32) * v5) + v12) ((10 : Int32) * l2) l3 v17).bind fun ⟨v20, h19⟩ =>
      (fX11_goodIn h19 v20).bind fun ⟨v23, h22⟩ =>
      (eg_gR h22 12 3 l0).bind fun p25 =>
      (fX7_slips h22 p25 v5).bind fun ⟨v28, h27⟩ =>
      if v28.toInt64 = 0 then none else
      (some (((l5 * v23.toInt64) / v28.toInt64))).bind fun v31 =>
      fX12_chain_L50 n h27 l0 l2 l3 l4 v31 (l7 + (1 : Int32))
set_option maxRecDepth 20000 in
theorem fX12_chain_L50_ok {h0 : eg_H} {Z : eg_C → State → Prop} {N S : Nat} : ∀ (n : Nat) (h : eg_H) (l0 : Nat) (l2 : Int32) (l3 : Int32) (l4 : Int32) (l5 : Int64) (l7 : Int32) (eE : Int64 × eg_H), fX12_chain_L50 n h l0 l2 l3 l4 l5 l7 = some eE → (hk0 : ∀ (l5 : Int64) (h : eg_H), eE = (l5, h) → eg_AW (RX12, cX12_chain, 10, 6, none, "chain", (some .int)) Z N S h0 135 [(5, .long l5)] [] h) → eg_AW (RX12, cX12_chain, 10, 6, none, "chain", (some .int)) Z N S h0 50 [(0, .ref l0), (2, .int l2), (3, .int l3), (4, .int l4), (5, .long l5), (7, .int l7)] [] h := by
  intro n
  induction n with
  | zero => intro h l0 l2 l3 l4 l5 l7 eE hF; exact absurd hF (by intro q; cases q)
  | succ n ih =>
    intro h l0 l2 l3 l4 l5 l7 eE hF hk0
    have hrec := fun (h' : eg_H) (l0 : Nat) (l2 : Int32) (l3 : Int32) (l4 : Int32) (l5 : Int64) (l7 : Int32) hq => ih h' l0 l2 l3 l4 l5 l7 eE hq hk0
    refine eg_iload (i := 7) 5 dX12_chain_50 rfl ?_
    refine eg_iload (i := 4) 3 dX12_chain_52 rfl ?_
    refine eg_ic_ge 135 dX12_chain_54 rfl (fun c1 => ?_) (fun c1 => ?_)
    · replace hF := eg_it c1 hF
      exact eg_sub [4] [(5, .long l5)] rfl (hk0 l5 h (Option.some.inj hF).symm)
    · replace hF := eg_if c1 hF
      refine eg_aload_n (i := 0) 0 dX12_chain_57 rfl rfl ?_
      replace hF := eg_bind hF; obtain ⟨p2, e3, hF⟩ := hF
      refine eg_getR dX12_chain_58 e3 (Nat.le_of_ble_eq_true rfl) (Nat.le_of_ble_eq_true rfl) rfl ew_374 ?_
      refine eg_iload (i := 7) 5 dX12_chain_61 rfl ?_
      refine eg_iconst (v := (1 : Int32)) dX12_chain_63 (by decide) ?_
      refine eg_isub dX12_chain_64 ?_
      replace hF := eg_bind hF; obtain ⟨⟨v5, h4⟩, e6, hF⟩ := hF
      refine eg_callV (c := 9) (n := 1) [.int (l7 - (1 : Int32))] dX12_chain_65 (mX9_placed e6) rfl (fX9_placed_O e6) (Nat.le_of_ble_eq_true rfl) rfl ew_1226 ew_1227 ew_1228 ew_109 ew_1229 hy_X9_placed rfl (Nat.le_of_ble_eq_true rfl) (Nat.le_of_ble_eq_true rfl) (Nat.le_of_ble_eq_true rfl) ?_
      refine eg_istore (i := 8) [(8, .int v5), (0, .ref l0), (2, .int l2), (3, .int l3), (4, .int l4), (5, .long l5), (7, .int l7)] dX12_chain_68 (Nat.le_of_ble_eq_true rfl) rfl ?_
      refine eg_aload_n (i := 0) 1 dX12_chain_70 rfl rfl ?_
      replace hF := eg_bind hF; obtain ⟨p7, e8, hF⟩ := hF
      refine eg_getR dX12_chain_71 e8 (Nat.le_of_ble_eq_true rfl) (Nat.le_of_ble_eq_true rfl) rfl ew_372 ?_
      refine eg_bipush (v := (10 : Int32)) dX12_chain_74 (by decide) ?_
      refine eg_iload (i := 8) 0 dX12_chain_76 rfl ?_
      refine eg_imul dX12_chain_78 ?_
      refine eg_aload_n (i := 0) 1 dX12_chain_79 rfl rfl ?_
      replace hF := eg_bind hF; obtain ⟨p9, e10, hF⟩ := hF
      refine eg_getR dX12_chain_80 e10 (Nat.le_of_ble_eq_true rfl) (Nat.le_of_ble_eq_true rfl) rfl ew_374 ?_
      refine eg_iload (i := 7) 6 dX12_chain_83 rfl ?_
      replace hF := eg_bind hF; obtain ⟨⟨v12, h11⟩, e13, hF⟩ := hF
      refine eg_callV (c := 9) (n := 1) [.int l7] dX12_chain_85 (mX9_placed e13) rfl (fX9_placed_O e13) (Nat.le_of_ble_eq_true rfl) rfl ew_1226 ew_1227 ew_1228 ew_109 ew_1229 hy_X9_placed rfl (Nat.le_of_ble_eq_true rfl) (Nat.le_of_ble_eq_true rfl) (Nat.le_of_ble_eq_true rfl) ?_
      refine eg_iadd dX12_chain_88 ?_
      refine eg_bipush (v := (10 : Int32)) dX12_chain_89 (by decide) ?_
      refine eg_iload_n (i := 2) 2 dX12_chain_91 rfl rfl ?_
      refine eg_imul dX12_chain_92 ?_
      refine eg_iload_n (i := 3) 3 dX12_chain_93 rfl rfl ?_
      refine eg_aload_n (i := 0) 1 dX12_chain_94 rfl rfl ?_
      replace hF := eg_bind hF; obtain ⟨p14, e15, hF⟩ := hF
      refine eg_getR dX12_chain_95 e15 (Nat.le_of_ble_eq_true rfl) (Nat.le_of_ble_eq_true rfl) rfl ew_359 ?_
      refine eg_iconst (v := (0 : Int32)) dX12_chain_98 (by decide) ?_
      replace hF := eg_bind hF; obtain ⟨⟨v17, h16⟩, e18, hF⟩ := hF
      refine eg_callV (c := 7) (n := 1) [.int (0 : Int32)] dX12_chain_99 (mX7_told e18) rfl (fX7_told_O e18) (Nat.le_of_ble_eq_true rfl) rfl ew_717 ew_718 ew_719 ew_104 ew_720 hy_X7_told rfl (Nat.le_of_ble_eq_true rfl) (Nat.le_of_ble_eq_true rfl) (Nat.le_of_ble_eq_true rfl) ?_
      replace hF := eg_bind hF; obtain ⟨⟨v20, h19⟩, e21, hF⟩ := hF
      refine eg_callV (c := 0) (n := 4) [.int (((10 : Int32) * v5) + v12), .int ((10 : Int32) * l2), .int l3, .int v17] dX12_chain_102 (mX0_of e21) rfl (fX0_of_O e21) (Nat.le_of_ble_eq_true rfl) rfl ew_834 ew_835 ew_836 ew_107 ew_837 hy_X0_of rfl (Nat.le_of_ble_eq_true rfl) (Nat.le_of_ble_eq_true rfl) (Nat.le_of_ble_eq_true rfl) ?_
      refine eg_istore (i := 9) [(9, .int v20), (8, .int v5), (0, .ref l0), (2, .int l2), (3, .int l3), (4, .int l4), (5, .long l5), (7, .int l7)] dX12_chain_105 (Nat.le_of_ble_eq_true rfl) rfl ?_
      refine eg_lload (i := 5) 6 dX12_chain_107 rfl ?_
      refine eg_iload (i := 9) 0 dX12_chain_109 rfl ?_
      replace hF := eg_bind hF; obtain ⟨⟨v23, h22⟩, e24, hF⟩ := hF
      refine eg_callS (n := 1) [.int v20] dX12_chain_111 (mX11_goodIn e24) rfl ew_878 ew_879 ew_106 ew_880 hy_X11_goodIn.2 rfl (Nat.le_of_ble_eq_true rfl) (Nat.le_of_ble_eq_true rfl) (Nat.le_of_ble_eq_true rfl) ?_
      refine eg_i2l dX12_chain_114 ?_
      refine eg_lmul dX12_chain_115 ?_
      refine eg_aload_n (i := 0) 2 dX12_chain_116 rfl rfl ?_
      replace hF := eg_bind hF; obtain ⟨p25, e26, hF⟩ := hF
      refine eg_getR dX12_chain_117 e26 (Nat.le_of_ble_eq_true rfl) (Nat.le_of_ble_eq_true rfl) rfl ew_359 ?_
      refine eg_iload (i := 8) 1 dX12_chain_120 rfl ?_
      replace hF := eg_bind hF; obtain ⟨⟨v28, h27⟩, e29, hF⟩ := hF
      refine eg_callV (c := 7) (n := 1) [.int v5] dX12_chain_122 (mX7_slips e29) rfl (fX7_slips_O e29) (Nat.le_of_ble_eq_true rfl) rfl ew_905 ew_906 ew_907 ew_104 ew_908 hy_X7_slips rfl (Nat.le_of_ble_eq_true rfl) (Nat.le_of_ble_eq_true rfl) (Nat.le_of_ble_eq_true rfl) ?_
      refine eg_i2l dX12_chain_125 ?_
      replace hF := eg_nif hF; obtain ⟨c30, hF⟩ := hF
      refine eg_ldiv dX12_chain_126 c30 ?_
      replace hF := eg_bind hF; obtain ⟨v31, e32, hF⟩ := hF
      replace e32 := Option.some.inj e32
      rw [e32]
      refine eg_lstore (i := 5) [(5, .long v31), (9, .int v20), (8, .int v5), (0, .ref l0), (2, .int l2), (3, .int l3), (4, .int l4), (7, .int l7)] dX12_chain_127 (Nat.le_of_ble_eq_true rfl) rfl ?_
      refine eg_iinc (i := 7) (v := (l7 + (1 : Int32))) 7 [(7, .int (l7 + (1 : Int32))), (5, .long v31), (9, .int v20), (8, .int v5), (0, .ref l0), (2, .int l2), (3, .int l3), (4, .int l4)] dX12_chain_129 rfl rfl (Nat.le_of_ble_eq_true rfl) rfl ?_
      refine eg_goto 50 dX12_chain_132 rfl ?_
      exact eg_sub [4, 5, 6, 7, 1, 0] [(0, .ref l0), (2, .int l2), (3, .int l3), (4, .int l4), (5, .long v31), (7, .int (l7 + (1 : Int32)))] rfl (hrec h27 l0 l2 l3 l4 v31 (l7 + (1 : Int32)) hF)
def fX12_chain (h : eg_H) (l0 : Nat) (l1 : Int32) (l2 : Int32) (l3 : Int32) : Option (Int32 × eg_H) :=
  if eg_isO h 12 l0 then (
    (eg_gR h 12 3 l0).bind fun p1 =>
    (fX7_persons h p1).bind fun ⟨v4, h3⟩ =>
    (eg_gR h3 12 3 l0).bind fun p6 =>
    (fX7_isEgg h3 p6 l2).bind fun ⟨v9, h8⟩ =>
    if v9 = 0 then
      (some ((-1 : Int32), h8))
    else
      (fX12_isYards h8 l3).bind fun ⟨v13, h12⟩ =>
      if v13 = 0 then
        (some ((-1 : Int32), h12))
      else
        (eg_gR h12 12 18 l0).bind fun p16 =>
        (fX9_readRow h12 p16 l1 v4).bind fun ⟨v19, h18⟩ =>
        if v19 = 0 then
          (some ((-1 : Int32), h18))
        else
          (fX12_chain_L50 eg_F h18 l0 l2 l3 v4 (1000000000 : Int64) (1 : Int32)).bind fun e =>
          match e with
          | (v24, h25) =>
            some (v24.toInt32, h25)) else none
theorem fX12_chain_O {h : eg_H} {l0 : Nat} {l1 : Int32} {l2 : Int32} {l3 : Int32} {rE : Int32} {hE : eg_H} (hF : fX12_chain h l0 l1 l2 l3 = some (rE, hE)) : eg_isO h 12 l0 := (eg_ifn hF).1
set_option maxRecDepth 20000 in
theorem mX12_chain {h : eg_H} {l0 : Nat} {l1 : Int32} {l2 : Int32} {l3 : Int32} {rE : Int32} {hE : eg_H} (hF : fX12_chain h l0 l1 l2 l3 = some (rE, hE)) : eg_Met yX12_chain cX12_chain 10 (some .int) 6 [.ref l0, .int l1, .int l2, .int l3] h (some (.int rE)) hE := by
  refine eg_enter rfl (Nat.le_of_ble_eq_true rfl) ?_
  show eg_AW (RX12, cX12_chain, 10, 6, none, "chain", (some .int)) (eg_Zm (some (.int rE)) hE h) (eg_nc hE) (eg_ns hE) h 0 [(0, .ref l0), (1, .int l1), (2, .int l2), (3, .int l3)] [] h
  replace hF := (eg_ifn hF).2
  refine eg_aload_n (i := 0) 0 dX12_chain_0 rfl rfl ?_
  replace hF := eg_bind hF; obtain ⟨p1, e2, hF⟩ := hF
  refine eg_getR dX12_chain_1 e2 (Nat.le_of_ble_eq_true rfl) (Nat.le_of_ble_eq_true rfl) rfl ew_359 ?_
  replace hF := eg_bind hF; obtain ⟨⟨v4, h3⟩, e5, hF⟩ := hF
  refine eg_callV (c := 7) (n := 0) [] dX12_chain_4 (mX7_persons e5) rfl (fX7_persons_O e5) (Nat.le_of_ble_eq_true rfl) rfl ew_629 ew_630 ew_631 ew_104 ew_632 hy_X7_persons rfl (Nat.le_of_ble_eq_true rfl) (Nat.le_of_ble_eq_true rfl) (Nat.le_of_ble_eq_true rfl) ?_
  refine eg_istore (i := 4) [(4, .int v4), (0, .ref l0), (1, .int l1), (2, .int l2), (3, .int l3)] dX12_chain_7 (Nat.le_of_ble_eq_true rfl) rfl ?_
  refine eg_aload_n (i := 0) 1 dX12_chain_9 rfl rfl ?_
  replace hF := eg_bind hF; obtain ⟨p6, e7, hF⟩ := hF
  refine eg_getR dX12_chain_10 e7 (Nat.le_of_ble_eq_true rfl) (Nat.le_of_ble_eq_true rfl) rfl ew_359 ?_
  refine eg_iload_n (i := 2) 3 dX12_chain_13 rfl rfl ?_
  replace hF := eg_bind hF; obtain ⟨⟨v9, h8⟩, e10, hF⟩ := hF
  refine eg_callV (c := 7) (n := 1) [.int l2] dX12_chain_14 (mX7_isEgg e10) rfl (fX7_isEgg_O e10) (Nat.le_of_ble_eq_true rfl) rfl ew_695 ew_696 ew_697 ew_104 ew_698 hy_X7_isEgg rfl (Nat.le_of_ble_eq_true rfl) (Nat.le_of_ble_eq_true rfl) (Nat.le_of_ble_eq_true rfl) ?_
  refine eg_if_eq 40 dX12_chain_17 rfl (fun c11 => ?_) (fun c11 => ?_)
  · replace hF := eg_it c11 hF
    refine eg_iconst (v := (-1 : Int32)) dX12_chain_40 (by decide) ?_
    exact eg_iretE dX12_chain_41 hF
  · replace hF := eg_if c11 hF
    refine eg_iload_n (i := 3) 4 dX12_chain_20 rfl rfl ?_
    replace hF := eg_bind hF; obtain ⟨⟨v13, h12⟩, e14, hF⟩ := hF
    refine eg_callS (n := 1) [.int l3] dX12_chain_21 (mX12_isYards e14) rfl ew_752 ew_753 ew_100 ew_754 hy_X12_isYards.2 rfl (Nat.le_of_ble_eq_true rfl) (Nat.le_of_ble_eq_true rfl) (Nat.le_of_ble_eq_true rfl) ?_
    refine eg_if_eq 40 dX12_chain_24 rfl (fun c15 => ?_) (fun c15 => ?_)
    · replace hF := eg_it c15 hF
      refine eg_iconst (v := (-1 : Int32)) dX12_chain_40 (by decide) ?_
      exact eg_iretE dX12_chain_41 hF
    · replace hF := eg_if c15 hF
      refine eg_aload_n (i := 0) 1 dX12_chain_27 rfl rfl ?_
      replace hF := eg_bind hF; obtain ⟨p16, e17, hF⟩ := hF
      refine eg_getR dX12_chain_28 e17 (Nat.le_of_ble_eq_true rfl) (Nat.le_of_ble_eq_true rfl) rfl ew_374 ?_
      refine eg_iload_n (i := 1) 2 dX12_chain_31 rfl rfl ?_
      refine eg_iload (i := 4) 0 dX12_chain_32 rfl ?_
      replace hF := eg_bind hF; obtain ⟨⟨v19, h18⟩, e20, hF⟩ := hF
      refine eg_callV (c := 9) (n := 2) [.int l1, .int v4] dX12_chain_34 (mX9_readRow e20) rfl (fX9_readRow_O e20) (Nat.le_of_ble_eq_true rfl) rfl ew_1222 ew_1223 ew_1224 ew_109 ew_1225 hy_X9_readRow rfl (Nat.le_of_ble_eq_true rfl) (Nat.le_of_ble_eq_true rfl) (Nat.le_of_ble_eq_true rfl) ?_
      refine eg_if_ne 42 dX12_chain_37 rfl (fun c21 => ?_) (fun c21 => ?_)
      · replace hF := eg_it c21 hF
        refine eg_iconst (v := (-1 : Int32)) dX12_chain_40 (by decide) ?_
        exact eg_iretE dX12_chain_41 hF
      · replace hF := eg_if c21 hF
        refine eg_ldc2 (v := (1000000000 : Int64)) dX12_chain_42 ew_1135 ?_
        refine eg_lstore (i := 5) [(5, .long (1000000000 : Int64)), (4, .int v4), (0, .ref l0), (1, .int l1), (2, .int l2), (3, .int l3)] dX12_chain_45 (Nat.le_of_ble_eq_true rfl) rfl ?_
        refine eg_iconst (v := (1 : Int32)) dX12_chain_47 (by decide) ?_
        refine eg_istore (i := 7) [(7, .int (1 : Int32)), (5, .long (1000000000 : Int64)), (4, .int v4), (0, .ref l0), (1, .int l1), (2, .int l2), (3, .int l3)] dX12_chain_48 (Nat.le_of_ble_eq_true rfl) rfl ?_
        replace hF := eg_bind hF; obtain ⟨x23, e22, hF⟩ := hF
        refine eg_sub [3, 5, 6, 2, 1, 0] [(0, .ref l0), (2, .int l2), (3, .int l3), (4, .int v4), (5, .long (1000000000 : Int64)), (7, .int (1 : Int32))] rfl (fX12_chain_L50_ok eg_F h18 l0 l2 l3 v4 (1000000000 : Int64) (1 : Int32) x23 e22 ?_)
        · intro v24 h25 e26
          subst e26
          refine eg_lload (i := 5) 0 dX12_chain_135 rfl ?_
          refine eg_l2i dX12_chain_137 ?_
          exact eg_iretE dX12_chain_138 hF
theorem dX12_row_0 : decode cX12_row 0 = .ok (.aload_n 0, 1) := by decide +kernel
theorem dX12_row_1 : decode cX12_row 1 = .ok (.getfield 35, 3) := by decide +kernel
theorem dX12_row_4 : decode cX12_row 4 = .ok (.invokevirtual 159, 3) := by decide +kernel
theorem dX12_row_7 : decode cX12_row 7 = .ok (.istore 4, 2) := by decide +kernel
theorem dX12_row_9 : decode cX12_row 9 = .ok (.aload_n 0, 1) := by decide +kernel
theorem dX12_row_10 : decode cX12_row 10 = .ok (.getfield 35, 3) := by decide +kernel
theorem dX12_row_13 : decode cX12_row 13 = .ok (.iload_n 1, 1) := by decide +kernel
theorem dX12_row_14 : decode cX12_row 14 = .ok (.invokevirtual 182, 3) := by decide +kernel
theorem dX12_row_17 : decode cX12_row 17 = .ok (.ifCond .eq 17, 3) := by decide +kernel
theorem dX12_row_20 : decode cX12_row 20 = .ok (.iload_n 2, 1) := by decide +kernel
theorem dX12_row_21 : decode cX12_row 21 = .ok (.invokestatic 227, 3) := by decide +kernel
theorem dX12_row_24 : decode cX12_row 24 = .ok (.ifCond .eq 10, 3) := by decide +kernel
theorem dX12_row_27 : decode cX12_row 27 = .ok (.iload_n 3, 1) := by decide +kernel
theorem dX12_row_28 : decode cX12_row 28 = .ok (.invokestatic 320, 3) := by decide +kernel
theorem dX12_row_31 : decode cX12_row 31 = .ok (.ifCond .ne 5, 3) := by decide +kernel
theorem dX12_row_34 : decode cX12_row 34 = .ok (.iconst (-1), 1) := by decide +kernel
theorem dX12_row_35 : decode cX12_row 35 = .ok (.ireturn, 1) := by decide +kernel
theorem dX12_row_36 : decode cX12_row 36 = .ok (.iconst 0, 1) := by decide +kernel
theorem dX12_row_37 : decode cX12_row 37 = .ok (.istore 5, 2) := by decide +kernel
theorem dX12_row_39 : decode cX12_row 39 = .ok (.iload 5, 2) := by decide +kernel
theorem dX12_row_41 : decode cX12_row 41 = .ok (.iload 4, 2) := by decide +kernel
theorem dX12_row_43 : decode cX12_row 43 = .ok (.if_icmp .ge 87, 3) := by decide +kernel
theorem dX12_row_46 : decode cX12_row 46 = .ok (.iconst 0, 1) := by decide +kernel
theorem dX12_row_47 : decode cX12_row 47 = .ok (.istore 6, 2) := by decide +kernel
theorem dX12_row_49 : decode cX12_row 49 = .ok (.iload 6, 2) := by decide +kernel
theorem dX12_row_51 : decode cX12_row 51 = .ok (.iload 4, 2) := by decide +kernel
theorem dX12_row_53 : decode cX12_row 53 = .ok (.if_icmp .ge 71, 3) := by decide +kernel
theorem dX12_row_56 : decode cX12_row 56 = .ok (.iload 5, 2) := by decide +kernel
theorem dX12_row_58 : decode cX12_row 58 = .ok (.iload 6, 2) := by decide +kernel
theorem dX12_row_60 : decode cX12_row 60 = .ok (.if_icmp .eq 58, 3) := by decide +kernel
theorem dX12_row_63 : decode cX12_row 63 = .ok (.aload_n 0, 1) := by decide +kernel
theorem dX12_row_64 : decode cX12_row 64 = .ok (.getfield 101, 3) := by decide +kernel
theorem dX12_row_67 : decode cX12_row 67 = .ok (.bipush 10, 2) := by decide +kernel
theorem dX12_row_69 : decode cX12_row 69 = .ok (.iload 5, 2) := by decide +kernel
theorem dX12_row_71 : decode cX12_row 71 = .ok (.imul, 1) := by decide +kernel
theorem dX12_row_72 : decode cX12_row 72 = .ok (.iload 6, 2) := by decide +kernel
theorem dX12_row_74 : decode cX12_row 74 = .ok (.iadd, 1) := by decide +kernel
theorem dX12_row_75 : decode cX12_row 75 = .ok (.bipush 10, 2) := by decide +kernel
theorem dX12_row_77 : decode cX12_row 77 = .ok (.iload_n 1, 1) := by decide +kernel
theorem dX12_row_78 : decode cX12_row 78 = .ok (.imul, 1) := by decide +kernel
theorem dX12_row_79 : decode cX12_row 79 = .ok (.iload_n 2, 1) := by decide +kernel
theorem dX12_row_80 : decode cX12_row 80 = .ok (.aload_n 0, 1) := by decide +kernel
theorem dX12_row_81 : decode cX12_row 81 = .ok (.getfield 35, 3) := by decide +kernel
theorem dX12_row_84 : decode cX12_row 84 = .ok (.iconst 0, 1) := by decide +kernel
theorem dX12_row_85 : decode cX12_row 85 = .ok (.invokevirtual 209, 3) := by decide +kernel
theorem dX12_row_88 : decode cX12_row 88 = .ok (.invokevirtual 250, 3) := by decide +kernel
theorem dX12_row_91 : decode cX12_row 91 = .ok (.istore 7, 2) := by decide +kernel
theorem dX12_row_93 : decode cX12_row 93 = .ok (.aload_n 0, 1) := by decide +kernel
theorem dX12_row_94 : decode cX12_row 94 = .ok (.getfield 115, 3) := by decide +kernel
theorem dX12_row_97 : decode cX12_row 97 = .ok (.iload 5, 2) := by decide +kernel
theorem dX12_row_99 : decode cX12_row 99 = .ok (.iload 6, 2) := by decide +kernel
theorem dX12_row_101 : decode cX12_row 101 = .ok (.iload 7, 2) := by decide +kernel
theorem dX12_row_103 : decode cX12_row 103 = .ok (.invokestatic 260, 3) := by decide +kernel
theorem dX12_row_106 : decode cX12_row 106 = .ok (.aload_n 0, 1) := by decide +kernel
theorem dX12_row_107 : decode cX12_row 107 = .ok (.getfield 35, 3) := by decide +kernel
theorem dX12_row_110 : decode cX12_row 110 = .ok (.iload 5, 2) := by decide +kernel
theorem dX12_row_112 : decode cX12_row 112 = .ok (.invokevirtual 299, 3) := by decide +kernel
theorem dX12_row_115 : decode cX12_row 115 = .ok (.invokevirtual 431, 3) := by decide +kernel
theorem dX12_row_118 : decode cX12_row 118 = .ok (.iinc 6 1, 3) := by decide +kernel
theorem dX12_row_121 : decode cX12_row 121 = .ok (.goto (-72), 3) := by decide +kernel
theorem dX12_row_124 : decode cX12_row 124 = .ok (.iinc 5 1, 3) := by decide +kernel
theorem dX12_row_127 : decode cX12_row 127 = .ok (.goto (-88), 3) := by decide +kernel
theorem dX12_row_130 : decode cX12_row 130 = .ok (.aload_n 0, 1) := by decide +kernel
theorem dX12_row_131 : decode cX12_row 131 = .ok (.getfield 115, 3) := by decide +kernel
theorem dX12_row_134 : decode cX12_row 134 = .ok (.iload 4, 2) := by decide +kernel
theorem dX12_row_136 : decode cX12_row 136 = .ok (.iload 4, 2) := by decide +kernel
theorem dX12_row_138 : decode cX12_row 138 = .ok (.iconst 1, 1) := by decide +kernel
theorem dX12_row_139 : decode cX12_row 139 = .ok (.invokevirtual 435, 3) := by decide +kernel
theorem dX12_row_142 : decode cX12_row 142 = .ok (.iload_n 3, 1) := by decide +kernel
theorem dX12_row_143 : decode cX12_row 143 = .ok (.ifCond .ne 13, 3) := by decide +kernel
theorem dX12_row_146 : decode cX12_row 146 = .ok (.aload_n 0, 1) := by decide +kernel
theorem dX12_row_147 : decode cX12_row 147 = .ok (.getfield 115, 3) := by decide +kernel
theorem dX12_row_150 : decode cX12_row 150 = .ok (.invokevirtual 369, 3) := by decide +kernel
theorem dX12_row_153 : decode cX12_row 153 = .ok (.goto 10, 3) := by decide +kernel
theorem dX12_row_156 : decode cX12_row 156 = .ok (.aload_n 0, 1) := by decide +kernel
theorem dX12_row_157 : decode cX12_row 157 = .ok (.getfield 115, 3) := by decide +kernel
theorem dX12_row_160 : decode cX12_row 160 = .ok (.invokevirtual 439, 3) := by decide +kernel
theorem dX12_row_163 : decode cX12_row 163 = .ok (.ireturn, 1) := by decide +kernel
def fX12_row_L49 : Nat → eg_H → Nat → Int32 → Int32 → Int32 → Int32 → Int32 → Int32 → Option (Nat × Int32 × Int32 × Int32 × Int32 × Int32 × eg_H)
  | 0, _, _, _, _, _, _, _, _ => none
  | n + 1, h, l0, l1, l2, l3, l4, l5, l6 =>
    if l4 ≤ l6 then
      (some (l0, l1, l2, l3, l4, l5, h))
    else
      if l5 = l6 then
        (fX12_row_L49 n h l0 l1 l2 l3 l4 l5 (l6 + (1 : Int32)))
      else
        (eg_gR h 12 16 l0).bind fun p3 =>
        (eg_gR h 12 3 l0).bind fun p5 =>
        (fX7_told h p5 (0 : Int32)).bind fun ⟨v8, h7⟩ =>
        (fX0_of h7 p3 (((10 : Int32) * l5) + l6) ((10 : Int32) * l1) l2 v8).bind fun ⟨v11, h10⟩ =>
        (eg_gR h10 12 18 l0).bind fun p13 =>
        (fX11_goodIn h10 v11).bind fun ⟨v16, h15⟩ =>
        (eg_gR h15 12 3 l0).bind fun p18 =>
        (fX7_slips h15 p18 l5).bind fun ⟨v21, h20⟩ =>
        (fX9_keepGood h20 p13 l5 l6 v16 v21).bind fun h23 =>
        fX12_row_L49 n h23 l0 l1 l2 l3 l4 l5 (l6 + (1 : Int32))
set_option maxRecDepth 20000 in
theorem fX12_row_L49_ok {h0 : eg_H} {Z : eg_C → State → Prop} {N S : Nat} : ∀ (n : Nat) (h : eg_H) (l0 : Nat) (l1 : Int32) (l2 : Int32) (l3 : Int32) (l4 : Int32) (l5 : Int32) (l6 : Int32) (eE : Nat × Int32 × Int32 × Int32 × Int32 × Int32 × eg_H), fX12_row_L49 n h l0 l1 l2 l3 l4 l5 l6 = some eE → (hk0 : ∀ (l0 : Nat) (l1 : Int32) (l2 : Int32) (l3 : Int32) (l4 : Int32) (l5 : Int32) (h : eg_H), eE = (l0, l1, l2, l3, l4, l5, h) → eg_AW (RX12, cX12_row, 8, 67, none, "row", (some .int)) Z N S h0 124 [(0, .ref l0), (1, .int l1), (2, .int l2), (3, .int l3), (4, .int l4), (5, .int l5)] [] h) → eg_AW (RX12, cX12_row, 8, 67, none, "row", (some .int)) Z N S h0 49 [(0, .ref l0), (1, .int l1), (2, .int l2), (3, .int l3), (4, .int l4), (5, .int l5), (6, .int l6)] [] h := by
  intro n
  induction n with
  | zero => intro h l0 l1 l2 l3 l4 l5 l6 eE hF; exact absurd hF (by intro q; cases q)
  | succ n ih =>
    intro h l0 l1 l2 l3 l4 l5 l6 eE hF hk0
    have hrec := fun (h' : eg_H) (l0 : Nat) (l1 : Int32) (l2 : Int32) (l3 : Int32) (l4 : Int32) (l5 : Int32) (l6 : Int32) hq => ih h' l0 l1 l2 l3 l4 l5 l6 eE hq hk0
    refine eg_iload (i := 6) 6 dX12_row_49 rfl ?_
    refine eg_iload (i := 4) 4 dX12_row_51 rfl ?_
    refine eg_ic_ge 124 dX12_row_53 rfl (fun c1 => ?_) (fun c1 => ?_)
    · replace hF := eg_it c1 hF
      exact eg_sub [0, 1, 2, 3, 4, 5] [(0, .ref l0), (1, .int l1), (2, .int l2), (3, .int l3), (4, .int l4), (5, .int l5)] rfl (hk0 l0 l1 l2 l3 l4 l5 h (Option.some.inj hF).symm)
    · replace hF := eg_if c1 hF
      refine eg_iload (i := 5) 5 dX12_row_56 rfl ?_
      refine eg_iload (i := 6) 6 dX12_row_58 rfl ?_
      refine eg_ic_eq 118 dX12_row_60 rfl (fun c2 => ?_) (fun c2 => ?_)
      · replace hF := eg_it c2 hF
        refine eg_iinc (i := 6) (v := (l6 + (1 : Int32))) 6 [(6, .int (l6 + (1 : Int32))), (0, .ref l0), (1, .int l1), (2, .int l2), (3, .int l3), (4, .int l4), (5, .int l5)] dX12_row_118 rfl rfl (Nat.le_of_ble_eq_true rfl) rfl ?_
        refine eg_goto 49 dX12_row_121 rfl ?_
        exact eg_sub [1, 2, 3, 4, 5, 6, 0] [(0, .ref l0), (1, .int l1), (2, .int l2), (3, .int l3), (4, .int l4), (5, .int l5), (6, .int (l6 + (1 : Int32)))] rfl (hrec h l0 l1 l2 l3 l4 l5 (l6 + (1 : Int32)) hF)
      · replace hF := eg_if c2 hF
        refine eg_aload_n (i := 0) 0 dX12_row_63 rfl rfl ?_
        replace hF := eg_bind hF; obtain ⟨p3, e4, hF⟩ := hF
        refine eg_getR dX12_row_64 e4 (Nat.le_of_ble_eq_true rfl) (Nat.le_of_ble_eq_true rfl) rfl ew_372 ?_
        refine eg_bipush (v := (10 : Int32)) dX12_row_67 (by decide) ?_
        refine eg_iload (i := 5) 5 dX12_row_69 rfl ?_
        refine eg_imul dX12_row_71 ?_
        refine eg_iload (i := 6) 6 dX12_row_72 rfl ?_
        refine eg_iadd dX12_row_74 ?_
        refine eg_bipush (v := (10 : Int32)) dX12_row_75 (by decide) ?_
        refine eg_iload_n (i := 1) 1 dX12_row_77 rfl rfl ?_
        refine eg_imul dX12_row_78 ?_
        refine eg_iload_n (i := 2) 2 dX12_row_79 rfl rfl ?_
        refine eg_aload_n (i := 0) 0 dX12_row_80 rfl rfl ?_
        replace hF := eg_bind hF; obtain ⟨p5, e6, hF⟩ := hF
        refine eg_getR dX12_row_81 e6 (Nat.le_of_ble_eq_true rfl) (Nat.le_of_ble_eq_true rfl) rfl ew_359 ?_
        refine eg_iconst (v := (0 : Int32)) dX12_row_84 (by decide) ?_
        replace hF := eg_bind hF; obtain ⟨⟨v8, h7⟩, e9, hF⟩ := hF
        refine eg_callV (c := 7) (n := 1) [.int (0 : Int32)] dX12_row_85 (mX7_told e9) rfl (fX7_told_O e9) (Nat.le_of_ble_eq_true rfl) rfl ew_717 ew_718 ew_719 ew_104 ew_720 hy_X7_told rfl (Nat.le_of_ble_eq_true rfl) (Nat.le_of_ble_eq_true rfl) (Nat.le_of_ble_eq_true rfl) ?_
        replace hF := eg_bind hF; obtain ⟨⟨v11, h10⟩, e12, hF⟩ := hF
        refine eg_callV (c := 0) (n := 4) [.int (((10 : Int32) * l5) + l6), .int ((10 : Int32) * l1), .int l2, .int v8] dX12_row_88 (mX0_of e12) rfl (fX0_of_O e12) (Nat.le_of_ble_eq_true rfl) rfl ew_834 ew_835 ew_836 ew_107 ew_837 hy_X0_of rfl (Nat.le_of_ble_eq_true rfl) (Nat.le_of_ble_eq_true rfl) (Nat.le_of_ble_eq_true rfl) ?_
        refine eg_istore (i := 7) [(7, .int v11), (0, .ref l0), (1, .int l1), (2, .int l2), (3, .int l3), (4, .int l4), (5, .int l5), (6, .int l6)] dX12_row_91 (Nat.le_of_ble_eq_true rfl) rfl ?_
        refine eg_aload_n (i := 0) 1 dX12_row_93 rfl rfl ?_
        replace hF := eg_bind hF; obtain ⟨p13, e14, hF⟩ := hF
        refine eg_getR dX12_row_94 e14 (Nat.le_of_ble_eq_true rfl) (Nat.le_of_ble_eq_true rfl) rfl ew_374 ?_
        refine eg_iload (i := 5) 6 dX12_row_97 rfl ?_
        refine eg_iload (i := 6) 7 dX12_row_99 rfl ?_
        refine eg_iload (i := 7) 0 dX12_row_101 rfl ?_
        replace hF := eg_bind hF; obtain ⟨⟨v16, h15⟩, e17, hF⟩ := hF
        refine eg_callS (n := 1) [.int v11] dX12_row_103 (mX11_goodIn e17) rfl ew_878 ew_879 ew_106 ew_880 hy_X11_goodIn.2 rfl (Nat.le_of_ble_eq_true rfl) (Nat.le_of_ble_eq_true rfl) (Nat.le_of_ble_eq_true rfl) ?_
        refine eg_aload_n (i := 0) 1 dX12_row_106 rfl rfl ?_
        replace hF := eg_bind hF; obtain ⟨p18, e19, hF⟩ := hF
        refine eg_getR dX12_row_107 e19 (Nat.le_of_ble_eq_true rfl) (Nat.le_of_ble_eq_true rfl) rfl ew_359 ?_
        refine eg_iload (i := 5) 6 dX12_row_110 rfl ?_
        replace hF := eg_bind hF; obtain ⟨⟨v21, h20⟩, e22, hF⟩ := hF
        refine eg_callV (c := 7) (n := 1) [.int l5] dX12_row_112 (mX7_slips e22) rfl (fX7_slips_O e22) (Nat.le_of_ble_eq_true rfl) rfl ew_905 ew_906 ew_907 ew_104 ew_908 hy_X7_slips rfl (Nat.le_of_ble_eq_true rfl) (Nat.le_of_ble_eq_true rfl) (Nat.le_of_ble_eq_true rfl) ?_
        replace hF := eg_bind hF; obtain ⟨h23, e24, hF⟩ := hF
        refine eg_callV (c := 9) (n := 4) [.int l5, .int l6, .int v16, .int v21] dX12_row_115 (mX9_keepGood e24) rfl (fX9_keepGood_O e24) (Nat.le_of_ble_eq_true rfl) rfl ew_1197 ew_1198 ew_1199 ew_109 ew_1200 hy_X9_keepGood rfl (Nat.le_of_ble_eq_true rfl) (Nat.le_of_ble_eq_true rfl) (Nat.le_of_ble_eq_true rfl) ?_
        refine eg_iinc (i := 6) (v := (l6 + (1 : Int32))) 7 [(6, .int (l6 + (1 : Int32))), (7, .int v11), (0, .ref l0), (1, .int l1), (2, .int l2), (3, .int l3), (4, .int l4), (5, .int l5)] dX12_row_118 rfl rfl (Nat.le_of_ble_eq_true rfl) rfl ?_
        refine eg_goto 49 dX12_row_121 rfl ?_
        exact eg_sub [2, 3, 4, 5, 6, 7, 0] [(0, .ref l0), (1, .int l1), (2, .int l2), (3, .int l3), (4, .int l4), (5, .int l5), (6, .int (l6 + (1 : Int32)))] rfl (hrec h23 l0 l1 l2 l3 l4 l5 (l6 + (1 : Int32)) hF)
def fX12_row_L39 : Nat → eg_H → Nat → Int32 → Int32 → Int32 → Int32 → Int32 → Option (Nat × Int32 × Int32 × eg_H)
  | 0, _, _, _, _, _, _, _ => none
  | n + 1, h, l0, l1, l2, l3, l4, l5 =>
    if l4 ≤ l5 then
      (some (l0, l3, l4, h))
    else
      (fX12_row_L49 eg_F h l0 l1 l2 l3 l4 l5 (0 : Int32)).bind fun e =>
      match e with
      | (p4, v5, v6, v7, v8, v9, h10) =>
        fX12_row_L39 n h10 p4 v5 v6 v7 v8 (v9 + (1 : Int32))
set_option maxRecDepth 20000 in
theorem fX12_row_L39_ok {h0 : eg_H} {Z : eg_C → State → Prop} {N S : Nat} : ∀ (n : Nat) (h : eg_H) (l0 : Nat) (l1 : Int32) (l2 : Int32) (l3 : Int32) (l4 : Int32) (l5 : Int32) (eE : Nat × Int32 × Int32 × eg_H), fX12_row_L39 n h l0 l1 l2 l3 l4 l5 = some eE → (hk0 : ∀ (l0 : Nat) (l3 : Int32) (l4 : Int32) (h : eg_H), eE = (l0, l3, l4, h) → eg_AW (RX12, cX12_row, 8, 67, none, "row", (some .int)) Z N S h0 130 [(0, .ref l0), (3, .int l3), (4, .int l4)] [] h) → eg_AW (RX12, cX12_row, 8, 67, none, "row", (some .int)) Z N S h0 39 [(0, .ref l0), (1, .int l1), (2, .int l2), (3, .int l3), (4, .int l4), (5, .int l5)] [] h := by
  intro n
  induction n with
  | zero => intro h l0 l1 l2 l3 l4 l5 eE hF; exact absurd hF (by intro q; cases q)
  | succ n ih =>
    intro h l0 l1 l2 l3 l4 l5 eE hF hk0
    have hrec := fun (h' : eg_H) (l0 : Nat) (l1 : Int32) (l2 : Int32) (l3 : Int32) (l4 : Int32) (l5 : Int32) hq => ih h' l0 l1 l2 l3 l4 l5 eE hq hk0
    refine eg_iload (i := 5) 5 dX12_row_39 rfl ?_
    refine eg_iload (i := 4) 4 dX12_row_41 rfl ?_
    refine eg_ic_ge 130 dX12_row_43 rfl (fun c1 => ?_) (fun c1 => ?_)
    · replace hF := eg_it c1 hF
      exact eg_sub [0, 3, 4] [(0, .ref l0), (3, .int l3), (4, .int l4)] rfl (hk0 l0 l3 l4 h (Option.some.inj hF).symm)
    · replace hF := eg_if c1 hF
      refine eg_iconst (v := (0 : Int32)) dX12_row_46 (by decide) ?_
      refine eg_istore (i := 6) [(6, .int (0 : Int32)), (0, .ref l0), (1, .int l1), (2, .int l2), (3, .int l3), (4, .int l4), (5, .int l5)] dX12_row_47 (Nat.le_of_ble_eq_true rfl) rfl ?_
      replace hF := eg_bind hF; obtain ⟨x3, e2, hF⟩ := hF
      refine eg_sub [1, 2, 3, 4, 5, 6, 0] [(0, .ref l0), (1, .int l1), (2, .int l2), (3, .int l3), (4, .int l4), (5, .int l5), (6, .int (0 : Int32))] rfl (fX12_row_L49_ok eg_F h l0 l1 l2 l3 l4 l5 (0 : Int32) x3 e2 ?_)
      · intro p4 v5 v6 v7 v8 v9 h10 e11
        subst e11
        refine eg_iinc (i := 5) (v := (v9 + (1 : Int32))) 5 [(5, .int (v9 + (1 : Int32))), (0, .ref p4), (1, .int v5), (2, .int v6), (3, .int v7), (4, .int v8)] dX12_row_124 rfl rfl (Nat.le_of_ble_eq_true rfl) rfl ?_
        refine eg_goto 39 dX12_row_127 rfl ?_
        exact eg_sub [1, 2, 3, 4, 5, 0] [(0, .ref p4), (1, .int v5), (2, .int v6), (3, .int v7), (4, .int v8), (5, .int (v9 + (1 : Int32)))] rfl (hrec h10 p4 v5 v6 v7 v8 (v9 + (1 : Int32)) hF)
def fX12_row (h : eg_H) (l0 : Nat) (l1 : Int32) (l2 : Int32) (l3 : Int32) : Option (Int32 × eg_H) :=
  if eg_isO h 12 l0 then (
    (eg_gR h 12 3 l0).bind fun p1 =>
    (fX7_persons h p1).bind fun ⟨v4, h3⟩ =>
    (eg_gR h3 12 3 l0).bind fun p6 =>
    (fX7_isEgg h3 p6 l1).bind fun ⟨v9, h8⟩ =>
    if v9 = 0 then
      (some ((-1 : Int32), h8))
    else
      (fX12_isYards h8 l2).bind fun ⟨v13, h12⟩ =>
      if v13 = 0 then
        (some ((-1 : Int32), h12))
      else
        (fX12_isEither h12 l3).bind fun ⟨v17, h16⟩ =>
        if v17 = 0 then
          (some ((-1 : Int32), h16))
        else
          (fX12_row_L39 eg_F h16 l0 l1 l2 l3 v4 (0 : Int32)).bind fun e =>
          match e with
          | (p22, v23, v24, h25) =>
            (eg_gR h25 12 18 p22).bind fun p26 =>
            (fX9_findRow h25 p26 v24 v24 (1 : Int32)).bind fun h28 =>
            if v23 = 0 then
              ((eg_gR h28 12 18 p22).bind fun p31 =>
              (fX9_digits h28 p31).bind fun ⟨v34, h33⟩ =>
              some (v34, h33))
            else
              (eg_gR h28 12 18 p22).bind fun p36 =>
              (fX9_parts h28 p36).bind fun ⟨v39, h38⟩ =>
              some (v39, h38)) else none
theorem fX12_row_O {h : eg_H} {l0 : Nat} {l1 : Int32} {l2 : Int32} {l3 : Int32} {rE : Int32} {hE : eg_H} (hF : fX12_row h l0 l1 l2 l3 = some (rE, hE)) : eg_isO h 12 l0 := (eg_ifn hF).1
set_option maxRecDepth 20000 in
theorem mX12_row {h : eg_H} {l0 : Nat} {l1 : Int32} {l2 : Int32} {l3 : Int32} {rE : Int32} {hE : eg_H} (hF : fX12_row h l0 l1 l2 l3 = some (rE, hE)) : eg_Met yX12_row cX12_row 8 (some .int) 67 [.ref l0, .int l1, .int l2, .int l3] h (some (.int rE)) hE := by
  refine eg_enter rfl (Nat.le_of_ble_eq_true rfl) ?_
  show eg_AW (RX12, cX12_row, 8, 67, none, "row", (some .int)) (eg_Zm (some (.int rE)) hE h) (eg_nc hE) (eg_ns hE) h 0 [(0, .ref l0), (1, .int l1), (2, .int l2), (3, .int l3)] [] h
  replace hF := (eg_ifn hF).2
  refine eg_aload_n (i := 0) 0 dX12_row_0 rfl rfl ?_
  replace hF := eg_bind hF; obtain ⟨p1, e2, hF⟩ := hF
  refine eg_getR dX12_row_1 e2 (Nat.le_of_ble_eq_true rfl) (Nat.le_of_ble_eq_true rfl) rfl ew_359 ?_
  replace hF := eg_bind hF; obtain ⟨⟨v4, h3⟩, e5, hF⟩ := hF
  refine eg_callV (c := 7) (n := 0) [] dX12_row_4 (mX7_persons e5) rfl (fX7_persons_O e5) (Nat.le_of_ble_eq_true rfl) rfl ew_629 ew_630 ew_631 ew_104 ew_632 hy_X7_persons rfl (Nat.le_of_ble_eq_true rfl) (Nat.le_of_ble_eq_true rfl) (Nat.le_of_ble_eq_true rfl) ?_
  refine eg_istore (i := 4) [(4, .int v4), (0, .ref l0), (1, .int l1), (2, .int l2), (3, .int l3)] dX12_row_7 (Nat.le_of_ble_eq_true rfl) rfl ?_
  refine eg_aload_n (i := 0) 1 dX12_row_9 rfl rfl ?_
  replace hF := eg_bind hF; obtain ⟨p6, e7, hF⟩ := hF
  refine eg_getR dX12_row_10 e7 (Nat.le_of_ble_eq_true rfl) (Nat.le_of_ble_eq_true rfl) rfl ew_359 ?_
  refine eg_iload_n (i := 1) 2 dX12_row_13 rfl rfl ?_
  replace hF := eg_bind hF; obtain ⟨⟨v9, h8⟩, e10, hF⟩ := hF
  refine eg_callV (c := 7) (n := 1) [.int l1] dX12_row_14 (mX7_isEgg e10) rfl (fX7_isEgg_O e10) (Nat.le_of_ble_eq_true rfl) rfl ew_695 ew_696 ew_697 ew_104 ew_698 hy_X7_isEgg rfl (Nat.le_of_ble_eq_true rfl) (Nat.le_of_ble_eq_true rfl) (Nat.le_of_ble_eq_true rfl) ?_
  refine eg_if_eq 34 dX12_row_17 rfl (fun c11 => ?_) (fun c11 => ?_)
  · replace hF := eg_it c11 hF
    refine eg_iconst (v := (-1 : Int32)) dX12_row_34 (by decide) ?_
    exact eg_iretE dX12_row_35 hF
  · replace hF := eg_if c11 hF
    refine eg_iload_n (i := 2) 3 dX12_row_20 rfl rfl ?_
    replace hF := eg_bind hF; obtain ⟨⟨v13, h12⟩, e14, hF⟩ := hF
    refine eg_callS (n := 1) [.int l2] dX12_row_21 (mX12_isYards e14) rfl ew_752 ew_753 ew_100 ew_754 hy_X12_isYards.2 rfl (Nat.le_of_ble_eq_true rfl) (Nat.le_of_ble_eq_true rfl) (Nat.le_of_ble_eq_true rfl) ?_
    refine eg_if_eq 34 dX12_row_24 rfl (fun c15 => ?_) (fun c15 => ?_)
    · replace hF := eg_it c15 hF
      refine eg_iconst (v := (-1 : Int32)) dX12_row_34 (by decide) ?_
      exact eg_iretE dX12_row_35 hF
    · replace hF := eg_if c15 hF
      refine eg_iload_n (i := 3) 4 dX12_row_27 rfl rfl ?_
      replace hF := eg_bind hF; obtain ⟨⟨v17, h16⟩, e18, hF⟩ := hF
      refine eg_callS (n := 1) [.int l3] dX12_row_28 (mX12_isEither e18) rfl ew_993 ew_994 ew_100 ew_995 hy_X12_isEither.2 rfl (Nat.le_of_ble_eq_true rfl) (Nat.le_of_ble_eq_true rfl) (Nat.le_of_ble_eq_true rfl) ?_
      refine eg_if_ne 36 dX12_row_31 rfl (fun c19 => ?_) (fun c19 => ?_)
      · replace hF := eg_it c19 hF
        refine eg_iconst (v := (-1 : Int32)) dX12_row_34 (by decide) ?_
        exact eg_iretE dX12_row_35 hF
      · replace hF := eg_if c19 hF
        refine eg_iconst (v := (0 : Int32)) dX12_row_36 (by decide) ?_
        refine eg_istore (i := 5) [(5, .int (0 : Int32)), (4, .int v4), (0, .ref l0), (1, .int l1), (2, .int l2), (3, .int l3)] dX12_row_37 (Nat.le_of_ble_eq_true rfl) rfl ?_
        replace hF := eg_bind hF; obtain ⟨x21, e20, hF⟩ := hF
        refine eg_sub [2, 3, 4, 5, 1, 0] [(0, .ref l0), (1, .int l1), (2, .int l2), (3, .int l3), (4, .int v4), (5, .int (0 : Int32))] rfl (fX12_row_L39_ok eg_F h16 l0 l1 l2 l3 v4 (0 : Int32) x21 e20 ?_)
        · intro p22 v23 v24 h25 e41
          subst e41
          refine eg_aload_n (i := 0) 0 dX12_row_130 rfl rfl ?_
          replace hF := eg_bind hF; obtain ⟨p26, e27, hF⟩ := hF
          refine eg_getR dX12_row_131 e27 (Nat.le_of_ble_eq_true rfl) (Nat.le_of_ble_eq_true rfl) rfl ew_374 ?_
          refine eg_iload (i := 4) 2 dX12_row_134 rfl ?_
          refine eg_iload (i := 4) 2 dX12_row_136 rfl ?_
          refine eg_iconst (v := (1 : Int32)) dX12_row_138 (by decide) ?_
          replace hF := eg_bind hF; obtain ⟨h28, e29, hF⟩ := hF
          refine eg_callV (c := 9) (n := 3) [.int v24, .int v24, .int (1 : Int32)] dX12_row_139 (mX9_findRow e29) rfl (fX9_findRow_O e29) (Nat.le_of_ble_eq_true rfl) rfl ew_1201 ew_1202 ew_1203 ew_109 ew_1204 hy_X9_findRow rfl (Nat.le_of_ble_eq_true rfl) (Nat.le_of_ble_eq_true rfl) (Nat.le_of_ble_eq_true rfl) ?_
          refine eg_iload_n (i := 3) 1 dX12_row_142 rfl rfl ?_
          refine eg_if_ne 156 dX12_row_143 rfl (fun c30 => ?_) (fun c30 => ?_)
          · replace hF := eg_it c30 hF
            refine eg_aload_n (i := 0) 0 dX12_row_146 rfl rfl ?_
            replace hF := eg_bind hF; obtain ⟨p31, e32, hF⟩ := hF
            refine eg_getR dX12_row_147 e32 (Nat.le_of_ble_eq_true rfl) (Nat.le_of_ble_eq_true rfl) rfl ew_374 ?_
            replace hF := eg_bind hF; obtain ⟨⟨v34, h33⟩, e35, hF⟩ := hF
            refine eg_callV (c := 9) (n := 0) [] dX12_row_150 (mX9_digits e35) rfl (fX9_digits_O e35) (Nat.le_of_ble_eq_true rfl) rfl ew_1090 ew_1091 ew_1092 ew_109 ew_1093 hy_X9_digits rfl (Nat.le_of_ble_eq_true rfl) (Nat.le_of_ble_eq_true rfl) (Nat.le_of_ble_eq_true rfl) ?_
            refine eg_goto 163 dX12_row_153 rfl ?_
            exact eg_iretE dX12_row_163 hF
          · replace hF := eg_if c30 hF
            refine eg_aload_n (i := 0) 0 dX12_row_156 rfl rfl ?_
            replace hF := eg_bind hF; obtain ⟨p36, e37, hF⟩ := hF
            refine eg_getR dX12_row_157 e37 (Nat.le_of_ble_eq_true rfl) (Nat.le_of_ble_eq_true rfl) rfl ew_374 ?_
            replace hF := eg_bind hF; obtain ⟨⟨v39, h38⟩, e40, hF⟩ := hF
            refine eg_callV (c := 9) (n := 0) [] dX12_row_160 (mX9_parts e40) rfl (fX9_parts_O e40) (Nat.le_of_ble_eq_true rfl) rfl ew_1214 ew_1215 ew_1216 ew_109 ew_1217 hy_X9_parts rfl (Nat.le_of_ble_eq_true rfl) (Nat.le_of_ble_eq_true rfl) (Nat.le_of_ble_eq_true rfl) ?_
            exact eg_iretE dX12_row_163 hF
theorem dX12_witness_0 : decode cX12_witness 0 = .ok (.aload_n 0, 1) := by decide +kernel
theorem dX12_witness_1 : decode cX12_witness 1 = .ok (.getfield 35, 3) := by decide +kernel
theorem dX12_witness_4 : decode cX12_witness 4 = .ok (.iload_n 1, 1) := by decide +kernel
theorem dX12_witness_5 : decode cX12_witness 5 = .ok (.invokevirtual 182, 3) := by decide +kernel
theorem dX12_witness_8 : decode cX12_witness 8 = .ok (.ifCond .eq 24, 3) := by decide +kernel
theorem dX12_witness_11 : decode cX12_witness 11 = .ok (.iload_n 2, 1) := by decide +kernel
theorem dX12_witness_12 : decode cX12_witness 12 = .ok (.ifCond .lt 20, 3) := by decide +kernel
theorem dX12_witness_15 : decode cX12_witness 15 = .ok (.iload_n 2, 1) := by decide +kernel
theorem dX12_witness_16 : decode cX12_witness 16 = .ok (.sipush 999, 3) := by decide +kernel
theorem dX12_witness_19 : decode cX12_witness 19 = .ok (.if_icmp .gt 13, 3) := by decide +kernel
theorem dX12_witness_22 : decode cX12_witness 22 = .ok (.aload_n 0, 1) := by decide +kernel
theorem dX12_witness_23 : decode cX12_witness 23 = .ok (.getfield 66, 3) := by decide +kernel
theorem dX12_witness_26 : decode cX12_witness 26 = .ok (.invokevirtual 448, 3) := by decide +kernel
theorem dX12_witness_29 : decode cX12_witness 29 = .ok (.ifCond .eq 5, 3) := by decide +kernel
theorem dX12_witness_32 : decode cX12_witness 32 = .ok (.iconst (-1), 1) := by decide +kernel
theorem dX12_witness_33 : decode cX12_witness 33 = .ok (.ireturn, 1) := by decide +kernel
theorem dX12_witness_34 : decode cX12_witness 34 = .ok (.aload_n 0, 1) := by decide +kernel
theorem dX12_witness_35 : decode cX12_witness 35 = .ok (.getfield 66, 3) := by decide +kernel
theorem dX12_witness_38 : decode cX12_witness 38 = .ok (.iload_n 1, 1) := by decide +kernel
theorem dX12_witness_39 : decode cX12_witness 39 = .ok (.iload_n 2, 1) := by decide +kernel
theorem dX12_witness_40 : decode cX12_witness 40 = .ok (.iload_n 3, 1) := by decide +kernel
theorem dX12_witness_41 : decode cX12_witness 41 = .ok (.ifCond .eq 7, 3) := by decide +kernel
theorem dX12_witness_44 : decode cX12_witness 44 = .ok (.iconst 1, 1) := by decide +kernel
theorem dX12_witness_45 : decode cX12_witness 45 = .ok (.goto 4, 3) := by decide +kernel
theorem dX12_witness_48 : decode cX12_witness 48 = .ok (.iconst 0, 1) := by decide +kernel
theorem dX12_witness_49 : decode cX12_witness 49 = .ok (.iconst 0, 1) := by decide +kernel
theorem dX12_witness_50 : decode cX12_witness 50 = .ok (.invokevirtual 451, 3) := by decide +kernel
theorem dX12_witness_53 : decode cX12_witness 53 = .ok (.aload_n 0, 1) := by decide +kernel
theorem dX12_witness_54 : decode cX12_witness 54 = .ok (.getfield 66, 3) := by decide +kernel
theorem dX12_witness_57 : decode cX12_witness 57 = .ok (.invokevirtual 454, 3) := by decide +kernel
theorem dX12_witness_60 : decode cX12_witness 60 = .ok (.ireturn, 1) := by decide +kernel
def fX12_witness (h : eg_H) (l0 : Nat) (l1 : Int32) (l2 : Int32) (l3 : Int32) : Option (Int32 × eg_H) :=
  if eg_isO h 12 l0 then (
    (eg_gR h 12 3 l0).bind fun p1 =>
    (fX7_isEgg h p1 l1).bind fun ⟨v4, h3⟩ =>
    if v4 = 0 then
      (some ((-1 : Int32), h3))
    else
      if l2 < 0 then
        (some ((-1 : Int32), h3))
      else
        if (999 : Int32) < l2 then
          (some ((-1 : Int32), h3))
        else
          (eg_gR h3 12 9 l0).bind fun p9 =>
          (fX1_isFull h3 p9).bind fun ⟨v12, h11⟩ =>
          if v12 = 0 then
            ((eg_gR h11 12 9 l0).bind fun p15 =>
            if l3 = 0 then
              ((fX1_add h11 p15 l1 l2 (0 : Int32) (0 : Int32)).bind fun h18 =>
              (eg_gR h18 12 9 l0).bind fun p20 =>
              (fX1_size h18 p20).bind fun ⟨v23, h22⟩ =>
              some (v23, h22))
            else
              (fX1_add h11 p15 l1 l2 (1 : Int32) (0 : Int32)).bind fun h25 =>
              (eg_gR h25 12 9 l0).bind fun p27 =>
              (fX1_size h25 p27).bind fun ⟨v30, h29⟩ =>
              some (v30, h29))
          else
            some ((-1 : Int32), h11)) else none
theorem fX12_witness_O {h : eg_H} {l0 : Nat} {l1 : Int32} {l2 : Int32} {l3 : Int32} {rE : Int32} {hE : eg_H} (hF : fX12_witness h l0 l1 l2 l3 = some (rE, hE)) : eg_isO h 12 l0 := (eg_ifn hF).1
set_option maxRecDepth 20000 in
theorem mX12_witness {h : eg_H} {l0 : Nat} {l1 : Int32} {l2 : Int32} {l3 : Int32} {rE : Int32} {hE : eg_H} (hF : fX12_witness h l0 l1 l2 l3 = some (rE, hE)) : eg_Met yX12_witness cX12_witness 4 (some .int) 2 [.ref l0, .int l1, .int l2, .int l3] h (some (.int rE)) hE := by
  refine eg_enter rfl (Nat.le_of_ble_eq_true rfl) ?_
  show eg_AW (RX12, cX12_witness, 4, 2, none, "witness", (some .int)) (eg_Zm (some (.int rE)) hE h) (eg_nc hE) (eg_ns hE) h 0 [(0, .ref l0), (1, .int l1), (2, .int l2), (3, .int l3)] [] h
  replace hF := (eg_ifn hF).2
  refine eg_aload_n (i := 0) 0 dX12_witness_0 rfl rfl ?_
  replace hF := eg_bind hF; obtain ⟨p1, e2, hF⟩ := hF
  refine eg_getR dX12_witness_1 e2 (Nat.le_of_ble_eq_true rfl) (Nat.le_of_ble_eq_true rfl) rfl ew_359 ?_
  refine eg_iload_n (i := 1) 1 dX12_witness_4 rfl rfl ?_
  replace hF := eg_bind hF; obtain ⟨⟨v4, h3⟩, e5, hF⟩ := hF
  refine eg_callV (c := 7) (n := 1) [.int l1] dX12_witness_5 (mX7_isEgg e5) rfl (fX7_isEgg_O e5) (Nat.le_of_ble_eq_true rfl) rfl ew_695 ew_696 ew_697 ew_104 ew_698 hy_X7_isEgg rfl (Nat.le_of_ble_eq_true rfl) (Nat.le_of_ble_eq_true rfl) (Nat.le_of_ble_eq_true rfl) ?_
  refine eg_if_eq 32 dX12_witness_8 rfl (fun c6 => ?_) (fun c6 => ?_)
  · replace hF := eg_it c6 hF
    refine eg_iconst (v := (-1 : Int32)) dX12_witness_32 (by decide) ?_
    exact eg_iretE dX12_witness_33 hF
  · replace hF := eg_if c6 hF
    refine eg_iload_n (i := 2) 2 dX12_witness_11 rfl rfl ?_
    refine eg_if_lt 32 dX12_witness_12 rfl (fun c7 => ?_) (fun c7 => ?_)
    · replace hF := eg_it c7 hF
      refine eg_iconst (v := (-1 : Int32)) dX12_witness_32 (by decide) ?_
      exact eg_iretE dX12_witness_33 hF
    · replace hF := eg_if c7 hF
      refine eg_iload_n (i := 2) 2 dX12_witness_15 rfl rfl ?_
      refine eg_sipush (v := (999 : Int32)) dX12_witness_16 (by decide) ?_
      refine eg_ic_gt 32 dX12_witness_19 rfl (fun c8 => ?_) (fun c8 => ?_)
      · replace hF := eg_it c8 hF
        refine eg_iconst (v := (-1 : Int32)) dX12_witness_32 (by decide) ?_
        exact eg_iretE dX12_witness_33 hF
      · replace hF := eg_if c8 hF
        refine eg_aload_n (i := 0) 0 dX12_witness_22 rfl rfl ?_
        replace hF := eg_bind hF; obtain ⟨p9, e10, hF⟩ := hF
        refine eg_getR dX12_witness_23 e10 (Nat.le_of_ble_eq_true rfl) (Nat.le_of_ble_eq_true rfl) rfl ew_365 ?_
        replace hF := eg_bind hF; obtain ⟨⟨v12, h11⟩, e13, hF⟩ := hF
        refine eg_callV (c := 1) (n := 0) [] dX12_witness_26 (mX1_isFull e13) rfl (fX1_isFull_O e13) (Nat.le_of_ble_eq_true rfl) rfl ew_1238 ew_1239 ew_1240 ew_105 ew_1241 hy_X1_isFull rfl (Nat.le_of_ble_eq_true rfl) (Nat.le_of_ble_eq_true rfl) (Nat.le_of_ble_eq_true rfl) ?_
        refine eg_if_eq 34 dX12_witness_29 rfl (fun c14 => ?_) (fun c14 => ?_)
        · replace hF := eg_it c14 hF
          refine eg_aload_n (i := 0) 0 dX12_witness_34 rfl rfl ?_
          replace hF := eg_bind hF; obtain ⟨p15, e16, hF⟩ := hF
          refine eg_getR dX12_witness_35 e16 (Nat.le_of_ble_eq_true rfl) (Nat.le_of_ble_eq_true rfl) rfl ew_365 ?_
          refine eg_iload_n (i := 1) 1 dX12_witness_38 rfl rfl ?_
          refine eg_iload_n (i := 2) 2 dX12_witness_39 rfl rfl ?_
          refine eg_iload_n (i := 3) 3 dX12_witness_40 rfl rfl ?_
          refine eg_if_eq 48 dX12_witness_41 rfl (fun c17 => ?_) (fun c17 => ?_)
          · replace hF := eg_it c17 hF
            refine eg_iconst (v := (0 : Int32)) dX12_witness_48 (by decide) ?_
            refine eg_iconst (v := (0 : Int32)) dX12_witness_49 (by decide) ?_
            replace hF := eg_bind hF; obtain ⟨h18, e19, hF⟩ := hF
            refine eg_callV (c := 1) (n := 4) [.int l1, .int l2, .int (0 : Int32), .int (0 : Int32)] dX12_witness_50 (mX1_add e19) rfl (fX1_add_O e19) (Nat.le_of_ble_eq_true rfl) rfl ew_1242 ew_1243 ew_1244 ew_105 ew_1245 hy_X1_add rfl (Nat.le_of_ble_eq_true rfl) (Nat.le_of_ble_eq_true rfl) (Nat.le_of_ble_eq_true rfl) ?_
            refine eg_aload_n (i := 0) 0 dX12_witness_53 rfl rfl ?_
            replace hF := eg_bind hF; obtain ⟨p20, e21, hF⟩ := hF
            refine eg_getR dX12_witness_54 e21 (Nat.le_of_ble_eq_true rfl) (Nat.le_of_ble_eq_true rfl) rfl ew_365 ?_
            replace hF := eg_bind hF; obtain ⟨⟨v23, h22⟩, e24, hF⟩ := hF
            refine eg_callV (c := 1) (n := 0) [] dX12_witness_57 (mX1_size e24) rfl (fX1_size_O e24) (Nat.le_of_ble_eq_true rfl) rfl ew_1246 ew_1247 ew_1248 ew_105 ew_1249 hy_X1_size rfl (Nat.le_of_ble_eq_true rfl) (Nat.le_of_ble_eq_true rfl) (Nat.le_of_ble_eq_true rfl) ?_
            exact eg_iretE dX12_witness_60 hF
          · replace hF := eg_if c17 hF
            refine eg_iconst (v := (1 : Int32)) dX12_witness_44 (by decide) ?_
            refine eg_goto 49 dX12_witness_45 rfl ?_
            refine eg_iconst (v := (0 : Int32)) dX12_witness_49 (by decide) ?_
            replace hF := eg_bind hF; obtain ⟨h25, e26, hF⟩ := hF
            refine eg_callV (c := 1) (n := 4) [.int l1, .int l2, .int (1 : Int32), .int (0 : Int32)] dX12_witness_50 (mX1_add e26) rfl (fX1_add_O e26) (Nat.le_of_ble_eq_true rfl) rfl ew_1242 ew_1243 ew_1244 ew_105 ew_1245 hy_X1_add rfl (Nat.le_of_ble_eq_true rfl) (Nat.le_of_ble_eq_true rfl) (Nat.le_of_ble_eq_true rfl) ?_
            refine eg_aload_n (i := 0) 0 dX12_witness_53 rfl rfl ?_
            replace hF := eg_bind hF; obtain ⟨p27, e28, hF⟩ := hF
            refine eg_getR dX12_witness_54 e28 (Nat.le_of_ble_eq_true rfl) (Nat.le_of_ble_eq_true rfl) rfl ew_365 ?_
            replace hF := eg_bind hF; obtain ⟨⟨v30, h29⟩, e31, hF⟩ := hF
            refine eg_callV (c := 1) (n := 0) [] dX12_witness_57 (mX1_size e31) rfl (fX1_size_O e31) (Nat.le_of_ble_eq_true rfl) rfl ew_1246 ew_1247 ew_1248 ew_105 ew_1249 hy_X1_size rfl (Nat.le_of_ble_eq_true rfl) (Nat.le_of_ble_eq_true rfl) (Nat.le_of_ble_eq_true rfl) ?_
            exact eg_iretE dX12_witness_60 hF
        · replace hF := eg_if c14 hF
          refine eg_iconst (v := (-1 : Int32)) dX12_witness_32 (by decide) ?_
          exact eg_iretE dX12_witness_33 hF
theorem dX12_couldBear_0 : decode cX12_couldBear 0 = .ok (.aload_n 0, 1) := by decide +kernel
theorem dX12_couldBear_1 : decode cX12_couldBear 1 = .ok (.getfield 35, 3) := by decide +kernel
theorem dX12_couldBear_4 : decode cX12_couldBear 4 = .ok (.iload_n 1, 1) := by decide +kernel
theorem dX12_couldBear_5 : decode cX12_couldBear 5 = .ok (.iconst 1, 1) := by decide +kernel
theorem dX12_couldBear_6 : decode cX12_couldBear 6 = .ok (.invokevirtual 185, 3) := by decide +kernel
theorem dX12_couldBear_9 : decode cX12_couldBear 9 = .ok (.iconst 1, 1) := by decide +kernel
theorem dX12_couldBear_10 : decode cX12_couldBear 10 = .ok (.if_icmp .ne 9, 3) := by decide +kernel
theorem dX12_couldBear_13 : decode cX12_couldBear 13 = .ok (.iload_n 2, 1) := by decide +kernel
theorem dX12_couldBear_14 : decode cX12_couldBear 14 = .ok (.iconst 2, 1) := by decide +kernel
theorem dX12_couldBear_15 : decode cX12_couldBear 15 = .ok (.idiv, 1) := by decide +kernel
theorem dX12_couldBear_16 : decode cX12_couldBear 16 = .ok (.goto 4, 3) := by decide +kernel
theorem dX12_couldBear_19 : decode cX12_couldBear 19 = .ok (.iload_n 2, 1) := by decide +kernel
theorem dX12_couldBear_20 : decode cX12_couldBear 20 = .ok (.istore_n 3, 1) := by decide +kernel
theorem dX12_couldBear_21 : decode cX12_couldBear 21 = .ok (.iconst 0, 1) := by decide +kernel
theorem dX12_couldBear_22 : decode cX12_couldBear 22 = .ok (.istore 4, 2) := by decide +kernel
theorem dX12_couldBear_24 : decode cX12_couldBear 24 = .ok (.iload 4, 2) := by decide +kernel
theorem dX12_couldBear_26 : decode cX12_couldBear 26 = .ok (.aload_n 0, 1) := by decide +kernel
theorem dX12_couldBear_27 : decode cX12_couldBear 27 = .ok (.getfield 66, 3) := by decide +kernel
theorem dX12_couldBear_30 : decode cX12_couldBear 30 = .ok (.invokevirtual 454, 3) := by decide +kernel
theorem dX12_couldBear_33 : decode cX12_couldBear 33 = .ok (.if_icmp .ge 70, 3) := by decide +kernel
theorem dX12_couldBear_36 : decode cX12_couldBear 36 = .ok (.aload_n 0, 1) := by decide +kernel
theorem dX12_couldBear_37 : decode cX12_couldBear 37 = .ok (.getfield 66, 3) := by decide +kernel
theorem dX12_couldBear_40 : decode cX12_couldBear 40 = .ok (.iload 4, 2) := by decide +kernel
theorem dX12_couldBear_42 : decode cX12_couldBear 42 = .ok (.iconst 2, 1) := by decide +kernel
theorem dX12_couldBear_43 : decode cX12_couldBear 43 = .ok (.invokevirtual 460, 3) := by decide +kernel
theorem dX12_couldBear_46 : decode cX12_couldBear 46 = .ok (.iconst 1, 1) := by decide +kernel
theorem dX12_couldBear_47 : decode cX12_couldBear 47 = .ok (.if_icmp .ne 7, 3) := by decide +kernel
theorem dX12_couldBear_50 : decode cX12_couldBear 50 = .ok (.iconst 1, 1) := by decide +kernel
theorem dX12_couldBear_51 : decode cX12_couldBear 51 = .ok (.goto 4, 3) := by decide +kernel
theorem dX12_couldBear_54 : decode cX12_couldBear 54 = .ok (.iconst 0, 1) := by decide +kernel
theorem dX12_couldBear_55 : decode cX12_couldBear 55 = .ok (.istore 5, 2) := by decide +kernel
theorem dX12_couldBear_57 : decode cX12_couldBear 57 = .ok (.aload_n 0, 1) := by decide +kernel
theorem dX12_couldBear_58 : decode cX12_couldBear 58 = .ok (.getfield 66, 3) := by decide +kernel
theorem dX12_couldBear_61 : decode cX12_couldBear 61 = .ok (.iload 4, 2) := by decide +kernel
theorem dX12_couldBear_63 : decode cX12_couldBear 63 = .ok (.iconst 0, 1) := by decide +kernel
theorem dX12_couldBear_64 : decode cX12_couldBear 64 = .ok (.invokevirtual 460, 3) := by decide +kernel
theorem dX12_couldBear_67 : decode cX12_couldBear 67 = .ok (.iload_n 1, 1) := by decide +kernel
theorem dX12_couldBear_68 : decode cX12_couldBear 68 = .ok (.if_icmp .ne 29, 3) := by decide +kernel
theorem dX12_couldBear_71 : decode cX12_couldBear 71 = .ok (.aload_n 0, 1) := by decide +kernel
theorem dX12_couldBear_72 : decode cX12_couldBear 72 = .ok (.getfield 66, 3) := by decide +kernel
theorem dX12_couldBear_75 : decode cX12_couldBear 75 = .ok (.iload 4, 2) := by decide +kernel
theorem dX12_couldBear_77 : decode cX12_couldBear 77 = .ok (.iconst 1, 1) := by decide +kernel
theorem dX12_couldBear_78 : decode cX12_couldBear 78 = .ok (.invokevirtual 460, 3) := by decide +kernel
theorem dX12_couldBear_81 : decode cX12_couldBear 81 = .ok (.iload_n 3, 1) := by decide +kernel
theorem dX12_couldBear_82 : decode cX12_couldBear 82 = .ok (.if_icmp .gt 7, 3) := by decide +kernel
theorem dX12_couldBear_85 : decode cX12_couldBear 85 = .ok (.iconst 1, 1) := by decide +kernel
theorem dX12_couldBear_86 : decode cX12_couldBear 86 = .ok (.goto 4, 3) := by decide +kernel
theorem dX12_couldBear_89 : decode cX12_couldBear 89 = .ok (.iconst 0, 1) := by decide +kernel
theorem dX12_couldBear_90 : decode cX12_couldBear 90 = .ok (.iload 5, 2) := by decide +kernel
theorem dX12_couldBear_92 : decode cX12_couldBear 92 = .ok (.if_icmp .eq 5, 3) := by decide +kernel
theorem dX12_couldBear_95 : decode cX12_couldBear 95 = .ok (.iconst 0, 1) := by decide +kernel
theorem dX12_couldBear_96 : decode cX12_couldBear 96 = .ok (.ireturn, 1) := by decide +kernel
theorem dX12_couldBear_97 : decode cX12_couldBear 97 = .ok (.iinc 4 1, 3) := by decide +kernel
theorem dX12_couldBear_100 : decode cX12_couldBear 100 = .ok (.goto (-76), 3) := by decide +kernel
theorem dX12_couldBear_103 : decode cX12_couldBear 103 = .ok (.iconst 1, 1) := by decide +kernel
theorem dX12_couldBear_104 : decode cX12_couldBear 104 = .ok (.ireturn, 1) := by decide +kernel
def fX12_couldBear_j55 (rec : eg_H → Nat → Int32 → Int32 → Int32 → Option ((eg_H) ⊕ (eg_H))) (h : eg_H) (l0 : Nat) (l1 : Int32) (l3 : Int32) (l4 : Int32) (s0 : Int32) : Option ((eg_H) ⊕ (eg_H)) :=
  (eg_gR h 12 9 l0).bind fun p1 =>
  (fX1_cell h p1 l4 (0 : Int32)).bind fun ⟨v4, h3⟩ =>
  if v4 = l1 then
    ((eg_gR h3 12 9 l0).bind fun p7 =>
    (fX1_cell h3 p7 l4 (1 : Int32)).bind fun ⟨v10, h9⟩ =>
    if l3 < v10 then
      (if (0 : Int32) = s0 then
        (rec h9 l0 l1 l3 (l4 + (1 : Int32)))
      else
        some (.inr (h9)))
    else
      if (1 : Int32) = s0 then
        (rec h9 l0 l1 l3 (l4 + (1 : Int32)))
      else
        some (.inr (h9)))
  else
    rec h3 l0 l1 l3 (l4 + (1 : Int32))
set_option maxRecDepth 20000 in
theorem fX12_couldBear_j55_ok {rec : eg_H → Nat → Int32 → Int32 → Int32 → Option ((eg_H) ⊕ (eg_H))} {h0 : eg_H} {Z : eg_C → State → Prop} {N S : Nat} (h : eg_H) (l0 : Nat) (l1 : Int32) (l3 : Int32) (l4 : Int32) (s0 : Int32) (eE : (eg_H) ⊕ (eg_H)) (hF : fX12_couldBear_j55 rec h l0 l1 l3 l4 s0 = some eE) (hrec : ∀ (h : eg_H) (l0 : Nat) (l1 : Int32) (l3 : Int32) (l4 : Int32), rec h l0 l1 l3 l4 = some eE → eg_AW (RX12, cX12_couldBear, 6, 2, none, "couldBear", (some .boolean)) Z N S h0 24 [(0, .ref l0), (1, .int l1), (3, .int l3), (4, .int l4)] [] h) (hk0 : ∀  (h : eg_H), eE = (.inl h) → eg_AW (RX12, cX12_couldBear, 6, 2, none, "couldBear", (some .boolean)) Z N S h0 103 [] [] h) (hk1 : ∀  (h : eg_H), eE = (.inr (h)) → eg_AW (RX12, cX12_couldBear, 6, 2, none, "couldBear", (some .boolean)) Z N S h0 95 [] [] h) : eg_AW (RX12, cX12_couldBear, 6, 2, none, "couldBear", (some .boolean)) Z N S h0 55 [(0, .ref l0), (1, .int l1), (3, .int l3), (4, .int l4)] [.int s0] h := by
  refine eg_istore (i := 5) [(5, .int s0), (0, .ref l0), (1, .int l1), (3, .int l3), (4, .int l4)] dX12_couldBear_55 (Nat.le_of_ble_eq_true rfl) rfl ?_
  refine eg_aload_n (i := 0) 1 dX12_couldBear_57 rfl rfl ?_
  replace hF := eg_bind hF; obtain ⟨p1, e2, hF⟩ := hF
  refine eg_getR dX12_couldBear_58 e2 (Nat.le_of_ble_eq_true rfl) (Nat.le_of_ble_eq_true rfl) rfl ew_365 ?_
  refine eg_iload (i := 4) 4 dX12_couldBear_61 rfl ?_
  refine eg_iconst (v := (0 : Int32)) dX12_couldBear_63 (by decide) ?_
  replace hF := eg_bind hF; obtain ⟨⟨v4, h3⟩, e5, hF⟩ := hF
  refine eg_callV (c := 1) (n := 2) [.int l4, .int (0 : Int32)] dX12_couldBear_64 (mX1_cell e5) rfl (fX1_cell_O e5) (Nat.le_of_ble_eq_true rfl) rfl ew_1258 ew_1259 ew_1260 ew_105 ew_1261 hy_X1_cell rfl (Nat.le_of_ble_eq_true rfl) (Nat.le_of_ble_eq_true rfl) (Nat.le_of_ble_eq_true rfl) ?_
  refine eg_iload_n (i := 1) 2 dX12_couldBear_67 rfl rfl ?_
  refine eg_ic_ne 97 dX12_couldBear_68 rfl (fun c6 => ?_) (fun c6 => ?_)
  · replace hF := eg_it c6 hF
    refine eg_aload_n (i := 0) 1 dX12_couldBear_71 rfl rfl ?_
    replace hF := eg_bind hF; obtain ⟨p7, e8, hF⟩ := hF
    refine eg_getR dX12_couldBear_72 e8 (Nat.le_of_ble_eq_true rfl) (Nat.le_of_ble_eq_true rfl) rfl ew_365 ?_
    refine eg_iload (i := 4) 4 dX12_couldBear_75 rfl ?_
    refine eg_iconst (v := (1 : Int32)) dX12_couldBear_77 (by decide) ?_
    replace hF := eg_bind hF; obtain ⟨⟨v10, h9⟩, e11, hF⟩ := hF
    refine eg_callV (c := 1) (n := 2) [.int l4, .int (1 : Int32)] dX12_couldBear_78 (mX1_cell e11) rfl (fX1_cell_O e11) (Nat.le_of_ble_eq_true rfl) rfl ew_1258 ew_1259 ew_1260 ew_105 ew_1261 hy_X1_cell rfl (Nat.le_of_ble_eq_true rfl) (Nat.le_of_ble_eq_true rfl) (Nat.le_of_ble_eq_true rfl) ?_
    refine eg_iload_n (i := 3) 3 dX12_couldBear_81 rfl rfl ?_
    refine eg_ic_gt 89 dX12_couldBear_82 rfl (fun c12 => ?_) (fun c12 => ?_)
    · replace hF := eg_it c12 hF
      refine eg_iconst (v := (0 : Int32)) dX12_couldBear_89 (by decide) ?_
      refine eg_iload (i := 5) 0 dX12_couldBear_90 rfl ?_
      refine eg_ic_eq 97 dX12_couldBear_92 rfl (fun c13 => ?_) (fun c13 => ?_)
      · replace hF := eg_it c13 hF
        refine eg_iinc (i := 4) (v := (l4 + (1 : Int32))) 4 [(4, .int (l4 + (1 : Int32))), (5, .int s0), (0, .ref l0), (1, .int l1), (3, .int l3)] dX12_couldBear_97 rfl rfl (Nat.le_of_ble_eq_true rfl) rfl ?_
        refine eg_goto 24 dX12_couldBear_100 rfl ?_
        exact eg_sub [2, 3, 4, 0] [(0, .ref l0), (1, .int l1), (3, .int l3), (4, .int (l4 + (1 : Int32)))] rfl (hrec h9 l0 l1 l3 (l4 + (1 : Int32)) hF)
      · replace hF := eg_if c13 hF
        exact eg_sub [] [] rfl (hk1 h9 (Option.some.inj hF).symm)
    · replace hF := eg_if c12 hF
      refine eg_iconst (v := (1 : Int32)) dX12_couldBear_85 (by decide) ?_
      refine eg_goto 90 dX12_couldBear_86 rfl ?_
      refine eg_iload (i := 5) 0 dX12_couldBear_90 rfl ?_
      refine eg_ic_eq 97 dX12_couldBear_92 rfl (fun c14 => ?_) (fun c14 => ?_)
      · replace hF := eg_it c14 hF
        refine eg_iinc (i := 4) (v := (l4 + (1 : Int32))) 4 [(4, .int (l4 + (1 : Int32))), (5, .int s0), (0, .ref l0), (1, .int l1), (3, .int l3)] dX12_couldBear_97 rfl rfl (Nat.le_of_ble_eq_true rfl) rfl ?_
        refine eg_goto 24 dX12_couldBear_100 rfl ?_
        exact eg_sub [2, 3, 4, 0] [(0, .ref l0), (1, .int l1), (3, .int l3), (4, .int (l4 + (1 : Int32)))] rfl (hrec h9 l0 l1 l3 (l4 + (1 : Int32)) hF)
      · replace hF := eg_if c14 hF
        exact eg_sub [] [] rfl (hk1 h9 (Option.some.inj hF).symm)
  · replace hF := eg_if c6 hF
    refine eg_iinc (i := 4) (v := (l4 + (1 : Int32))) 4 [(4, .int (l4 + (1 : Int32))), (5, .int s0), (0, .ref l0), (1, .int l1), (3, .int l3)] dX12_couldBear_97 rfl rfl (Nat.le_of_ble_eq_true rfl) rfl ?_
    refine eg_goto 24 dX12_couldBear_100 rfl ?_
    exact eg_sub [2, 3, 4, 0] [(0, .ref l0), (1, .int l1), (3, .int l3), (4, .int (l4 + (1 : Int32)))] rfl (hrec h3 l0 l1 l3 (l4 + (1 : Int32)) hF)
def fX12_couldBear_L24 : Nat → eg_H → Nat → Int32 → Int32 → Int32 → Option ((eg_H) ⊕ (eg_H))
  | 0, _, _, _, _, _ => none
  | n + 1, h, l0, l1, l3, l4 =>
    (eg_gR h 12 9 l0).bind fun p1 =>
    (fX1_size h p1).bind fun ⟨v4, h3⟩ =>
    if v4 ≤ l4 then
      (some (.inl h3))
    else
      (eg_gR h3 12 9 l0).bind fun p7 =>
      (fX1_cell h3 p7 l4 (2 : Int32)).bind fun ⟨v10, h9⟩ =>
      if v10 = (1 : Int32) then
        (fX12_couldBear_j55 (fX12_couldBear_L24 n) h9 l0 l1 l3 l4 (1 : Int32))
      else
        fX12_couldBear_j55 (fX12_couldBear_L24 n) h9 l0 l1 l3 l4 (0 : Int32)
set_option maxRecDepth 20000 in
theorem fX12_couldBear_L24_ok {h0 : eg_H} {Z : eg_C → State → Prop} {N S : Nat} : ∀ (n : Nat) (h : eg_H) (l0 : Nat) (l1 : Int32) (l3 : Int32) (l4 : Int32) (eE : (eg_H) ⊕ (eg_H)), fX12_couldBear_L24 n h l0 l1 l3 l4 = some eE → (hk0 : ∀  (h : eg_H), eE = (.inl h) → eg_AW (RX12, cX12_couldBear, 6, 2, none, "couldBear", (some .boolean)) Z N S h0 103 [] [] h) → (hk1 : ∀  (h : eg_H), eE = (.inr (h)) → eg_AW (RX12, cX12_couldBear, 6, 2, none, "couldBear", (some .boolean)) Z N S h0 95 [] [] h) → eg_AW (RX12, cX12_couldBear, 6, 2, none, "couldBear", (some .boolean)) Z N S h0 24 [(0, .ref l0), (1, .int l1), (3, .int l3), (4, .int l4)] [] h := by
  intro n
  induction n with
  | zero => intro h l0 l1 l3 l4 eE hF; exact absurd hF (by intro q; cases q)
  | succ n ih =>
    intro h l0 l1 l3 l4 eE hF hk0 hk1
    have hrec := fun (h' : eg_H) (l0 : Nat) (l1 : Int32) (l3 : Int32) (l4 : Int32) hq => ih h' l0 l1 l3 l4 eE hq hk0 hk1
    refine eg_iload (i := 4) 3 dX12_couldBear_24 rfl ?_
    refine eg_aload_n (i := 0) 0 dX12_couldBear_26 rfl rfl ?_
    replace hF := eg_bind hF; obtain ⟨p1, e2, hF⟩ := hF
    refine eg_getR dX12_couldBear_27 e2 (Nat.le_of_ble_eq_true rfl) (Nat.le_of_ble_eq_true rfl) rfl ew_365 ?_
    replace hF := eg_bind hF; obtain ⟨⟨v4, h3⟩, e5, hF⟩ := hF
    refine eg_callV (c := 1) (n := 0) [] dX12_couldBear_30 (mX1_size e5) rfl (fX1_size_O e5) (Nat.le_of_ble_eq_true rfl) rfl ew_1246 ew_1247 ew_1248 ew_105 ew_1249 hy_X1_size rfl (Nat.le_of_ble_eq_true rfl) (Nat.le_of_ble_eq_true rfl) (Nat.le_of_ble_eq_true rfl) ?_
    refine eg_ic_ge 103 dX12_couldBear_33 rfl (fun c6 => ?_) (fun c6 => ?_)
    · replace hF := eg_it c6 hF
      exact eg_sub [] [] rfl (hk0 h3 (Option.some.inj hF).symm)
    · replace hF := eg_if c6 hF
      refine eg_aload_n (i := 0) 0 dX12_couldBear_36 rfl rfl ?_
      replace hF := eg_bind hF; obtain ⟨p7, e8, hF⟩ := hF
      refine eg_getR dX12_couldBear_37 e8 (Nat.le_of_ble_eq_true rfl) (Nat.le_of_ble_eq_true rfl) rfl ew_365 ?_
      refine eg_iload (i := 4) 3 dX12_couldBear_40 rfl ?_
      refine eg_iconst (v := (2 : Int32)) dX12_couldBear_42 (by decide) ?_
      replace hF := eg_bind hF; obtain ⟨⟨v10, h9⟩, e11, hF⟩ := hF
      refine eg_callV (c := 1) (n := 2) [.int l4, .int (2 : Int32)] dX12_couldBear_43 (mX1_cell e11) rfl (fX1_cell_O e11) (Nat.le_of_ble_eq_true rfl) rfl ew_1258 ew_1259 ew_1260 ew_105 ew_1261 hy_X1_cell rfl (Nat.le_of_ble_eq_true rfl) (Nat.le_of_ble_eq_true rfl) (Nat.le_of_ble_eq_true rfl) ?_
      refine eg_iconst (v := (1 : Int32)) dX12_couldBear_46 (by decide) ?_
      refine eg_ic_ne 54 dX12_couldBear_47 rfl (fun c12 => ?_) (fun c12 => ?_)
      · replace hF := eg_it c12 hF
        refine eg_iconst (v := (1 : Int32)) dX12_couldBear_50 (by decide) ?_
        refine eg_goto 55 dX12_couldBear_51 rfl ?_
        exact (fX12_couldBear_j55_ok h9 l0 l1 l3 l4 (1 : Int32) eE hF hrec hk0 hk1)
      · replace hF := eg_if c12 hF
        refine eg_iconst (v := (0 : Int32)) dX12_couldBear_54 (by decide) ?_
        exact (fX12_couldBear_j55_ok h9 l0 l1 l3 l4 (0 : Int32) eE hF hrec hk0 hk1)
def fX12_couldBear_j20 (h : eg_H) (l0 : Nat) (l1 : Int32) (s0 : Int32) : Option (Int32 × eg_H) :=
  (fX12_couldBear_L24 eg_F h l0 l1 s0 (0 : Int32)).bind fun e =>
  match e with
  | .inl h3 =>
    some ((1 : Int32), h3)
  | .inr (h5) =>
    some ((0 : Int32), h5)
set_option maxRecDepth 20000 in
theorem fX12_couldBear_j20_ok {h0 : eg_H} (h : eg_H) (l0 : Nat) (l1 : Int32) (s0 : Int32) {rE : Int32} {hE : eg_H} (hF : fX12_couldBear_j20 h l0 l1 s0 = some (rE, hE)) : eg_AW (RX12, cX12_couldBear, 6, 2, none, "couldBear", (some .boolean)) (eg_Zm (some (.int rE)) hE h0) (eg_nc hE) (eg_ns hE) h0 20 [(0, .ref l0), (1, .int l1)] [.int s0] h := by
  refine eg_istore_n (i := 3) [(3, .int s0), (0, .ref l0), (1, .int l1)] dX12_couldBear_20 rfl (Nat.le_of_ble_eq_true rfl) rfl ?_
  refine eg_iconst (v := (0 : Int32)) dX12_couldBear_21 (by decide) ?_
  refine eg_istore (i := 4) [(4, .int (0 : Int32)), (3, .int s0), (0, .ref l0), (1, .int l1)] dX12_couldBear_22 (Nat.le_of_ble_eq_true rfl) rfl ?_
  replace hF := eg_bind hF; obtain ⟨x2, e1, hF⟩ := hF
  refine eg_sub [2, 3, 1, 0] [(0, .ref l0), (1, .int l1), (3, .int s0), (4, .int (0 : Int32))] rfl (fX12_couldBear_L24_ok eg_F h l0 l1 s0 (0 : Int32) x2 e1 ?_ ?_)
  · intro h3 e4
    subst e4
    refine eg_iconst (v := (1 : Int32)) dX12_couldBear_103 (by decide) ?_
    exact eg_zretE dX12_couldBear_104 (Or.inr rfl) hF
  · intro h5 e6
    subst e6
    refine eg_iconst (v := (0 : Int32)) dX12_couldBear_95 (by decide) ?_
    exact eg_zretE dX12_couldBear_96 (Or.inl rfl) hF
def fX12_couldBear (h : eg_H) (l0 : Nat) (l1 : Int32) (l2 : Int32) : Option (Int32 × eg_H) :=
  if eg_isO h 12 l0 then (
    (eg_gR h 12 3 l0).bind fun p1 =>
    (fX7_ofEgg h p1 l1 (1 : Int32)).bind fun ⟨v4, h3⟩ =>
    if v4 = (1 : Int32) then
      (fX12_couldBear_j20 h3 l0 l1 (l2 / (2 : Int32)))
    else
      fX12_couldBear_j20 h3 l0 l1 l2) else none
theorem fX12_couldBear_O {h : eg_H} {l0 : Nat} {l1 : Int32} {l2 : Int32} {rE : Int32} {hE : eg_H} (hF : fX12_couldBear h l0 l1 l2 = some (rE, hE)) : eg_isO h 12 l0 := (eg_ifn hF).1
set_option maxRecDepth 20000 in
theorem mX12_couldBear {h : eg_H} {l0 : Nat} {l1 : Int32} {l2 : Int32} {rE : Int32} {hE : eg_H} (hF : fX12_couldBear h l0 l1 l2 = some (rE, hE)) : eg_Met yX12_couldBear cX12_couldBear 6 (some .boolean) 2 [.ref l0, .int l1, .int l2] h (some (.int rE)) hE := by
  refine eg_enter rfl (Nat.le_of_ble_eq_true rfl) ?_
  show eg_AW (RX12, cX12_couldBear, 6, 2, none, "couldBear", (some .boolean)) (eg_Zm (some (.int rE)) hE h) (eg_nc hE) (eg_ns hE) h 0 [(0, .ref l0), (1, .int l1), (2, .int l2)] [] h
  replace hF := (eg_ifn hF).2
  refine eg_aload_n (i := 0) 0 dX12_couldBear_0 rfl rfl ?_
  replace hF := eg_bind hF; obtain ⟨p1, e2, hF⟩ := hF
  refine eg_getR dX12_couldBear_1 e2 (Nat.le_of_ble_eq_true rfl) (Nat.le_of_ble_eq_true rfl) rfl ew_359 ?_
  refine eg_iload_n (i := 1) 1 dX12_couldBear_4 rfl rfl ?_
  refine eg_iconst (v := (1 : Int32)) dX12_couldBear_5 (by decide) ?_
  replace hF := eg_bind hF; obtain ⟨⟨v4, h3⟩, e5, hF⟩ := hF
  refine eg_callV (c := 7) (n := 2) [.int l1, .int (1 : Int32)] dX12_couldBear_6 (mX7_ofEgg e5) rfl (fX7_ofEgg_O e5) (Nat.le_of_ble_eq_true rfl) rfl ew_699 ew_700 ew_701 ew_104 ew_702 hy_X7_ofEgg rfl (Nat.le_of_ble_eq_true rfl) (Nat.le_of_ble_eq_true rfl) (Nat.le_of_ble_eq_true rfl) ?_
  refine eg_iconst (v := (1 : Int32)) dX12_couldBear_9 (by decide) ?_
  refine eg_ic_ne 19 dX12_couldBear_10 rfl (fun c6 => ?_) (fun c6 => ?_)
  · replace hF := eg_it c6 hF
    refine eg_iload_n (i := 2) 2 dX12_couldBear_13 rfl rfl ?_
    refine eg_iconst (v := (2 : Int32)) dX12_couldBear_14 (by decide) ?_
    refine eg_idiv dX12_couldBear_15 (by decide) ?_
    refine eg_goto 20 dX12_couldBear_16 rfl ?_
    exact eg_sub [0, 1] [(0, .ref l0), (1, .int l1)] rfl (fX12_couldBear_j20_ok h3 l0 l1 (l2 / (2 : Int32)) hF)
  · replace hF := eg_if c6 hF
    refine eg_iload_n (i := 2) 2 dX12_couldBear_19 rfl rfl ?_
    exact eg_sub [0, 1] [(0, .ref l0), (1, .int l1)] rfl (fX12_couldBear_j20_ok h3 l0 l1 l2 hF)
