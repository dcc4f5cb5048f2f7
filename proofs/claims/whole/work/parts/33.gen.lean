theorem dX12_strong_0 : decode cX12_strong 0 = .ok (.aload_n 0, 1) := by decide +kernel
theorem dX12_strong_1 : decode cX12_strong 1 = .ok (.getfield 35, 3) := by decide +kernel
theorem dX12_strong_4 : decode cX12_strong 4 = .ok (.iload_n 1, 1) := by decide +kernel
theorem dX12_strong_5 : decode cX12_strong 5 = .ok (.invokevirtual 182, 3) := by decide +kernel
theorem dX12_strong_8 : decode cX12_strong 8 = .ok (.ifCond .eq 12, 3) := by decide +kernel
theorem dX12_strong_11 : decode cX12_strong 11 = .ok (.iload_n 2, 1) := by decide +kernel
theorem dX12_strong_12 : decode cX12_strong 12 = .ok (.ifCond .lt 8, 3) := by decide +kernel
theorem dX12_strong_15 : decode cX12_strong 15 = .ok (.iload_n 2, 1) := by decide +kernel
theorem dX12_strong_16 : decode cX12_strong 16 = .ok (.iconst 2, 1) := by decide +kernel
theorem dX12_strong_17 : decode cX12_strong 17 = .ok (.if_icmp .le 6, 3) := by decide +kernel
theorem dX12_strong_20 : decode cX12_strong 20 = .ok (.ldc 223, 2) := by decide +kernel
theorem dX12_strong_22 : decode cX12_strong 22 = .ok (.ireturn, 1) := by decide +kernel
theorem dX12_strong_23 : decode cX12_strong 23 = .ok (.iconst 0, 1) := by decide +kernel
theorem dX12_strong_24 : decode cX12_strong 24 = .ok (.istore_n 3, 1) := by decide +kernel
theorem dX12_strong_25 : decode cX12_strong 25 = .ok (.iconst (-1), 1) := by decide +kernel
theorem dX12_strong_26 : decode cX12_strong 26 = .ok (.istore 4, 2) := by decide +kernel
theorem dX12_strong_28 : decode cX12_strong 28 = .ok (.iconst (-1), 1) := by decide +kernel
theorem dX12_strong_29 : decode cX12_strong 29 = .ok (.istore 5, 2) := by decide +kernel
theorem dX12_strong_31 : decode cX12_strong 31 = .ok (.iconst 1, 1) := by decide +kernel
theorem dX12_strong_32 : decode cX12_strong 32 = .ok (.istore 6, 2) := by decide +kernel
theorem dX12_strong_34 : decode cX12_strong 34 = .ok (.iload 6, 2) := by decide +kernel
theorem dX12_strong_36 : decode cX12_strong 36 = .ok (.bipush 99, 2) := by decide +kernel
theorem dX12_strong_38 : decode cX12_strong 38 = .ok (.if_icmp .gt 41, 3) := by decide +kernel
theorem dX12_strong_41 : decode cX12_strong 41 = .ok (.aload_n 0, 1) := by decide +kernel
theorem dX12_strong_42 : decode cX12_strong 42 = .ok (.iload_n 1, 1) := by decide +kernel
theorem dX12_strong_43 : decode cX12_strong 43 = .ok (.iload 6, 2) := by decide +kernel
theorem dX12_strong_45 : decode cX12_strong 45 = .ok (.invokevirtual 457, 3) := by decide +kernel
theorem dX12_strong_48 : decode cX12_strong 48 = .ok (.ifCond .eq 25, 3) := by decide +kernel
theorem dX12_strong_51 : decode cX12_strong 51 = .ok (.iinc 3 1, 3) := by decide +kernel
theorem dX12_strong_54 : decode cX12_strong 54 = .ok (.iload 4, 2) := by decide +kernel
theorem dX12_strong_56 : decode cX12_strong 56 = .ok (.iconst (-1), 1) := by decide +kernel
theorem dX12_strong_57 : decode cX12_strong 57 = .ok (.if_icmp .ne 8, 3) := by decide +kernel
theorem dX12_strong_60 : decode cX12_strong 60 = .ok (.iload 6, 2) := by decide +kernel
theorem dX12_strong_62 : decode cX12_strong 62 = .ok (.goto 5, 3) := by decide +kernel
theorem dX12_strong_65 : decode cX12_strong 65 = .ok (.iload 4, 2) := by decide +kernel
theorem dX12_strong_67 : decode cX12_strong 67 = .ok (.istore 4, 2) := by decide +kernel
theorem dX12_strong_69 : decode cX12_strong 69 = .ok (.iload 6, 2) := by decide +kernel
theorem dX12_strong_71 : decode cX12_strong 71 = .ok (.istore 5, 2) := by decide +kernel
theorem dX12_strong_73 : decode cX12_strong 73 = .ok (.iinc 6 1, 3) := by decide +kernel
theorem dX12_strong_76 : decode cX12_strong 76 = .ok (.goto (-42), 3) := by decide +kernel
theorem dX12_strong_79 : decode cX12_strong 79 = .ok (.iload_n 2, 1) := by decide +kernel
theorem dX12_strong_80 : decode cX12_strong 80 = .ok (.ifCond .ne 5, 3) := by decide +kernel
theorem dX12_strong_83 : decode cX12_strong 83 = .ok (.iload_n 3, 1) := by decide +kernel
theorem dX12_strong_84 : decode cX12_strong 84 = .ok (.ireturn, 1) := by decide +kernel
theorem dX12_strong_85 : decode cX12_strong 85 = .ok (.iload_n 2, 1) := by decide +kernel
theorem dX12_strong_86 : decode cX12_strong 86 = .ok (.iconst 1, 1) := by decide +kernel
theorem dX12_strong_87 : decode cX12_strong 87 = .ok (.if_icmp .ne 8, 3) := by decide +kernel
theorem dX12_strong_90 : decode cX12_strong 90 = .ok (.iload 4, 2) := by decide +kernel
theorem dX12_strong_92 : decode cX12_strong 92 = .ok (.goto 5, 3) := by decide +kernel
theorem dX12_strong_95 : decode cX12_strong 95 = .ok (.iload 5, 2) := by decide +kernel
theorem dX12_strong_97 : decode cX12_strong 97 = .ok (.ireturn, 1) := by decide +kernel
def fX12_strong_L34 : Nat → eg_H → Nat → Int32 → Int32 → Int32 → Int32 → Int32 → Int32 → Option (Int32 × Int32 × Int32 × Int32 × eg_H)
  | 0, _, _, _, _, _, _, _, _ => none
  | n + 1, h, l0, l1, l2, l3, l4, l5, l6 =>
    if (99 : Int32) < l6 then
      (some (l2, l3, l4, l5, h))
    else
      (fX12_couldBear h l0 l1 l6).bind fun ⟨v3, h2⟩ =>
      if v3 = 0 then
        (fX12_strong_L34 n h2 l0 l1 l2 l3 l4 l5 (l6 + (1 : Int32)))
      else
        if l4 = (-1 : Int32) then
          (fX12_strong_L34 n h2 l0 l1 l2 (l3 + (1 : Int32)) l6 l6 (l6 + (1 : Int32)))
        else
          fX12_strong_L34 n h2 l0 l1 l2 (l3 + (1 : Int32)) l4 l6 (l6 + (1 : Int32))
set_option maxRecDepth 20000 in
theorem fX12_strong_L34_ok {h0 : eg_H} {Z : eg_C → State → Prop} {N S : Nat} : ∀ (n : Nat) (h : eg_H) (l0 : Nat) (l1 : Int32) (l2 : Int32) (l3 : Int32) (l4 : Int32) (l5 : Int32) (l6 : Int32) (eE : Int32 × Int32 × Int32 × Int32 × eg_H), fX12_strong_L34 n h l0 l1 l2 l3 l4 l5 l6 = some eE → (hk0 : ∀ (l2 : Int32) (l3 : Int32) (l4 : Int32) (l5 : Int32) (h : eg_H), eE = (l2, l3, l4, l5, h) → eg_AW (RX12, cX12_strong, 7, 3, none, "strong", (some .int)) Z N S h0 79 [(2, .int l2), (3, .int l3), (4, .int l4), (5, .int l5)] [] h) → eg_AW (RX12, cX12_strong, 7, 3, none, "strong", (some .int)) Z N S h0 34 [(0, .ref l0), (1, .int l1), (2, .int l2), (3, .int l3), (4, .int l4), (5, .int l5), (6, .int l6)] [] h := by
  intro n
  induction n with
  | zero => intro h l0 l1 l2 l3 l4 l5 l6 eE hF; exact absurd hF (by intro q; cases q)
  | succ n ih =>
    intro h l0 l1 l2 l3 l4 l5 l6 eE hF hk0
    have hrec := fun (h' : eg_H) (l0 : Nat) (l1 : Int32) (l2 : Int32) (l3 : Int32) (l4 : Int32) (l5 : Int32) (l6 : Int32) hq => ih h' l0 l1 l2 l3 l4 l5 l6 eE hq hk0
    refine eg_iload (i := 6) 6 dX12_strong_34 rfl ?_
    refine eg_bipush (v := (99 : Int32)) dX12_strong_36 (by decide) ?_
    refine eg_ic_gt 79 dX12_strong_38 rfl (fun c1 => ?_) (fun c1 => ?_)
    · replace hF := eg_it c1 hF
      exact eg_sub [2, 3, 4, 5] [(2, .int l2), (3, .int l3), (4, .int l4), (5, .int l5)] rfl (hk0 l2 l3 l4 l5 h (Option.some.inj hF).symm)
    · replace hF := eg_if c1 hF
      refine eg_aload_n (i := 0) 0 dX12_strong_41 rfl rfl ?_
      refine eg_iload_n (i := 1) 1 dX12_strong_42 rfl rfl ?_
      refine eg_iload (i := 6) 6 dX12_strong_43 rfl ?_
      replace hF := eg_bind hF; obtain ⟨⟨v3, h2⟩, e4, hF⟩ := hF
      refine eg_callV (c := 12) (n := 2) [.int l1, .int l6] dX12_strong_45 (mX12_couldBear e4) rfl (fX12_couldBear_O e4) (Nat.le_of_ble_eq_true rfl) rfl ew_1254 ew_1256 ew_45 ew_100 ew_1257 hy_X12_couldBear rfl (Nat.le_of_ble_eq_true rfl) (Nat.le_of_ble_eq_true rfl) (Nat.le_of_ble_eq_true rfl) ?_
      refine eg_if_eq 73 dX12_strong_48 rfl (fun c5 => ?_) (fun c5 => ?_)
      · replace hF := eg_it c5 hF
        refine eg_iinc (i := 6) (v := (l6 + (1 : Int32))) 6 [(6, .int (l6 + (1 : Int32))), (0, .ref l0), (1, .int l1), (2, .int l2), (3, .int l3), (4, .int l4), (5, .int l5)] dX12_strong_73 rfl rfl (Nat.le_of_ble_eq_true rfl) rfl ?_
        refine eg_goto 34 dX12_strong_76 rfl ?_
        exact eg_sub [1, 2, 3, 4, 5, 6, 0] [(0, .ref l0), (1, .int l1), (2, .int l2), (3, .int l3), (4, .int l4), (5, .int l5), (6, .int (l6 + (1 : Int32)))] rfl (hrec h2 l0 l1 l2 l3 l4 l5 (l6 + (1 : Int32)) hF)
      · replace hF := eg_if c5 hF
        refine eg_iinc (i := 3) (v := (l3 + (1 : Int32))) 3 [(3, .int (l3 + (1 : Int32))), (0, .ref l0), (1, .int l1), (2, .int l2), (4, .int l4), (5, .int l5), (6, .int l6)] dX12_strong_51 rfl rfl (Nat.le_of_ble_eq_true rfl) rfl ?_
        refine eg_iload (i := 4) 4 dX12_strong_54 rfl ?_
        refine eg_iconst (v := (-1 : Int32)) dX12_strong_56 (by decide) ?_
        refine eg_ic_ne 65 dX12_strong_57 rfl (fun c6 => ?_) (fun c6 => ?_)
        · replace hF := eg_it c6 hF
          refine eg_iload (i := 6) 6 dX12_strong_60 rfl ?_
          refine eg_goto 67 dX12_strong_62 rfl ?_
          refine eg_istore (i := 4) [(4, .int l6), (3, .int (l3 + (1 : Int32))), (0, .ref l0), (1, .int l1), (2, .int l2), (5, .int l5), (6, .int l6)] dX12_strong_67 (Nat.le_of_ble_eq_true rfl) rfl ?_
          refine eg_iload (i := 6) 6 dX12_strong_69 rfl ?_
          refine eg_istore (i := 5) [(5, .int l6), (4, .int l6), (3, .int (l3 + (1 : Int32))), (0, .ref l0), (1, .int l1), (2, .int l2), (6, .int l6)] dX12_strong_71 (Nat.le_of_ble_eq_true rfl) rfl ?_
          refine eg_iinc (i := 6) (v := (l6 + (1 : Int32))) 6 [(6, .int (l6 + (1 : Int32))), (5, .int l6), (4, .int l6), (3, .int (l3 + (1 : Int32))), (0, .ref l0), (1, .int l1), (2, .int l2)] dX12_strong_73 rfl rfl (Nat.le_of_ble_eq_true rfl) rfl ?_
          refine eg_goto 34 dX12_strong_76 rfl ?_
          exact eg_sub [4, 5, 6, 3, 2, 1, 0] [(0, .ref l0), (1, .int l1), (2, .int l2), (3, .int (l3 + (1 : Int32))), (4, .int l6), (5, .int l6), (6, .int (l6 + (1 : Int32)))] rfl (hrec h2 l0 l1 l2 (l3 + (1 : Int32)) l6 l6 (l6 + (1 : Int32)) hF)
        · replace hF := eg_if c6 hF
          refine eg_iload (i := 4) 4 dX12_strong_65 rfl ?_
          refine eg_istore (i := 4) [(4, .int l4), (3, .int (l3 + (1 : Int32))), (0, .ref l0), (1, .int l1), (2, .int l2), (5, .int l5), (6, .int l6)] dX12_strong_67 (Nat.le_of_ble_eq_true rfl) rfl ?_
          refine eg_iload (i := 6) 6 dX12_strong_69 rfl ?_
          refine eg_istore (i := 5) [(5, .int l6), (4, .int l4), (3, .int (l3 + (1 : Int32))), (0, .ref l0), (1, .int l1), (2, .int l2), (6, .int l6)] dX12_strong_71 (Nat.le_of_ble_eq_true rfl) rfl ?_
          refine eg_iinc (i := 6) (v := (l6 + (1 : Int32))) 6 [(6, .int (l6 + (1 : Int32))), (5, .int l6), (4, .int l4), (3, .int (l3 + (1 : Int32))), (0, .ref l0), (1, .int l1), (2, .int l2)] dX12_strong_73 rfl rfl (Nat.le_of_ble_eq_true rfl) rfl ?_
          refine eg_goto 34 dX12_strong_76 rfl ?_
          exact eg_sub [4, 5, 6, 3, 2, 1, 0] [(0, .ref l0), (1, .int l1), (2, .int l2), (3, .int (l3 + (1 : Int32))), (4, .int l4), (5, .int l6), (6, .int (l6 + (1 : Int32)))] rfl (hrec h2 l0 l1 l2 (l3 + (1 : Int32)) l4 l6 (l6 + (1 : Int32)) hF)
def fX12_strong (h : eg_H) (l0 : Nat) (l1 : Int32) (l2 : Int32) : Option (Int32 × eg_H) :=
  if eg_isO h 12 l0 then (
    (eg_gR h 12 3 l0).bind fun p1 =>
    (fX7_isEgg h p1 l1).bind fun ⟨v4, h3⟩ =>
    if v4 = 0 then
      (some ((-1000000 : Int32), h3))
    else
      if l2 < 0 then
        (some ((-1000000 : Int32), h3))
      else
        if l2 ≤ (2 : Int32) then
          ((fX12_strong_L34 eg_F h3 l0 l1 l2 (0 : Int32) (-1 : Int32) (-1 : Int32) (1 : Int32)).bind fun e =>
          match e with
          | (v11, v12, v13, v14, h15) =>
            if v11 = 0 then
              (some (v12, h15))
            else
              if v11 = (1 : Int32) then
                (some (v13, h15))
              else
                some (v14, h15))
        else
          some ((-1000000 : Int32), h3)) else none
theorem fX12_strong_O {h : eg_H} {l0 : Nat} {l1 : Int32} {l2 : Int32} {rE : Int32} {hE : eg_H} (hF : fX12_strong h l0 l1 l2 = some (rE, hE)) : eg_isO h 12 l0 := (eg_ifn hF).1
set_option maxRecDepth 20000 in
theorem mX12_strong {h : eg_H} {l0 : Nat} {l1 : Int32} {l2 : Int32} {rE : Int32} {hE : eg_H} (hF : fX12_strong h l0 l1 l2 = some (rE, hE)) : eg_Met yX12_strong cX12_strong 7 (some .int) 3 [.ref l0, .int l1, .int l2] h (some (.int rE)) hE := by
  refine eg_enter rfl (Nat.le_of_ble_eq_true rfl) ?_
  show eg_AW (RX12, cX12_strong, 7, 3, none, "strong", (some .int)) (eg_Zm (some (.int rE)) hE h) (eg_nc hE) (eg_ns hE) h 0 [(0, .ref l0), (1, .int l1), (2, .int l2)] [] h
  replace hF := (eg_ifn hF).2
  refine eg_aload_n (i := 0) 0 dX12_strong_0 rfl rfl ?_
  replace hF := eg_bind hF; obtain ⟨p1, e2, hF⟩ := hF
  refine eg_getR dX12_strong_1 e2 (Nat.le_of_ble_eq_true rfl) (Nat.le_of_ble_eq_true rfl) rfl ew_359 ?_
  refine eg_iload_n (i := 1) 1 dX12_strong_4 rfl rfl ?_
  replace hF := eg_bind hF; obtain ⟨⟨v4, h3⟩, e5, hF⟩ := hF
  refine eg_callV (c := 7) (n := 1) [.int l1] dX12_strong_5 (mX7_isEgg e5) rfl (fX7_isEgg_O e5) (Nat.le_of_ble_eq_true rfl) rfl ew_695 ew_696 ew_697 ew_104 ew_698 hy_X7_isEgg rfl (Nat.le_of_ble_eq_true rfl) (Nat.le_of_ble_eq_true rfl) (Nat.le_of_ble_eq_true rfl) ?_
  refine eg_if_eq 20 dX12_strong_8 rfl (fun c6 => ?_) (fun c6 => ?_)
  · replace hF := eg_it c6 hF
    refine eg_ldc (v := (-1000000 : Int32)) dX12_strong_20 ew_739 ?_
    exact eg_iretE dX12_strong_22 hF
  · replace hF := eg_if c6 hF
    refine eg_iload_n (i := 2) 2 dX12_strong_11 rfl rfl ?_
    refine eg_if_lt 20 dX12_strong_12 rfl (fun c7 => ?_) (fun c7 => ?_)
    · replace hF := eg_it c7 hF
      refine eg_ldc (v := (-1000000 : Int32)) dX12_strong_20 ew_739 ?_
      exact eg_iretE dX12_strong_22 hF
    · replace hF := eg_if c7 hF
      refine eg_iload_n (i := 2) 2 dX12_strong_15 rfl rfl ?_
      refine eg_iconst (v := (2 : Int32)) dX12_strong_16 (by decide) ?_
      refine eg_ic_le 23 dX12_strong_17 rfl (fun c8 => ?_) (fun c8 => ?_)
      · replace hF := eg_it c8 hF
        refine eg_iconst (v := (0 : Int32)) dX12_strong_23 (by decide) ?_
        refine eg_istore_n (i := 3) [(3, .int (0 : Int32)), (0, .ref l0), (1, .int l1), (2, .int l2)] dX12_strong_24 rfl (Nat.le_of_ble_eq_true rfl) rfl ?_
        refine eg_iconst (v := (-1 : Int32)) dX12_strong_25 (by decide) ?_
        refine eg_istore (i := 4) [(4, .int (-1 : Int32)), (3, .int (0 : Int32)), (0, .ref l0), (1, .int l1), (2, .int l2)] dX12_strong_26 (Nat.le_of_ble_eq_true rfl) rfl ?_
        refine eg_iconst (v := (-1 : Int32)) dX12_strong_28 (by decide) ?_
        refine eg_istore (i := 5) [(5, .int (-1 : Int32)), (4, .int (-1 : Int32)), (3, .int (0 : Int32)), (0, .ref l0), (1, .int l1), (2, .int l2)] dX12_strong_29 (Nat.le_of_ble_eq_true rfl) rfl ?_
        refine eg_iconst (v := (1 : Int32)) dX12_strong_31 (by decide) ?_
        refine eg_istore (i := 6) [(6, .int (1 : Int32)), (5, .int (-1 : Int32)), (4, .int (-1 : Int32)), (3, .int (0 : Int32)), (0, .ref l0), (1, .int l1), (2, .int l2)] dX12_strong_32 (Nat.le_of_ble_eq_true rfl) rfl ?_
        replace hF := eg_bind hF; obtain ⟨x10, e9, hF⟩ := hF
        refine eg_sub [4, 5, 6, 3, 2, 1, 0] [(0, .ref l0), (1, .int l1), (2, .int l2), (3, .int (0 : Int32)), (4, .int (-1 : Int32)), (5, .int (-1 : Int32)), (6, .int (1 : Int32))] rfl (fX12_strong_L34_ok eg_F h3 l0 l1 l2 (0 : Int32) (-1 : Int32) (-1 : Int32) (1 : Int32) x10 e9 ?_)
        · intro v11 v12 v13 v14 h15 e18
          subst e18
          refine eg_iload_n (i := 2) 0 dX12_strong_79 rfl rfl ?_
          refine eg_if_ne 85 dX12_strong_80 rfl (fun c16 => ?_) (fun c16 => ?_)
          · replace hF := eg_it c16 hF
            refine eg_iload_n (i := 3) 1 dX12_strong_83 rfl rfl ?_
            exact eg_iretE dX12_strong_84 hF
          · replace hF := eg_if c16 hF
            refine eg_iload_n (i := 2) 0 dX12_strong_85 rfl rfl ?_
            refine eg_iconst (v := (1 : Int32)) dX12_strong_86 (by decide) ?_
            refine eg_ic_ne 95 dX12_strong_87 rfl (fun c17 => ?_) (fun c17 => ?_)
            · replace hF := eg_it c17 hF
              refine eg_iload (i := 4) 2 dX12_strong_90 rfl ?_
              refine eg_goto 97 dX12_strong_92 rfl ?_
              exact eg_iretE dX12_strong_97 hF
            · replace hF := eg_if c17 hF
              refine eg_iload (i := 5) 3 dX12_strong_95 rfl ?_
              exact eg_iretE dX12_strong_97 hF
      · replace hF := eg_if c8 hF
        refine eg_ldc (v := (-1000000 : Int32)) dX12_strong_20 ew_739 ?_
        exact eg_iretE dX12_strong_22 hF
theorem dX12_measure_0 : decode cX12_measure 0 = .ok (.aload_n 0, 1) := by decide +kernel
theorem dX12_measure_1 : decode cX12_measure 1 = .ok (.getfield 35, 3) := by decide +kernel
theorem dX12_measure_4 : decode cX12_measure 4 = .ok (.iload_n 1, 1) := by decide +kernel
theorem dX12_measure_5 : decode cX12_measure 5 = .ok (.invokevirtual 167, 3) := by decide +kernel
theorem dX12_measure_8 : decode cX12_measure 8 = .ok (.ifCond .eq 27, 3) := by decide +kernel
theorem dX12_measure_11 : decode cX12_measure 11 = .ok (.iload_n 2, 1) := by decide +kernel
theorem dX12_measure_12 : decode cX12_measure 12 = .ok (.ifCond .lt 23, 3) := by decide +kernel
theorem dX12_measure_15 : decode cX12_measure 15 = .ok (.iload_n 2, 1) := by decide +kernel
theorem dX12_measure_16 : decode cX12_measure 16 = .ok (.bipush 100, 2) := by decide +kernel
theorem dX12_measure_18 : decode cX12_measure 18 = .ok (.idiv, 1) := by decide +kernel
theorem dX12_measure_19 : decode cX12_measure 19 = .ok (.invokestatic 227, 3) := by decide +kernel
theorem dX12_measure_22 : decode cX12_measure 22 = .ok (.ifCond .eq 13, 3) := by decide +kernel
theorem dX12_measure_25 : decode cX12_measure 25 = .ok (.iload_n 2, 1) := by decide +kernel
theorem dX12_measure_26 : decode cX12_measure 26 = .ok (.bipush 10, 2) := by decide +kernel
theorem dX12_measure_28 : decode cX12_measure 28 = .ok (.irem, 1) := by decide +kernel
theorem dX12_measure_29 : decode cX12_measure 29 = .ok (.invokestatic 216, 3) := by decide +kernel
theorem dX12_measure_32 : decode cX12_measure 32 = .ok (.ifCond .ne 5, 3) := by decide +kernel
theorem dX12_measure_35 : decode cX12_measure 35 = .ok (.iconst (-1), 1) := by decide +kernel
theorem dX12_measure_36 : decode cX12_measure 36 = .ok (.ireturn, 1) := by decide +kernel
theorem dX12_measure_37 : decode cX12_measure 37 = .ok (.iload_n 3, 1) := by decide +kernel
theorem dX12_measure_38 : decode cX12_measure 38 = .ok (.bipush 99, 2) := by decide +kernel
theorem dX12_measure_40 : decode cX12_measure 40 = .ok (.invokestatic 219, 3) := by decide +kernel
theorem dX12_measure_43 : decode cX12_measure 43 = .ok (.ifCond .eq 26, 3) := by decide +kernel
theorem dX12_measure_46 : decode cX12_measure 46 = .ok (.iload 4, 2) := by decide +kernel
theorem dX12_measure_48 : decode cX12_measure 48 = .ok (.ifCond .lt 21, 3) := by decide +kernel
theorem dX12_measure_51 : decode cX12_measure 51 = .ok (.iload 4, 2) := by decide +kernel
theorem dX12_measure_53 : decode cX12_measure 53 = .ok (.sipush 999, 3) := by decide +kernel
theorem dX12_measure_56 : decode cX12_measure 56 = .ok (.if_icmp .gt 13, 3) := by decide +kernel
theorem dX12_measure_59 : decode cX12_measure 59 = .ok (.aload_n 0, 1) := by decide +kernel
theorem dX12_measure_60 : decode cX12_measure 60 = .ok (.getfield 70, 3) := by decide +kernel
theorem dX12_measure_63 : decode cX12_measure 63 = .ok (.invokevirtual 448, 3) := by decide +kernel
theorem dX12_measure_66 : decode cX12_measure 66 = .ok (.ifCond .eq 5, 3) := by decide +kernel
theorem dX12_measure_69 : decode cX12_measure 69 = .ok (.iconst (-1), 1) := by decide +kernel
theorem dX12_measure_70 : decode cX12_measure 70 = .ok (.ireturn, 1) := by decide +kernel
theorem dX12_measure_71 : decode cX12_measure 71 = .ok (.aload_n 0, 1) := by decide +kernel
theorem dX12_measure_72 : decode cX12_measure 72 = .ok (.getfield 70, 3) := by decide +kernel
theorem dX12_measure_75 : decode cX12_measure 75 = .ok (.iload_n 1, 1) := by decide +kernel
theorem dX12_measure_76 : decode cX12_measure 76 = .ok (.iload_n 2, 1) := by decide +kernel
theorem dX12_measure_77 : decode cX12_measure 77 = .ok (.iload_n 3, 1) := by decide +kernel
theorem dX12_measure_78 : decode cX12_measure 78 = .ok (.iload 4, 2) := by decide +kernel
theorem dX12_measure_80 : decode cX12_measure 80 = .ok (.invokevirtual 451, 3) := by decide +kernel
theorem dX12_measure_83 : decode cX12_measure 83 = .ok (.aload_n 0, 1) := by decide +kernel
theorem dX12_measure_84 : decode cX12_measure 84 = .ok (.getfield 70, 3) := by decide +kernel
theorem dX12_measure_87 : decode cX12_measure 87 = .ok (.invokevirtual 454, 3) := by decide +kernel
theorem dX12_measure_90 : decode cX12_measure 90 = .ok (.ireturn, 1) := by decide +kernel
def fX12_measure (h : eg_H) (l0 : Nat) (l1 : Int32) (l2 : Int32) (l3 : Int32) (l4 : Int32) : Option (Int32 × eg_H) :=
  if eg_isO h 12 l0 then (
    (eg_gR h 12 3 l0).bind fun p1 =>
    (fX7_isPerson h p1 l1).bind fun ⟨v4, h3⟩ =>
    if v4 = 0 then
      (some ((-1 : Int32), h3))
    else
      if l2 < 0 then
        (some ((-1 : Int32), h3))
      else
        (fX12_isYards h3 (l2 / (100 : Int32))).bind fun ⟨v9, h8⟩ =>
        if v9 = 0 then
          (some ((-1 : Int32), h8))
        else
          (fX12_isEnd h8 (l2 % (10 : Int32))).bind fun ⟨v13, h12⟩ =>
          if v13 = 0 then
            (some ((-1 : Int32), h12))
          else
            (fX12_isWithin h12 l3 (99 : Int32)).bind fun ⟨v17, h16⟩ =>
            if v17 = 0 then
              (some ((-1 : Int32), h16))
            else
              if l4 < 0 then
                (some ((-1 : Int32), h16))
              else
                if (999 : Int32) < l4 then
                  (some ((-1 : Int32), h16))
                else
                  (eg_gR h16 12 10 l0).bind fun p22 =>
                  (fX1_isFull h16 p22).bind fun ⟨v25, h24⟩ =>
                  if v25 = 0 then
                    ((eg_gR h24 12 10 l0).bind fun p28 =>
                    (fX1_add h24 p28 l1 l2 l3 l4).bind fun h30 =>
                    (eg_gR h30 12 10 l0).bind fun p32 =>
                    (fX1_size h30 p32).bind fun ⟨v35, h34⟩ =>
                    some (v35, h34))
                  else
                    some ((-1 : Int32), h24)) else none
theorem fX12_measure_O {h : eg_H} {l0 : Nat} {l1 : Int32} {l2 : Int32} {l3 : Int32} {l4 : Int32} {rE : Int32} {hE : eg_H} (hF : fX12_measure h l0 l1 l2 l3 l4 = some (rE, hE)) : eg_isO h 12 l0 := (eg_ifn hF).1
set_option maxRecDepth 20000 in
theorem mX12_measure {h : eg_H} {l0 : Nat} {l1 : Int32} {l2 : Int32} {l3 : Int32} {l4 : Int32} {rE : Int32} {hE : eg_H} (hF : fX12_measure h l0 l1 l2 l3 l4 = some (rE, hE)) : eg_Met yX12_measure cX12_measure 5 (some .int) 2 [.ref l0, .int l1, .int l2, .int l3, .int l4] h (some (.int rE)) hE := by
  refine eg_enter rfl (Nat.le_of_ble_eq_true rfl) ?_
  show eg_AW (RX12, cX12_measure, 5, 2, none, "measure", (some .int)) (eg_Zm (some (.int rE)) hE h) (eg_nc hE) (eg_ns hE) h 0 [(0, .ref l0), (1, .int l1), (2, .int l2), (3, .int l3), (4, .int l4)] [] h
  replace hF := (eg_ifn hF).2
  refine eg_aload_n (i := 0) 0 dX12_measure_0 rfl rfl ?_
  replace hF := eg_bind hF; obtain ⟨p1, e2, hF⟩ := hF
  refine eg_getR dX12_measure_1 e2 (Nat.le_of_ble_eq_true rfl) (Nat.le_of_ble_eq_true rfl) rfl ew_359 ?_
  refine eg_iload_n (i := 1) 1 dX12_measure_4 rfl rfl ?_
  replace hF := eg_bind hF; obtain ⟨⟨v4, h3⟩, e5, hF⟩ := hF
  refine eg_callV (c := 7) (n := 1) [.int l1] dX12_measure_5 (mX7_isPerson e5) rfl (fX7_isPerson_O e5) (Nat.le_of_ble_eq_true rfl) rfl ew_729 ew_730 ew_731 ew_104 ew_732 hy_X7_isPerson rfl (Nat.le_of_ble_eq_true rfl) (Nat.le_of_ble_eq_true rfl) (Nat.le_of_ble_eq_true rfl) ?_
  refine eg_if_eq 35 dX12_measure_8 rfl (fun c6 => ?_) (fun c6 => ?_)
  · replace hF := eg_it c6 hF
    refine eg_iconst (v := (-1 : Int32)) dX12_measure_35 (by decide) ?_
    exact eg_iretE dX12_measure_36 hF
  · replace hF := eg_if c6 hF
    refine eg_iload_n (i := 2) 2 dX12_measure_11 rfl rfl ?_
    refine eg_if_lt 35 dX12_measure_12 rfl (fun c7 => ?_) (fun c7 => ?_)
    · replace hF := eg_it c7 hF
      refine eg_iconst (v := (-1 : Int32)) dX12_measure_35 (by decide) ?_
      exact eg_iretE dX12_measure_36 hF
    · replace hF := eg_if c7 hF
      refine eg_iload_n (i := 2) 2 dX12_measure_15 rfl rfl ?_
      refine eg_bipush (v := (100 : Int32)) dX12_measure_16 (by decide) ?_
      refine eg_idiv dX12_measure_18 (by decide) ?_
      replace hF := eg_bind hF; obtain ⟨⟨v9, h8⟩, e10, hF⟩ := hF
      refine eg_callS (n := 1) [.int (l2 / (100 : Int32))] dX12_measure_19 (mX12_isYards e10) rfl ew_752 ew_753 ew_100 ew_754 hy_X12_isYards.2 rfl (Nat.le_of_ble_eq_true rfl) (Nat.le_of_ble_eq_true rfl) (Nat.le_of_ble_eq_true rfl) ?_
      refine eg_if_eq 35 dX12_measure_22 rfl (fun c11 => ?_) (fun c11 => ?_)
      · replace hF := eg_it c11 hF
        refine eg_iconst (v := (-1 : Int32)) dX12_measure_35 (by decide) ?_
        exact eg_iretE dX12_measure_36 hF
      · replace hF := eg_if c11 hF
        refine eg_iload_n (i := 2) 2 dX12_measure_25 rfl rfl ?_
        refine eg_bipush (v := (10 : Int32)) dX12_measure_26 (by decide) ?_
        refine eg_irem dX12_measure_28 (by decide) ?_
        replace hF := eg_bind hF; obtain ⟨⟨v13, h12⟩, e14, hF⟩ := hF
        refine eg_callS (n := 1) [.int (l2 % (10 : Int32))] dX12_measure_29 (mX12_isEnd e14) rfl ew_733 ew_734 ew_100 ew_735 hy_X12_isEnd.2 rfl (Nat.le_of_ble_eq_true rfl) (Nat.le_of_ble_eq_true rfl) (Nat.le_of_ble_eq_true rfl) ?_
        refine eg_if_ne 37 dX12_measure_32 rfl (fun c15 => ?_) (fun c15 => ?_)
        · replace hF := eg_it c15 hF
          refine eg_iconst (v := (-1 : Int32)) dX12_measure_35 (by decide) ?_
          exact eg_iretE dX12_measure_36 hF
        · replace hF := eg_if c15 hF
          refine eg_iload_n (i := 3) 3 dX12_measure_37 rfl rfl ?_
          refine eg_bipush (v := (99 : Int32)) dX12_measure_38 (by decide) ?_
          replace hF := eg_bind hF; obtain ⟨⟨v17, h16⟩, e18, hF⟩ := hF
          refine eg_callS (n := 2) [.int l3, .int (99 : Int32)] dX12_measure_40 (mX12_isWithin e18) rfl ew_736 ew_737 ew_100 ew_738 hy_X12_isWithin.2 rfl (Nat.le_of_ble_eq_true rfl) (Nat.le_of_ble_eq_true rfl) (Nat.le_of_ble_eq_true rfl) ?_
          refine eg_if_eq 69 dX12_measure_43 rfl (fun c19 => ?_) (fun c19 => ?_)
          · replace hF := eg_it c19 hF
            refine eg_iconst (v := (-1 : Int32)) dX12_measure_69 (by decide) ?_
            exact eg_iretE dX12_measure_70 hF
          · replace hF := eg_if c19 hF
            refine eg_iload (i := 4) 4 dX12_measure_46 rfl ?_
            refine eg_if_lt 69 dX12_measure_48 rfl (fun c20 => ?_) (fun c20 => ?_)
            · replace hF := eg_it c20 hF
              refine eg_iconst (v := (-1 : Int32)) dX12_measure_69 (by decide) ?_
              exact eg_iretE dX12_measure_70 hF
            · replace hF := eg_if c20 hF
              refine eg_iload (i := 4) 4 dX12_measure_51 rfl ?_
              refine eg_sipush (v := (999 : Int32)) dX12_measure_53 (by decide) ?_
              refine eg_ic_gt 69 dX12_measure_56 rfl (fun c21 => ?_) (fun c21 => ?_)
              · replace hF := eg_it c21 hF
                refine eg_iconst (v := (-1 : Int32)) dX12_measure_69 (by decide) ?_
                exact eg_iretE dX12_measure_70 hF
              · replace hF := eg_if c21 hF
                refine eg_aload_n (i := 0) 0 dX12_measure_59 rfl rfl ?_
                replace hF := eg_bind hF; obtain ⟨p22, e23, hF⟩ := hF
                refine eg_getR dX12_measure_60 e23 (Nat.le_of_ble_eq_true rfl) (Nat.le_of_ble_eq_true rfl) rfl ew_366 ?_
                replace hF := eg_bind hF; obtain ⟨⟨v25, h24⟩, e26, hF⟩ := hF
                refine eg_callV (c := 1) (n := 0) [] dX12_measure_63 (mX1_isFull e26) rfl (fX1_isFull_O e26) (Nat.le_of_ble_eq_true rfl) rfl ew_1238 ew_1239 ew_1240 ew_105 ew_1241 hy_X1_isFull rfl (Nat.le_of_ble_eq_true rfl) (Nat.le_of_ble_eq_true rfl) (Nat.le_of_ble_eq_true rfl) ?_
                refine eg_if_eq 71 dX12_measure_66 rfl (fun c27 => ?_) (fun c27 => ?_)
                · replace hF := eg_it c27 hF
                  refine eg_aload_n (i := 0) 0 dX12_measure_71 rfl rfl ?_
                  replace hF := eg_bind hF; obtain ⟨p28, e29, hF⟩ := hF
                  refine eg_getR dX12_measure_72 e29 (Nat.le_of_ble_eq_true rfl) (Nat.le_of_ble_eq_true rfl) rfl ew_366 ?_
                  refine eg_iload_n (i := 1) 1 dX12_measure_75 rfl rfl ?_
                  refine eg_iload_n (i := 2) 2 dX12_measure_76 rfl rfl ?_
                  refine eg_iload_n (i := 3) 3 dX12_measure_77 rfl rfl ?_
                  refine eg_iload (i := 4) 4 dX12_measure_78 rfl ?_
                  replace hF := eg_bind hF; obtain ⟨h30, e31, hF⟩ := hF
                  refine eg_callV (c := 1) (n := 4) [.int l1, .int l2, .int l3, .int l4] dX12_measure_80 (mX1_add e31) rfl (fX1_add_O e31) (Nat.le_of_ble_eq_true rfl) rfl ew_1242 ew_1243 ew_1244 ew_105 ew_1245 hy_X1_add rfl (Nat.le_of_ble_eq_true rfl) (Nat.le_of_ble_eq_true rfl) (Nat.le_of_ble_eq_true rfl) ?_
                  refine eg_aload_n (i := 0) 0 dX12_measure_83 rfl rfl ?_
                  replace hF := eg_bind hF; obtain ⟨p32, e33, hF⟩ := hF
                  refine eg_getR dX12_measure_84 e33 (Nat.le_of_ble_eq_true rfl) (Nat.le_of_ble_eq_true rfl) rfl ew_366 ?_
                  replace hF := eg_bind hF; obtain ⟨⟨v35, h34⟩, e36, hF⟩ := hF
                  refine eg_callV (c := 1) (n := 0) [] dX12_measure_87 (mX1_size e36) rfl (fX1_size_O e36) (Nat.le_of_ble_eq_true rfl) rfl ew_1246 ew_1247 ew_1248 ew_105 ew_1249 hy_X1_size rfl (Nat.le_of_ble_eq_true rfl) (Nat.le_of_ble_eq_true rfl) (Nat.le_of_ble_eq_true rfl) ?_
                  exact eg_iretE dX12_measure_90 hF
                · replace hF := eg_if c27 hF
                  refine eg_iconst (v := (-1 : Int32)) dX12_measure_69 (by decide) ?_
                  exact eg_iretE dX12_measure_70 hF
theorem dX12_isMeasuredBy_0 : decode cX12_isMeasuredBy 0 = .ok (.iconst 0, 1) := by decide +kernel
theorem dX12_isMeasuredBy_1 : decode cX12_isMeasuredBy 1 = .ok (.istore_n 2, 1) := by decide +kernel
theorem dX12_isMeasuredBy_2 : decode cX12_isMeasuredBy 2 = .ok (.iload_n 2, 1) := by decide +kernel
theorem dX12_isMeasuredBy_3 : decode cX12_isMeasuredBy 3 = .ok (.aload_n 0, 1) := by decide +kernel
theorem dX12_isMeasuredBy_4 : decode cX12_isMeasuredBy 4 = .ok (.getfield 70, 3) := by decide +kernel
theorem dX12_isMeasuredBy_7 : decode cX12_isMeasuredBy 7 = .ok (.invokevirtual 454, 3) := by decide +kernel
theorem dX12_isMeasuredBy_10 : decode cX12_isMeasuredBy 10 = .ok (.if_icmp .ge 85, 3) := by decide +kernel
theorem dX12_isMeasuredBy_13 : decode cX12_isMeasuredBy 13 = .ok (.aload_n 0, 1) := by decide +kernel
theorem dX12_isMeasuredBy_14 : decode cX12_isMeasuredBy 14 = .ok (.getfield 70, 3) := by decide +kernel
theorem dX12_isMeasuredBy_17 : decode cX12_isMeasuredBy 17 = .ok (.iload_n 2, 1) := by decide +kernel
theorem dX12_isMeasuredBy_18 : decode cX12_isMeasuredBy 18 = .ok (.iconst 1, 1) := by decide +kernel
theorem dX12_isMeasuredBy_19 : decode cX12_isMeasuredBy 19 = .ok (.invokevirtual 460, 3) := by decide +kernel
theorem dX12_isMeasuredBy_22 : decode cX12_isMeasuredBy 22 = .ok (.istore_n 3, 1) := by decide +kernel
theorem dX12_isMeasuredBy_23 : decode cX12_isMeasuredBy 23 = .ok (.aload_n 0, 1) := by decide +kernel
theorem dX12_isMeasuredBy_24 : decode cX12_isMeasuredBy 24 = .ok (.getfield 92, 3) := by decide +kernel
theorem dX12_isMeasuredBy_27 : decode cX12_isMeasuredBy 27 = .ok (.aload_n 0, 1) := by decide +kernel
theorem dX12_isMeasuredBy_28 : decode cX12_isMeasuredBy 28 = .ok (.getfield 70, 3) := by decide +kernel
theorem dX12_isMeasuredBy_31 : decode cX12_isMeasuredBy 31 = .ok (.iload_n 2, 1) := by decide +kernel
theorem dX12_isMeasuredBy_32 : decode cX12_isMeasuredBy 32 = .ok (.iconst 0, 1) := by decide +kernel
theorem dX12_isMeasuredBy_33 : decode cX12_isMeasuredBy 33 = .ok (.invokevirtual 460, 3) := by decide +kernel
theorem dX12_isMeasuredBy_36 : decode cX12_isMeasuredBy 36 = .ok (.iload_n 3, 1) := by decide +kernel
theorem dX12_isMeasuredBy_37 : decode cX12_isMeasuredBy 37 = .ok (.bipush 10, 2) := by decide +kernel
theorem dX12_isMeasuredBy_39 : decode cX12_isMeasuredBy 39 = .ok (.irem, 1) := by decide +kernel
theorem dX12_isMeasuredBy_40 : decode cX12_isMeasuredBy 40 = .ok (.invokevirtual 230, 3) := by decide +kernel
theorem dX12_isMeasuredBy_43 : decode cX12_isMeasuredBy 43 = .ok (.aload_n 0, 1) := by decide +kernel
theorem dX12_isMeasuredBy_44 : decode cX12_isMeasuredBy 44 = .ok (.getfield 92, 3) := by decide +kernel
theorem dX12_isMeasuredBy_47 : decode cX12_isMeasuredBy 47 = .ok (.aload_n 1, 1) := by decide +kernel
theorem dX12_isMeasuredBy_48 : decode cX12_isMeasuredBy 48 = .ok (.iload_n 3, 1) := by decide +kernel
theorem dX12_isMeasuredBy_49 : decode cX12_isMeasuredBy 49 = .ok (.bipush 100, 2) := by decide +kernel
theorem dX12_isMeasuredBy_51 : decode cX12_isMeasuredBy 51 = .ok (.idiv, 1) := by decide +kernel
theorem dX12_isMeasuredBy_52 : decode cX12_isMeasuredBy 52 = .ok (.iload_n 3, 1) := by decide +kernel
theorem dX12_isMeasuredBy_53 : decode cX12_isMeasuredBy 53 = .ok (.bipush 10, 2) := by decide +kernel
theorem dX12_isMeasuredBy_55 : decode cX12_isMeasuredBy 55 = .ok (.idiv, 1) := by decide +kernel
theorem dX12_isMeasuredBy_56 : decode cX12_isMeasuredBy 56 = .ok (.bipush 10, 2) := by decide +kernel
theorem dX12_isMeasuredBy_58 : decode cX12_isMeasuredBy 58 = .ok (.irem, 1) := by decide +kernel
theorem dX12_isMeasuredBy_59 : decode cX12_isMeasuredBy 59 = .ok (.aload_n 0, 1) := by decide +kernel
theorem dX12_isMeasuredBy_60 : decode cX12_isMeasuredBy 60 = .ok (.getfield 70, 3) := by decide +kernel
theorem dX12_isMeasuredBy_63 : decode cX12_isMeasuredBy 63 = .ok (.iload_n 2, 1) := by decide +kernel
theorem dX12_isMeasuredBy_64 : decode cX12_isMeasuredBy 64 = .ok (.iconst 2, 1) := by decide +kernel
theorem dX12_isMeasuredBy_65 : decode cX12_isMeasuredBy 65 = .ok (.invokevirtual 460, 3) := by decide +kernel
theorem dX12_isMeasuredBy_68 : decode cX12_isMeasuredBy 68 = .ok (.invokevirtual 233, 3) := by decide +kernel
theorem dX12_isMeasuredBy_71 : decode cX12_isMeasuredBy 71 = .ok (.istore 4, 2) := by decide +kernel
theorem dX12_isMeasuredBy_73 : decode cX12_isMeasuredBy 73 = .ok (.iload 4, 2) := by decide +kernel
theorem dX12_isMeasuredBy_75 : decode cX12_isMeasuredBy 75 = .ok (.aload_n 0, 1) := by decide +kernel
theorem dX12_isMeasuredBy_76 : decode cX12_isMeasuredBy 76 = .ok (.getfield 70, 3) := by decide +kernel
theorem dX12_isMeasuredBy_79 : decode cX12_isMeasuredBy 79 = .ok (.iload_n 2, 1) := by decide +kernel
theorem dX12_isMeasuredBy_80 : decode cX12_isMeasuredBy 80 = .ok (.iconst 3, 1) := by decide +kernel
theorem dX12_isMeasuredBy_81 : decode cX12_isMeasuredBy 81 = .ok (.invokevirtual 460, 3) := by decide +kernel
theorem dX12_isMeasuredBy_84 : decode cX12_isMeasuredBy 84 = .ok (.if_icmp .eq 5, 3) := by decide +kernel
theorem dX12_isMeasuredBy_87 : decode cX12_isMeasuredBy 87 = .ok (.iconst 0, 1) := by decide +kernel
theorem dX12_isMeasuredBy_88 : decode cX12_isMeasuredBy 88 = .ok (.ireturn, 1) := by decide +kernel
theorem dX12_isMeasuredBy_89 : decode cX12_isMeasuredBy 89 = .ok (.iinc 2 1, 3) := by decide +kernel
theorem dX12_isMeasuredBy_92 : decode cX12_isMeasuredBy 92 = .ok (.goto (-90), 3) := by decide +kernel
theorem dX12_isMeasuredBy_95 : decode cX12_isMeasuredBy 95 = .ok (.iconst 1, 1) := by decide +kernel
theorem dX12_isMeasuredBy_96 : decode cX12_isMeasuredBy 96 = .ok (.ireturn, 1) := by decide +kernel
def fX12_isMeasuredBy_L2 : Nat → eg_H → Nat → Option Nat → Int32 → Option ((eg_H) ⊕ (eg_H))
  | 0, _, _, _, _ => none
  | n + 1, h, l0, l1, l2 =>
    (eg_gR h 12 10 l0).bind fun p1 =>
    (fX1_size h p1).bind fun ⟨v4, h3⟩ =>
    if v4 ≤ l2 then
      (some (.inl h3))
    else
      (eg_gR h3 12 10 l0).bind fun p7 =>
      (fX1_cell h3 p7 l2 (1 : Int32)).bind fun ⟨v10, h9⟩ =>
      (eg_gR h9 12 15 l0).bind fun p12 =>
      (eg_gR h9 12 10 l0).bind fun p14 =>
      (fX1_cell h9 p14 l2 (0 : Int32)).bind fun ⟨v17, h16⟩ =>
      (fX11_receive h16 p12 v17 (v10 % (10 : Int32))).bind fun h19 =>
      (eg_gR h19 12 15 l0).bind fun p21 =>
      (eg_gR h19 12 10 l0).bind fun p23 =>
      (fX1_cell h19 p23 l2 (2 : Int32)).bind fun ⟨v26, h25⟩ =>
      (fX11_forceBy h25 p21 l1 (v10 / (100 : Int32)) ((v10 / (10 : Int32)) % (10 : Int32)) v26).bind fun ⟨v29, h28⟩ =>
      (eg_gR h28 12 10 l0).bind fun p31 =>
      (fX1_cell h28 p31 l2 (3 : Int32)).bind fun ⟨v34, h33⟩ =>
      if v29 = v34 then
        (fX12_isMeasuredBy_L2 n h33 l0 l1 (l2 + (1 : Int32)))
      else
        some (.inr (h33))
set_option maxRecDepth 20000 in
theorem fX12_isMeasuredBy_L2_ok {h0 : eg_H} {Z : eg_C → State → Prop} {N S : Nat} : ∀ (n : Nat) (h : eg_H) (l0 : Nat) (l1 : Option Nat) (l2 : Int32) (eE : (eg_H) ⊕ (eg_H)), fX12_isMeasuredBy_L2 n h l0 l1 l2 = some eE → (hk0 : ∀  (h : eg_H), eE = (.inl h) → eg_AW (RX12, cX12_isMeasuredBy, 5, 3, none, "isMeasuredBy", (some .boolean)) Z N S h0 95 [] [] h) → (hk1 : ∀  (h : eg_H), eE = (.inr (h)) → eg_AW (RX12, cX12_isMeasuredBy, 5, 3, none, "isMeasuredBy", (some .boolean)) Z N S h0 87 [] [] h) → eg_AW (RX12, cX12_isMeasuredBy, 5, 3, none, "isMeasuredBy", (some .boolean)) Z N S h0 2 [(0, .ref l0), (1, va_rf l1), (2, .int l2)] [] h := by
  intro n
  induction n with
  | zero => intro h l0 l1 l2 eE hF; exact absurd hF (by intro q; cases q)
  | succ n ih =>
    intro h l0 l1 l2 eE hF hk0 hk1
    have hrec := fun (h' : eg_H) (l0 : Nat) (l1 : Option Nat) (l2 : Int32) hq => ih h' l0 l1 l2 eE hq hk0 hk1
    refine eg_iload_n (i := 2) 2 dX12_isMeasuredBy_2 rfl rfl ?_
    refine eg_aload_n (i := 0) 0 dX12_isMeasuredBy_3 rfl rfl ?_
    replace hF := eg_bind hF; obtain ⟨p1, e2, hF⟩ := hF
    refine eg_getR dX12_isMeasuredBy_4 e2 (Nat.le_of_ble_eq_true rfl) (Nat.le_of_ble_eq_true rfl) rfl ew_366 ?_
    replace hF := eg_bind hF; obtain ⟨⟨v4, h3⟩, e5, hF⟩ := hF
    refine eg_callV (c := 1) (n := 0) [] dX12_isMeasuredBy_7 (mX1_size e5) rfl (fX1_size_O e5) (Nat.le_of_ble_eq_true rfl) rfl ew_1246 ew_1247 ew_1248 ew_105 ew_1249 hy_X1_size rfl (Nat.le_of_ble_eq_true rfl) (Nat.le_of_ble_eq_true rfl) (Nat.le_of_ble_eq_true rfl) ?_
    refine eg_ic_ge 95 dX12_isMeasuredBy_10 rfl (fun c6 => ?_) (fun c6 => ?_)
    · replace hF := eg_it c6 hF
      exact eg_sub [] [] rfl (hk0 h3 (Option.some.inj hF).symm)
    · replace hF := eg_if c6 hF
      refine eg_aload_n (i := 0) 0 dX12_isMeasuredBy_13 rfl rfl ?_
      replace hF := eg_bind hF; obtain ⟨p7, e8, hF⟩ := hF
      refine eg_getR dX12_isMeasuredBy_14 e8 (Nat.le_of_ble_eq_true rfl) (Nat.le_of_ble_eq_true rfl) rfl ew_366 ?_
      refine eg_iload_n (i := 2) 2 dX12_isMeasuredBy_17 rfl rfl ?_
      refine eg_iconst (v := (1 : Int32)) dX12_isMeasuredBy_18 (by decide) ?_
      replace hF := eg_bind hF; obtain ⟨⟨v10, h9⟩, e11, hF⟩ := hF
      refine eg_callV (c := 1) (n := 2) [.int l2, .int (1 : Int32)] dX12_isMeasuredBy_19 (mX1_cell e11) rfl (fX1_cell_O e11) (Nat.le_of_ble_eq_true rfl) rfl ew_1258 ew_1259 ew_1260 ew_105 ew_1261 hy_X1_cell rfl (Nat.le_of_ble_eq_true rfl) (Nat.le_of_ble_eq_true rfl) (Nat.le_of_ble_eq_true rfl) ?_
      refine eg_istore_n (i := 3) [(3, .int v10), (0, .ref l0), (1, va_rf l1), (2, .int l2)] dX12_isMeasuredBy_22 rfl (Nat.le_of_ble_eq_true rfl) rfl ?_
      refine eg_aload_n (i := 0) 1 dX12_isMeasuredBy_23 rfl rfl ?_
      replace hF := eg_bind hF; obtain ⟨p12, e13, hF⟩ := hF
      refine eg_getR dX12_isMeasuredBy_24 e13 (Nat.le_of_ble_eq_true rfl) (Nat.le_of_ble_eq_true rfl) rfl ew_371 ?_
      refine eg_aload_n (i := 0) 1 dX12_isMeasuredBy_27 rfl rfl ?_
      replace hF := eg_bind hF; obtain ⟨p14, e15, hF⟩ := hF
      refine eg_getR dX12_isMeasuredBy_28 e15 (Nat.le_of_ble_eq_true rfl) (Nat.le_of_ble_eq_true rfl) rfl ew_366 ?_
      refine eg_iload_n (i := 2) 3 dX12_isMeasuredBy_31 rfl rfl ?_
      refine eg_iconst (v := (0 : Int32)) dX12_isMeasuredBy_32 (by decide) ?_
      replace hF := eg_bind hF; obtain ⟨⟨v17, h16⟩, e18, hF⟩ := hF
      refine eg_callV (c := 1) (n := 2) [.int l2, .int (0 : Int32)] dX12_isMeasuredBy_33 (mX1_cell e18) rfl (fX1_cell_O e18) (Nat.le_of_ble_eq_true rfl) rfl ew_1258 ew_1259 ew_1260 ew_105 ew_1261 hy_X1_cell rfl (Nat.le_of_ble_eq_true rfl) (Nat.le_of_ble_eq_true rfl) (Nat.le_of_ble_eq_true rfl) ?_
      refine eg_iload_n (i := 3) 0 dX12_isMeasuredBy_36 rfl rfl ?_
      refine eg_bipush (v := (10 : Int32)) dX12_isMeasuredBy_37 (by decide) ?_
      refine eg_irem dX12_isMeasuredBy_39 (by decide) ?_
      replace hF := eg_bind hF; obtain ⟨h19, e20, hF⟩ := hF
      refine eg_callV (c := 11) (n := 2) [.int v17, .int (v10 % (10 : Int32))] dX12_isMeasuredBy_40 (mX11_receive e20) rfl (fX11_receive_O e20) (Nat.le_of_ble_eq_true rfl) rfl ew_755 ew_756 ew_757 ew_106 ew_758 hy_X11_receive rfl (Nat.le_of_ble_eq_true rfl) (Nat.le_of_ble_eq_true rfl) (Nat.le_of_ble_eq_true rfl) ?_
      refine eg_aload_n (i := 0) 1 dX12_isMeasuredBy_43 rfl rfl ?_
      replace hF := eg_bind hF; obtain ⟨p21, e22, hF⟩ := hF
      refine eg_getR dX12_isMeasuredBy_44 e22 (Nat.le_of_ble_eq_true rfl) (Nat.le_of_ble_eq_true rfl) rfl ew_371 ?_
      refine eg_aload_nq (i := 1) 2 dX12_isMeasuredBy_47 rfl rfl ?_
      refine eg_iload_n (i := 3) 0 dX12_isMeasuredBy_48 rfl rfl ?_
      refine eg_bipush (v := (100 : Int32)) dX12_isMeasuredBy_49 (by decide) ?_
      refine eg_idiv dX12_isMeasuredBy_51 (by decide) ?_
      refine eg_iload_n (i := 3) 0 dX12_isMeasuredBy_52 rfl rfl ?_
      refine eg_bipush (v := (10 : Int32)) dX12_isMeasuredBy_53 (by decide) ?_
      refine eg_idiv dX12_isMeasuredBy_55 (by decide) ?_
      refine eg_bipush (v := (10 : Int32)) dX12_isMeasuredBy_56 (by decide) ?_
      refine eg_irem dX12_isMeasuredBy_58 (by decide) ?_
      refine eg_aload_n (i := 0) 1 dX12_isMeasuredBy_59 rfl rfl ?_
      replace hF := eg_bind hF; obtain ⟨p23, e24, hF⟩ := hF
      refine eg_getR dX12_isMeasuredBy_60 e24 (Nat.le_of_ble_eq_true rfl) (Nat.le_of_ble_eq_true rfl) rfl ew_366 ?_
      refine eg_iload_n (i := 2) 3 dX12_isMeasuredBy_63 rfl rfl ?_
      refine eg_iconst (v := (2 : Int32)) dX12_isMeasuredBy_64 (by decide) ?_
      replace hF := eg_bind hF; obtain ⟨⟨v26, h25⟩, e27, hF⟩ := hF
      refine eg_callV (c := 1) (n := 2) [.int l2, .int (2 : Int32)] dX12_isMeasuredBy_65 (mX1_cell e27) rfl (fX1_cell_O e27) (Nat.le_of_ble_eq_true rfl) rfl ew_1258 ew_1259 ew_1260 ew_105 ew_1261 hy_X1_cell rfl (Nat.le_of_ble_eq_true rfl) (Nat.le_of_ble_eq_true rfl) (by simp only [List.map_cons, List.map_nil, eg_catq]; exact Nat.le_of_ble_eq_true rfl) ?_
      replace hF := eg_bind hF; obtain ⟨⟨v29, h28⟩, e30, hF⟩ := hF
      refine eg_callV (c := 11) (n := 4) [va_rf l1, .int (v10 / (100 : Int32)), .int ((v10 / (10 : Int32)) % (10 : Int32)), .int v26] dX12_isMeasuredBy_68 (mX11_forceBy e30) rfl (fX11_forceBy_O e30) (Nat.le_of_ble_eq_true rfl) rfl ew_762 ew_763 ew_764 ew_106 ew_765 hy_X11_forceBy rfl (Nat.le_of_ble_eq_true rfl) (Nat.le_of_ble_eq_true rfl) (Nat.le_of_ble_eq_true rfl) ?_
      refine eg_istore (i := 4) [(4, .int v29), (3, .int v10), (0, .ref l0), (1, va_rf l1), (2, .int l2)] dX12_isMeasuredBy_71 (Nat.le_of_ble_eq_true rfl) rfl ?_
      refine eg_iload (i := 4) 0 dX12_isMeasuredBy_73 rfl ?_
      refine eg_aload_n (i := 0) 2 dX12_isMeasuredBy_75 rfl rfl ?_
      replace hF := eg_bind hF; obtain ⟨p31, e32, hF⟩ := hF
      refine eg_getR dX12_isMeasuredBy_76 e32 (Nat.le_of_ble_eq_true rfl) (Nat.le_of_ble_eq_true rfl) rfl ew_366 ?_
      refine eg_iload_n (i := 2) 4 dX12_isMeasuredBy_79 rfl rfl ?_
      refine eg_iconst (v := (3 : Int32)) dX12_isMeasuredBy_80 (by decide) ?_
      replace hF := eg_bind hF; obtain ⟨⟨v34, h33⟩, e35, hF⟩ := hF
      refine eg_callV (c := 1) (n := 2) [.int l2, .int (3 : Int32)] dX12_isMeasuredBy_81 (mX1_cell e35) rfl (fX1_cell_O e35) (Nat.le_of_ble_eq_true rfl) rfl ew_1258 ew_1259 ew_1260 ew_105 ew_1261 hy_X1_cell rfl (Nat.le_of_ble_eq_true rfl) (Nat.le_of_ble_eq_true rfl) (Nat.le_of_ble_eq_true rfl) ?_
      refine eg_ic_eq 89 dX12_isMeasuredBy_84 rfl (fun c36 => ?_) (fun c36 => ?_)
      · replace hF := eg_it c36 hF
        refine eg_iinc (i := 2) (v := (l2 + (1 : Int32))) 4 [(2, .int (l2 + (1 : Int32))), (4, .int v29), (3, .int v10), (0, .ref l0), (1, va_rf l1)] dX12_isMeasuredBy_89 rfl rfl (Nat.le_of_ble_eq_true rfl) (by simp [eg_st1, eg_st2, eg_catq]) ?_
        refine eg_goto 2 dX12_isMeasuredBy_92 rfl ?_
        exact eg_sub [3, 4, 0] [(0, .ref l0), (1, va_rf l1), (2, .int (l2 + (1 : Int32)))] rfl (hrec h33 l0 l1 (l2 + (1 : Int32)) hF)
      · replace hF := eg_if c36 hF
        exact eg_sub [] [] rfl (hk1 h33 (Option.some.inj hF).symm)
def fX12_isMeasuredBy (h : eg_H) (l0 : Nat) (l1 : Option Nat) : Option (Int32 × eg_H) :=
  if eg_isO h 12 l0 then (
    (fX12_isMeasuredBy_L2 eg_F h l0 l1 (0 : Int32)).bind fun e =>
    match e with
    | .inl h3 =>
      some ((1 : Int32), h3)
    | .inr (h5) =>
      some ((0 : Int32), h5)) else none
theorem fX12_isMeasuredBy_O {h : eg_H} {l0 : Nat} {l1 : Option Nat} {rE : Int32} {hE : eg_H} (hF : fX12_isMeasuredBy h l0 l1 = some (rE, hE)) : eg_isO h 12 l0 := (eg_ifn hF).1
set_option maxRecDepth 20000 in
theorem mX12_isMeasuredBy {h : eg_H} {l0 : Nat} {l1 : Option Nat} {rE : Int32} {hE : eg_H} (hF : fX12_isMeasuredBy h l0 l1 = some (rE, hE)) : eg_Met yX12_isMeasuredBy cX12_isMeasuredBy 5 (some .boolean) 3 [.ref l0, va_rf l1] h (some (.int rE)) hE := by
  refine eg_enter rfl (by cases l1 <;> exact (Nat.le_of_ble_eq_true rfl)) ?_
  rw [show lv_args 0 [.ref l0, va_rf l1] = [(0, .ref l0), (1, va_rf l1)] from by cases l1 <;> rfl]
  show eg_AW (RX12, cX12_isMeasuredBy, 5, 3, none, "isMeasuredBy", (some .boolean)) (eg_Zm (some (.int rE)) hE h) (eg_nc hE) (eg_ns hE) h 0 [(0, .ref l0), (1, va_rf l1)] [] h
  replace hF := (eg_ifn hF).2
  refine eg_iconst (v := (0 : Int32)) dX12_isMeasuredBy_0 (by decide) ?_
  refine eg_istore_n (i := 2) [(2, .int (0 : Int32)), (0, .ref l0), (1, va_rf l1)] dX12_isMeasuredBy_1 rfl (Nat.le_of_ble_eq_true rfl) (by simp [eg_st1, eg_st2, eg_catq]) ?_
  replace hF := eg_bind hF; obtain ⟨x2, e1, hF⟩ := hF
  refine eg_sub [1, 2, 0] [(0, .ref l0), (1, va_rf l1), (2, .int (0 : Int32))] rfl (fX12_isMeasuredBy_L2_ok eg_F h l0 l1 (0 : Int32) x2 e1 ?_ ?_)
  · intro h3 e4
    subst e4
    refine eg_iconst (v := (1 : Int32)) dX12_isMeasuredBy_95 (by decide) ?_
    exact eg_zretE dX12_isMeasuredBy_96 (Or.inr rfl) hF
  · intro h5 e6
    subst e6
    refine eg_iconst (v := (0 : Int32)) dX12_isMeasuredBy_87 (by decide) ?_
    exact eg_zretE dX12_isMeasuredBy_88 (Or.inl rfl) hF
theorem dX12_held_0 : decode cX12_held 0 = .ok (.aload_n 0, 1) := by decide +kernel
theorem dX12_held_1 : decode cX12_held 1 = .ok (.getfield 35, 3) := by decide +kernel
theorem dX12_held_4 : decode cX12_held 4 = .ok (.invokevirtual 188, 3) := by decide +kernel
theorem dX12_held_7 : decode cX12_held 7 = .ok (.ifCond .ne 5, 3) := by decide +kernel
theorem dX12_held_10 : decode cX12_held 10 = .ok (.iconst (-1), 1) := by decide +kernel
theorem dX12_held_11 : decode cX12_held 11 = .ok (.ireturn, 1) := by decide +kernel
theorem dX12_held_12 : decode cX12_held 12 = .ok (.aload_n 0, 1) := by decide +kernel
theorem dX12_held_13 : decode cX12_held 13 = .ok (.aconst_null, 1) := by decide +kernel
theorem dX12_held_14 : decode cX12_held 14 = .ok (.invokevirtual 463, 3) := by decide +kernel
theorem dX12_held_17 : decode cX12_held 17 = .ok (.ifCond .eq 8, 3) := by decide +kernel
theorem dX12_held_20 : decode cX12_held 20 = .ok (.bipush 16, 2) := by decide +kernel
theorem dX12_held_22 : decode cX12_held 22 = .ok (.goto 4, 3) := by decide +kernel
theorem dX12_held_25 : decode cX12_held 25 = .ok (.iconst 0, 1) := by decide +kernel
theorem dX12_held_26 : decode cX12_held 26 = .ok (.istore_n 1, 1) := by decide +kernel
theorem dX12_held_27 : decode cX12_held 27 = .ok (.iconst 0, 1) := by decide +kernel
theorem dX12_held_28 : decode cX12_held 28 = .ok (.istore_n 2, 1) := by decide +kernel
theorem dX12_held_29 : decode cX12_held 29 = .ok (.iload_n 2, 1) := by decide +kernel
theorem dX12_held_30 : decode cX12_held 30 = .ok (.aload_n 0, 1) := by decide +kernel
theorem dX12_held_31 : decode cX12_held 31 = .ok (.getfield 45, 3) := by decide +kernel
theorem dX12_held_34 : decode cX12_held 34 = .ok (.if_icmp .ge 27, 3) := by decide +kernel
theorem dX12_held_37 : decode cX12_held 37 = .ok (.aload_n 0, 1) := by decide +kernel
theorem dX12_held_38 : decode cX12_held 38 = .ok (.aload_n 0, 1) := by decide +kernel
theorem dX12_held_39 : decode cX12_held 39 = .ok (.iload_n 2, 1) := by decide +kernel
theorem dX12_held_40 : decode cX12_held 40 = .ok (.invokevirtual 192, 3) := by decide +kernel
theorem dX12_held_43 : decode cX12_held 43 = .ok (.invokevirtual 463, 3) := by decide +kernel
theorem dX12_held_46 : decode cX12_held 46 = .ok (.ifCond .eq 9, 3) := by decide +kernel
theorem dX12_held_49 : decode cX12_held 49 = .ok (.iload_n 1, 1) := by decide +kernel
theorem dX12_held_50 : decode cX12_held 50 = .ok (.iconst 1, 1) := by decide +kernel
theorem dX12_held_51 : decode cX12_held 51 = .ok (.iload_n 2, 1) := by decide +kernel
theorem dX12_held_52 : decode cX12_held 52 = .ok (.ishl, 1) := by decide +kernel
theorem dX12_held_53 : decode cX12_held 53 = .ok (.ior, 1) := by decide +kernel
theorem dX12_held_54 : decode cX12_held 54 = .ok (.istore_n 1, 1) := by decide +kernel
theorem dX12_held_55 : decode cX12_held 55 = .ok (.iinc 2 1, 3) := by decide +kernel
theorem dX12_held_58 : decode cX12_held 58 = .ok (.goto (-29), 3) := by decide +kernel
theorem dX12_held_61 : decode cX12_held 61 = .ok (.iload_n 1, 1) := by decide +kernel
theorem dX12_held_62 : decode cX12_held 62 = .ok (.ireturn, 1) := by decide +kernel
def fX12_held_L29 : Nat → eg_H → Nat → Int32 → Int32 → Option (Int32 × eg_H)
  | 0, _, _, _, _ => none
  | n + 1, h, l0, l1, l2 =>
    (eg_gI h 12 5 l0).bind fun v1 =>
    if v1 ≤ l2 then
      (some (l1, h))
    else
      (fX12_lawAt h l0 l2).bind fun ⟨q5, h4⟩ =>
      (fX12_isMeasuredBy h4 l0 q5).bind fun ⟨v8, h7⟩ =>
      if v8 = 0 then
        (fX12_held_L29 n h7 l0 l1 (l2 + (1 : Int32)))
      else
        (some ((l1 ||| ((1 : Int32) <<< (l2 &&& 31))))).bind fun v11 =>
        fX12_held_L29 n h7 l0 v11 (l2 + (1 : Int32))
set_option maxRecDepth 20000 in
theorem fX12_held_L29_ok {h0 : eg_H} {Z : eg_C → State → Prop} {N S : Nat} : ∀ (n : Nat) (h : eg_H) (l0 : Nat) (l1 : Int32) (l2 : Int32) (eE : Int32 × eg_H), fX12_held_L29 n h l0 l1 l2 = some eE → (hk0 : ∀ (l1 : Int32) (h : eg_H), eE = (l1, h) → eg_AW (RX12, cX12_held, 3, 4, none, "held", (some .int)) Z N S h0 61 [(1, .int l1)] [] h) → eg_AW (RX12, cX12_held, 3, 4, none, "held", (some .int)) Z N S h0 29 [(0, .ref l0), (1, .int l1), (2, .int l2)] [] h := by
  intro n
  induction n with
  | zero => intro h l0 l1 l2 eE hF; exact absurd hF (by intro q; cases q)
  | succ n ih =>
    intro h l0 l1 l2 eE hF hk0
    have hrec := fun (h' : eg_H) (l0 : Nat) (l1 : Int32) (l2 : Int32) hq => ih h' l0 l1 l2 eE hq hk0
    refine eg_iload_n (i := 2) 2 dX12_held_29 rfl rfl ?_
    refine eg_aload_n (i := 0) 0 dX12_held_30 rfl rfl ?_
    replace hF := eg_bind hF; obtain ⟨v1, e2, hF⟩ := hF
    refine eg_getI dX12_held_31 e2 (Nat.le_of_ble_eq_true rfl) (Nat.le_of_ble_eq_true rfl) rfl ew_361 ?_
    refine eg_ic_ge 61 dX12_held_34 rfl (fun c3 => ?_) (fun c3 => ?_)
    · replace hF := eg_it c3 hF
      exact eg_sub [1] [(1, .int l1)] rfl (hk0 l1 h (Option.some.inj hF).symm)
    · replace hF := eg_if c3 hF
      refine eg_aload_n (i := 0) 0 dX12_held_37 rfl rfl ?_
      refine eg_aload_n (i := 0) 0 dX12_held_38 rfl rfl ?_
      refine eg_iload_n (i := 2) 2 dX12_held_39 rfl rfl ?_
      replace hF := eg_bind hF; obtain ⟨⟨q5, h4⟩, e6, hF⟩ := hF
      refine eg_callV (c := 12) (n := 1) [.int l2] dX12_held_40 (mX12_lawAt e6) rfl (fX12_lawAt_O e6) (Nat.le_of_ble_eq_true rfl) rfl ew_617 ew_619 ew_20 ew_100 ew_620 hy_X12_lawAt rfl (Nat.le_of_ble_eq_true rfl) (Nat.le_of_ble_eq_true rfl) (Nat.le_of_ble_eq_true rfl) ?_
      replace hF := eg_bind hF; obtain ⟨⟨v8, h7⟩, e9, hF⟩ := hF
      refine eg_callV (c := 12) (n := 1) [va_rf q5] dX12_held_43 (mX12_isMeasuredBy e9) rfl (fX12_isMeasuredBy_O e9) (Nat.le_of_ble_eq_true rfl) rfl ew_1270 ew_1272 ew_46 ew_100 ew_1273 hy_X12_isMeasuredBy rfl (Nat.le_of_ble_eq_true rfl) (Nat.le_of_ble_eq_true rfl) (Nat.le_of_ble_eq_true rfl) ?_
      refine eg_if_eq 55 dX12_held_46 rfl (fun c10 => ?_) (fun c10 => ?_)
      · replace hF := eg_it c10 hF
        refine eg_iinc (i := 2) (v := (l2 + (1 : Int32))) 2 [(2, .int (l2 + (1 : Int32))), (0, .ref l0), (1, .int l1)] dX12_held_55 rfl rfl (Nat.le_of_ble_eq_true rfl) rfl ?_
        refine eg_goto 29 dX12_held_58 rfl ?_
        exact eg_sub [1, 2, 0] [(0, .ref l0), (1, .int l1), (2, .int (l2 + (1 : Int32)))] rfl (hrec h7 l0 l1 (l2 + (1 : Int32)) hF)
      · replace hF := eg_if c10 hF
        refine eg_iload_n (i := 1) 1 dX12_held_49 rfl rfl ?_
        refine eg_iconst (v := (1 : Int32)) dX12_held_50 (by decide) ?_
        refine eg_iload_n (i := 2) 2 dX12_held_51 rfl rfl ?_
        refine eg_ishl dX12_held_52 ?_
        refine eg_ior dX12_held_53 ?_
        replace hF := eg_bind hF; obtain ⟨v11, e12, hF⟩ := hF
        replace e12 := Option.some.inj e12
        rw [e12]
        refine eg_istore_n (i := 1) [(1, .int v11), (0, .ref l0), (2, .int l2)] dX12_held_54 rfl (Nat.le_of_ble_eq_true rfl) rfl ?_
        refine eg_iinc (i := 2) (v := (l2 + (1 : Int32))) 2 [(2, .int (l2 + (1 : Int32))), (1, .int v11), (0, .ref l0)] dX12_held_55 rfl rfl (Nat.le_of_ble_eq_true rfl) rfl ?_
        refine eg_goto 29 dX12_held_58 rfl ?_
        exact eg_sub [2, 1, 0] [(0, .ref l0), (1, .int v11), (2, .int (l2 + (1 : Int32)))] rfl (hrec h7 l0 v11 (l2 + (1 : Int32)) hF)
def fX12_held_j26 (h : eg_H) (l0 : Nat) (s0 : Int32) : Option (Int32 × eg_H) :=
  (fX12_held_L29 eg_F h l0 s0 (0 : Int32)).bind fun e =>
  match e with
  | (v3, h4) =>
    some (v3, h4)
set_option maxRecDepth 20000 in
theorem fX12_held_j26_ok {h0 : eg_H} (h : eg_H) (l0 : Nat) (s0 : Int32) {rE : Int32} {hE : eg_H} (hF : fX12_held_j26 h l0 s0 = some (rE, hE)) : eg_AW (RX12, cX12_held, 3, 4, none, "held", (some .int)) (eg_Zm (some (.int rE)) hE h0) (eg_nc hE) (eg_ns hE) h0 26 [(0, .ref l0)] [.int s0] h := by
  refine eg_istore_n (i := 1) [(1, .int s0), (0, .ref l0)] dX12_held_26 rfl (Nat.le_of_ble_eq_true rfl) rfl ?_
  refine eg_iconst (v := (0 : Int32)) dX12_held_27 (by decide) ?_
  refine eg_istore_n (i := 2) [(2, .int (0 : Int32)), (1, .int s0), (0, .ref l0)] dX12_held_28 rfl (Nat.le_of_ble_eq_true rfl) rfl ?_
  replace hF := eg_bind hF; obtain ⟨x2, e1, hF⟩ := hF
  refine eg_sub [2, 1, 0] [(0, .ref l0), (1, .int s0), (2, .int (0 : Int32))] rfl (fX12_held_L29_ok eg_F h l0 s0 (0 : Int32) x2 e1 ?_)
  · intro v3 h4 e5
    subst e5
    refine eg_iload_n (i := 1) 0 dX12_held_61 rfl rfl ?_
    exact eg_iretE dX12_held_62 hF
def fX12_held (h : eg_H) (l0 : Nat) : Option (Int32 × eg_H) :=
  if eg_isO h 12 l0 then (
    (eg_gR h 12 3 l0).bind fun p1 =>
    (fX7_isTold h p1).bind fun ⟨v4, h3⟩ =>
    if v4 = 0 then
      (some ((-1 : Int32), h3))
    else
      (fX12_isMeasuredBy h3 l0 none).bind fun ⟨v8, h7⟩ =>
      if v8 = 0 then
        (fX12_held_j26 h7 l0 (0 : Int32))
      else
        fX12_held_j26 h7 l0 (16 : Int32)) else none
theorem fX12_held_O {h : eg_H} {l0 : Nat} {rE : Int32} {hE : eg_H} (hF : fX12_held h l0 = some (rE, hE)) : eg_isO h 12 l0 := (eg_ifn hF).1
set_option maxRecDepth 20000 in
theorem mX12_held {h : eg_H} {l0 : Nat} {rE : Int32} {hE : eg_H} (hF : fX12_held h l0 = some (rE, hE)) : eg_Met yX12_held cX12_held 3 (some .int) 4 [.ref l0] h (some (.int rE)) hE := by
  refine eg_enter rfl (Nat.le_of_ble_eq_true rfl) ?_
  show eg_AW (RX12, cX12_held, 3, 4, none, "held", (some .int)) (eg_Zm (some (.int rE)) hE h) (eg_nc hE) (eg_ns hE) h 0 [(0, .ref l0)] [] h
  replace hF := (eg_ifn hF).2
  refine eg_aload_n (i := 0) 0 dX12_held_0 rfl rfl ?_
  replace hF := eg_bind hF; obtain ⟨p1, e2, hF⟩ := hF
  refine eg_getR dX12_held_1 e2 (Nat.le_of_ble_eq_true rfl) (Nat.le_of_ble_eq_true rfl) rfl ew_359 ?_
  replace hF := eg_bind hF; obtain ⟨⟨v4, h3⟩, e5, hF⟩ := hF
  refine eg_callV (c := 7) (n := 0) [] dX12_held_4 (mX7_isTold e5) rfl (fX7_isTold_O e5) (Nat.le_of_ble_eq_true rfl) rfl ew_707 ew_708 ew_709 ew_104 ew_710 hy_X7_isTold rfl (Nat.le_of_ble_eq_true rfl) (Nat.le_of_ble_eq_true rfl) (Nat.le_of_ble_eq_true rfl) ?_
  refine eg_if_ne 12 dX12_held_7 rfl (fun c6 => ?_) (fun c6 => ?_)
  · replace hF := eg_it c6 hF
    refine eg_iconst (v := (-1 : Int32)) dX12_held_10 (by decide) ?_
    exact eg_iretE dX12_held_11 hF
  · replace hF := eg_if c6 hF
    refine eg_aload_n (i := 0) 0 dX12_held_12 rfl rfl ?_
    refine eg_null dX12_held_13 ?_
    replace hF := eg_bind hF; obtain ⟨⟨v8, h7⟩, e9, hF⟩ := hF
    refine eg_callV (c := 12) (n := 1) [va_rf none] dX12_held_14 (mX12_isMeasuredBy e9) rfl (fX12_isMeasuredBy_O e9) (Nat.le_of_ble_eq_true rfl) rfl ew_1270 ew_1272 ew_46 ew_100 ew_1273 hy_X12_isMeasuredBy rfl (Nat.le_of_ble_eq_true rfl) (Nat.le_of_ble_eq_true rfl) (Nat.le_of_ble_eq_true rfl) ?_
    refine eg_if_eq 25 dX12_held_17 rfl (fun c10 => ?_) (fun c10 => ?_)
    · replace hF := eg_it c10 hF
      refine eg_iconst (v := (0 : Int32)) dX12_held_25 (by decide) ?_
      exact (fX12_held_j26_ok h7 l0 (0 : Int32) hF)
    · replace hF := eg_if c10 hF
      refine eg_bipush (v := (16 : Int32)) dX12_held_20 (by decide) ?_
      refine eg_goto 26 dX12_held_22 rfl ?_
      exact (fX12_held_j26_ok h7 l0 (16 : Int32) hF)
theorem dX12_filmAt_0 : decode cX12_filmAt 0 = .ok (.iload_n 1, 1) := by decide +kernel
theorem dX12_filmAt_1 : decode cX12_filmAt 1 = .ok (.ifCond .lt 20, 3) := by decide +kernel
theorem dX12_filmAt_4 : decode cX12_filmAt 4 = .ok (.iload_n 1, 1) := by decide +kernel
theorem dX12_filmAt_5 : decode cX12_filmAt 5 = .ok (.aload_n 0, 1) := by decide +kernel
theorem dX12_filmAt_6 : decode cX12_filmAt 6 = .ok (.getfield 58, 3) := by decide +kernel
theorem dX12_filmAt_9 : decode cX12_filmAt 9 = .ok (.if_icmp .ge 12, 3) := by decide +kernel
theorem dX12_filmAt_12 : decode cX12_filmAt 12 = .ok (.iload_n 1, 1) := by decide +kernel
theorem dX12_filmAt_13 : decode cX12_filmAt 13 = .ok (.aload_n 0, 1) := by decide +kernel
theorem dX12_filmAt_14 : decode cX12_filmAt 14 = .ok (.getfield 54, 3) := by decide +kernel
theorem dX12_filmAt_17 : decode cX12_filmAt 17 = .ok (.arraylength, 1) := by decide +kernel
theorem dX12_filmAt_18 : decode cX12_filmAt 18 = .ok (.if_icmp .lt 7, 3) := by decide +kernel
theorem dX12_filmAt_21 : decode cX12_filmAt 21 = .ok (.aconst_null, 1) := by decide +kernel
theorem dX12_filmAt_22 : decode cX12_filmAt 22 = .ok (.goto 9, 3) := by decide +kernel
theorem dX12_filmAt_25 : decode cX12_filmAt 25 = .ok (.aload_n 0, 1) := by decide +kernel
theorem dX12_filmAt_26 : decode cX12_filmAt 26 = .ok (.getfield 54, 3) := by decide +kernel
theorem dX12_filmAt_29 : decode cX12_filmAt 29 = .ok (.iload_n 1, 1) := by decide +kernel
theorem dX12_filmAt_30 : decode cX12_filmAt 30 = .ok (.aaload, 1) := by decide +kernel
theorem dX12_filmAt_31 : decode cX12_filmAt 31 = .ok (.areturn, 1) := by decide +kernel
def fX12_filmAt (h : eg_H) (l0 : Nat) (l1 : Int32) : Option (Option Nat × eg_H) :=
  if eg_isO h 12 l0 then (
    if l1 < 0 then
      (some (none, h))
    else
      (eg_gI h 12 8 l0).bind fun v2 =>
      if v2 ≤ l1 then
        (some (none, h))
      else
        (eg_gR h 12 7 l0).bind fun p5 =>
        (eg_al h p5).bind fun v7 =>
        if l1 < v7 then
          ((eg_gR h 12 7 l0).bind fun p10 =>
          (eg_aQ h 113 p10 l1).bind fun q12 =>
          some (q12, h))
        else
          some (none, h)) else none
theorem fX12_filmAt_O {h : eg_H} {l0 : Nat} {l1 : Int32} {rE : Option Nat} {hE : eg_H} (hF : fX12_filmAt h l0 l1 = some (rE, hE)) : eg_isO h 12 l0 := (eg_ifn hF).1
set_option maxRecDepth 20000 in
theorem mX12_filmAt {h : eg_H} {l0 : Nat} {l1 : Int32} {rE : Option Nat} {hE : eg_H} (hF : fX12_filmAt h l0 l1 = some (rE, hE)) : eg_Met yX12_filmAt cX12_filmAt 2 (some (.object "EggThrow$Film")) 1 [.ref l0, .int l1] h (some (va_rf rE)) hE := by
  refine eg_enter rfl (Nat.le_of_ble_eq_true rfl) ?_
  show eg_AW (RX12, cX12_filmAt, 2, 1, none, "filmAt", (some (.object "EggThrow$Film"))) (eg_Zm (some (va_rf rE)) hE h) (eg_nc hE) (eg_ns hE) h 0 [(0, .ref l0), (1, .int l1)] [] h
  replace hF := (eg_ifn hF).2
  refine eg_iload_n (i := 1) 1 dX12_filmAt_0 rfl rfl ?_
  refine eg_if_lt 21 dX12_filmAt_1 rfl (fun c1 => ?_) (fun c1 => ?_)
  · replace hF := eg_it c1 hF
    refine eg_null dX12_filmAt_21 ?_
    refine eg_goto 31 dX12_filmAt_22 rfl ?_
    exact eg_aretE (r := none) dX12_filmAt_31 (Or.inl ⟨_, rfl⟩) hF
  · replace hF := eg_if c1 hF
    refine eg_iload_n (i := 1) 1 dX12_filmAt_4 rfl rfl ?_
    refine eg_aload_n (i := 0) 0 dX12_filmAt_5 rfl rfl ?_
    replace hF := eg_bind hF; obtain ⟨v2, e3, hF⟩ := hF
    refine eg_getI dX12_filmAt_6 e3 (Nat.le_of_ble_eq_true rfl) (Nat.le_of_ble_eq_true rfl) rfl ew_364 ?_
    refine eg_ic_ge 21 dX12_filmAt_9 rfl (fun c4 => ?_) (fun c4 => ?_)
    · replace hF := eg_it c4 hF
      refine eg_null dX12_filmAt_21 ?_
      refine eg_goto 31 dX12_filmAt_22 rfl ?_
      exact eg_aretE (r := none) dX12_filmAt_31 (Or.inl ⟨_, rfl⟩) hF
    · replace hF := eg_if c4 hF
      refine eg_iload_n (i := 1) 1 dX12_filmAt_12 rfl rfl ?_
      refine eg_aload_n (i := 0) 0 dX12_filmAt_13 rfl rfl ?_
      replace hF := eg_bind hF; obtain ⟨p5, e6, hF⟩ := hF
      refine eg_getR dX12_filmAt_14 e6 (Nat.le_of_ble_eq_true rfl) (Nat.le_of_ble_eq_true rfl) rfl ew_363 ?_
      replace hF := eg_bind hF; obtain ⟨v7, e8, hF⟩ := hF
      refine eg_alen dX12_filmAt_17 e8 ?_
      refine eg_ic_lt 25 dX12_filmAt_18 rfl (fun c9 => ?_) (fun c9 => ?_)
      · replace hF := eg_it c9 hF
        refine eg_aload_n (i := 0) 0 dX12_filmAt_25 rfl rfl ?_
        replace hF := eg_bind hF; obtain ⟨p10, e11, hF⟩ := hF
        refine eg_getR dX12_filmAt_26 e11 (Nat.le_of_ble_eq_true rfl) (Nat.le_of_ble_eq_true rfl) rfl ew_363 ?_
        refine eg_iload_n (i := 1) 1 dX12_filmAt_29 rfl rfl ?_
        replace hF := eg_bind hF; obtain ⟨q12, e13, hF⟩ := hF
        refine eg_aaldq (c := 3) dX12_filmAt_30 e13 (Nat.le_of_ble_eq_true rfl) (Nat.le_of_ble_eq_true rfl) ?_
        exact eg_aretE (r := q12) dX12_filmAt_31 (Or.inl ⟨_, rfl⟩) hF
      · replace hF := eg_if c9 hF
        refine eg_null dX12_filmAt_21 ?_
        refine eg_goto 31 dX12_filmAt_22 rfl ?_
        exact eg_aretE (r := none) dX12_filmAt_31 (Or.inl ⟨_, rfl⟩) hF
theorem dX12_film_0 : decode cX12_film 0 = .ok (.aload_n 0, 1) := by decide +kernel
theorem dX12_film_1 : decode cX12_film 1 = .ok (.iload_n 1, 1) := by decide +kernel
theorem dX12_film_2 : decode cX12_film 2 = .ok (.invokevirtual 467, 3) := by decide +kernel
theorem dX12_film_5 : decode cX12_film 5 = .ok (.astore_n 3, 1) := by decide +kernel
theorem dX12_film_6 : decode cX12_film 6 = .ok (.aload_n 3, 1) := by decide +kernel
theorem dX12_film_7 : decode cX12_film 7 = .ok (.ifnull 10, 3) := by decide +kernel
theorem dX12_film_10 : decode cX12_film 10 = .ok (.iload_n 2, 1) := by decide +kernel
theorem dX12_film_11 : decode cX12_film 11 = .ok (.invokestatic 320, 3) := by decide +kernel
theorem dX12_film_14 : decode cX12_film 14 = .ok (.ifCond .ne 5, 3) := by decide +kernel
theorem dX12_film_17 : decode cX12_film 17 = .ok (.iconst (-1), 1) := by decide +kernel
theorem dX12_film_18 : decode cX12_film 18 = .ok (.ireturn, 1) := by decide +kernel
theorem dX12_film_19 : decode cX12_film 19 = .ok (.iload_n 2, 1) := by decide +kernel
theorem dX12_film_20 : decode cX12_film 20 = .ok (.ifCond .ne 10, 3) := by decide +kernel
theorem dX12_film_23 : decode cX12_film 23 = .ok (.aload_n 3, 1) := by decide +kernel
theorem dX12_film_24 : decode cX12_film 24 = .ok (.invokevirtual 471, 3) := by decide +kernel
theorem dX12_film_27 : decode cX12_film 27 = .ok (.goto 7, 3) := by decide +kernel
theorem dX12_film_30 : decode cX12_film 30 = .ok (.aload_n 3, 1) := by decide +kernel
theorem dX12_film_31 : decode cX12_film 31 = .ok (.invokevirtual 474, 3) := by decide +kernel
theorem dX12_film_34 : decode cX12_film 34 = .ok (.ireturn, 1) := by decide +kernel
def fX12_film (h : eg_H) (l0 : Nat) (l1 : Int32) (l2 : Int32) : Option (Int32 × eg_H) :=
  if eg_isO h 12 l0 then (
    (fX12_filmAt h l0 l1).bind fun ⟨q2, h1⟩ =>
    if q2 = none then
      (some ((-1 : Int32), h1))
    else
      (fX12_isEither h1 l2).bind fun ⟨v6, h5⟩ =>
      if v6 = 0 then
        (some ((-1 : Int32), h5))
      else
        if l2 = 0 then
          (q2.bind fun p10 =>
          (fX3_turns h5 p10).bind fun ⟨v13, h12⟩ =>
          some (v13, h12))
        else
          q2.bind fun p15 =>
          (fX3_length h5 p15).bind fun ⟨v18, h17⟩ =>
          some (v18, h17)) else none
theorem fX12_film_O {h : eg_H} {l0 : Nat} {l1 : Int32} {l2 : Int32} {rE : Int32} {hE : eg_H} (hF : fX12_film h l0 l1 l2 = some (rE, hE)) : eg_isO h 12 l0 := (eg_ifn hF).1
set_option maxRecDepth 20000 in
theorem mX12_film {h : eg_H} {l0 : Nat} {l1 : Int32} {l2 : Int32} {rE : Int32} {hE : eg_H} (hF : fX12_film h l0 l1 l2 = some (rE, hE)) : eg_Met yX12_film cX12_film 4 (some .int) 4 [.ref l0, .int l1, .int l2] h (some (.int rE)) hE := by
  refine eg_enter rfl (Nat.le_of_ble_eq_true rfl) ?_
  show eg_AW (RX12, cX12_film, 4, 4, none, "film", (some .int)) (eg_Zm (some (.int rE)) hE h) (eg_nc hE) (eg_ns hE) h 0 [(0, .ref l0), (1, .int l1), (2, .int l2)] [] h
  replace hF := (eg_ifn hF).2
  refine eg_aload_n (i := 0) 0 dX12_film_0 rfl rfl ?_
  refine eg_iload_n (i := 1) 1 dX12_film_1 rfl rfl ?_
  replace hF := eg_bind hF; obtain ⟨⟨q2, h1⟩, e3, hF⟩ := hF
  refine eg_callV (c := 12) (n := 1) [.int l1] dX12_film_2 (mX12_filmAt e3) rfl (fX12_filmAt_O e3) (Nat.le_of_ble_eq_true rfl) rfl ew_1278 ew_1280 ew_47 ew_100 ew_1281 hy_X12_filmAt rfl (Nat.le_of_ble_eq_true rfl) (Nat.le_of_ble_eq_true rfl) (Nat.le_of_ble_eq_true rfl) ?_
  refine eg_astore_nq (i := 3) [(3, va_rf q2), (0, .ref l0), (1, .int l1), (2, .int l2)] dX12_film_5 rfl (Nat.le_of_ble_eq_true rfl) rfl ?_
  refine eg_aload_nq (i := 3) 0 dX12_film_6 rfl rfl ?_
  refine eg_ifnull (r := q2) 17 dX12_film_7 rfl (fun c4 => ?_) (fun c4 => ?_)
  · replace hF := eg_it c4 hF
    refine eg_iconst (v := (-1 : Int32)) dX12_film_17 (by decide) ?_
    exact eg_iretE dX12_film_18 hF
  · replace hF := eg_if c4 hF
    refine eg_iload_n (i := 2) 3 dX12_film_10 rfl rfl ?_
    replace hF := eg_bind hF; obtain ⟨⟨v6, h5⟩, e7, hF⟩ := hF
    refine eg_callS (n := 1) [.int l2] dX12_film_11 (mX12_isEither e7) rfl ew_993 ew_994 ew_100 ew_995 hy_X12_isEither.2 rfl (Nat.le_of_ble_eq_true rfl) (Nat.le_of_ble_eq_true rfl) (Nat.le_of_ble_eq_true rfl) ?_
    refine eg_if_ne 19 dX12_film_14 rfl (fun c8 => ?_) (fun c8 => ?_)
    · replace hF := eg_it c8 hF
      refine eg_iconst (v := (-1 : Int32)) dX12_film_17 (by decide) ?_
      exact eg_iretE dX12_film_18 hF
    · replace hF := eg_if c8 hF
      refine eg_iload_n (i := 2) 3 dX12_film_19 rfl rfl ?_
      refine eg_if_ne 30 dX12_film_20 rfl (fun c9 => ?_) (fun c9 => ?_)
      · replace hF := eg_it c9 hF
        refine eg_aload_nq (i := 3) 0 dX12_film_23 rfl rfl ?_
        replace hF := eg_bind hF; obtain ⟨p10, e11, hF⟩ := hF
        subst e11
        replace hF := eg_bind hF; obtain ⟨⟨v13, h12⟩, e14, hF⟩ := hF
        refine eg_callV (c := 3) (n := 0) [] dX12_film_24 (mX3_turns e14) rfl (fX3_turns_O e14) (Nat.le_of_ble_eq_true rfl) rfl ew_1282 ew_1283 ew_1284 ew_119 ew_1285 hy_X3_turns rfl (Nat.le_of_ble_eq_true rfl) (Nat.le_of_ble_eq_true rfl) (Nat.le_of_ble_eq_true rfl) ?_
        refine eg_goto 34 dX12_film_27 rfl ?_
        exact eg_iretE dX12_film_34 hF
      · replace hF := eg_if c9 hF
        refine eg_aload_nq (i := 3) 0 dX12_film_30 rfl rfl ?_
        replace hF := eg_bind hF; obtain ⟨p15, e16, hF⟩ := hF
        subst e16
        replace hF := eg_bind hF; obtain ⟨⟨v18, h17⟩, e19, hF⟩ := hF
        refine eg_callV (c := 3) (n := 0) [] dX12_film_31 (mX3_length e19) rfl (fX3_length_O e19) (Nat.le_of_ble_eq_true rfl) rfl ew_1294 ew_1295 ew_1296 ew_119 ew_1297 hy_X3_length rfl (Nat.le_of_ble_eq_true rfl) (Nat.le_of_ble_eq_true rfl) (Nat.le_of_ble_eq_true rfl) ?_
        exact eg_iretE dX12_film_34 hF
theorem dX12_commonDivisor_0 : decode cX12_commonDivisor 0 = .ok (.iload_n 0, 1) := by decide +kernel
theorem dX12_commonDivisor_1 : decode cX12_commonDivisor 1 = .ok (.istore_n 2, 1) := by decide +kernel
theorem dX12_commonDivisor_2 : decode cX12_commonDivisor 2 = .ok (.iload_n 1, 1) := by decide +kernel
theorem dX12_commonDivisor_3 : decode cX12_commonDivisor 3 = .ok (.istore_n 3, 1) := by decide +kernel
theorem dX12_commonDivisor_4 : decode cX12_commonDivisor 4 = .ok (.iconst 0, 1) := by decide +kernel
theorem dX12_commonDivisor_5 : decode cX12_commonDivisor 5 = .ok (.istore 4, 2) := by decide +kernel
theorem dX12_commonDivisor_7 : decode cX12_commonDivisor 7 = .ok (.iload 4, 2) := by decide +kernel
theorem dX12_commonDivisor_9 : decode cX12_commonDivisor 9 = .ok (.bipush 64, 2) := by decide +kernel
theorem dX12_commonDivisor_11 : decode cX12_commonDivisor 11 = .ok (.if_icmp .ge 23, 3) := by decide +kernel
theorem dX12_commonDivisor_14 : decode cX12_commonDivisor 14 = .ok (.iload_n 3, 1) := by decide +kernel
theorem dX12_commonDivisor_15 : decode cX12_commonDivisor 15 = .ok (.ifCond .eq 19, 3) := by decide +kernel
theorem dX12_commonDivisor_18 : decode cX12_commonDivisor 18 = .ok (.iload_n 2, 1) := by decide +kernel
theorem dX12_commonDivisor_19 : decode cX12_commonDivisor 19 = .ok (.iload_n 3, 1) := by decide +kernel
theorem dX12_commonDivisor_20 : decode cX12_commonDivisor 20 = .ok (.irem, 1) := by decide +kernel
theorem dX12_commonDivisor_21 : decode cX12_commonDivisor 21 = .ok (.istore 5, 2) := by decide +kernel
theorem dX12_commonDivisor_23 : decode cX12_commonDivisor 23 = .ok (.iload_n 3, 1) := by decide +kernel
theorem dX12_commonDivisor_24 : decode cX12_commonDivisor 24 = .ok (.istore_n 2, 1) := by decide +kernel
theorem dX12_commonDivisor_25 : decode cX12_commonDivisor 25 = .ok (.iload 5, 2) := by decide +kernel
theorem dX12_commonDivisor_27 : decode cX12_commonDivisor 27 = .ok (.istore_n 3, 1) := by decide +kernel
theorem dX12_commonDivisor_28 : decode cX12_commonDivisor 28 = .ok (.iinc 4 1, 3) := by decide +kernel
theorem dX12_commonDivisor_31 : decode cX12_commonDivisor 31 = .ok (.goto (-24), 3) := by decide +kernel
theorem dX12_commonDivisor_34 : decode cX12_commonDivisor 34 = .ok (.iload_n 2, 1) := by decide +kernel
theorem dX12_commonDivisor_35 : decode cX12_commonDivisor 35 = .ok (.ireturn, 1) := by decide +kernel
def fX12_commonDivisor_L7 : Nat → eg_H → Int32 → Int32 → Int32 → Option (Int32 × eg_H)
  | 0, _, _, _, _ => none
  | n + 1, h, l2, l3, l4 =>
    if (64 : Int32) ≤ l4 then
      (some (l2, h))
    else
      if l3 = 0 then
        (some (l2, h))
      else
        if l3 = 0 then none else
        (some ((l2 % l3))).bind fun v4 =>
        fX12_commonDivisor_L7 n h l3 v4 (l4 + (1 : Int32))
set_option maxRecDepth 20000 in
theorem fX12_commonDivisor_L7_ok {h0 : eg_H} {Z : eg_C → State → Prop} {N S : Nat} : ∀ (n : Nat) (h : eg_H) (l2 : Int32) (l3 : Int32) (l4 : Int32) (eE : Int32 × eg_H), fX12_commonDivisor_L7 n h l2 l3 l4 = some eE → (hk0 : ∀ (l2 : Int32) (h : eg_H), eE = (l2, h) → eg_AW (RX12, cX12_commonDivisor, 6, 1, none, "commonDivisor", (some .int)) Z N S h0 34 [(2, .int l2)] [] h) → eg_AW (RX12, cX12_commonDivisor, 6, 1, none, "commonDivisor", (some .int)) Z N S h0 7 [(2, .int l2), (3, .int l3), (4, .int l4)] [] h := by
  intro n
  induction n with
  | zero => intro h l2 l3 l4 eE hF; exact absurd hF (by intro q; cases q)
  | succ n ih =>
    intro h l2 l3 l4 eE hF hk0
    have hrec := fun (h' : eg_H) (l2 : Int32) (l3 : Int32) (l4 : Int32) hq => ih h' l2 l3 l4 eE hq hk0
    refine eg_iload (i := 4) 2 dX12_commonDivisor_7 rfl ?_
    refine eg_bipush (v := (64 : Int32)) dX12_commonDivisor_9 (by decide) ?_
    refine eg_ic_ge 34 dX12_commonDivisor_11 rfl (fun c1 => ?_) (fun c1 => ?_)
    · replace hF := eg_it c1 hF
      exact eg_sub [0] [(2, .int l2)] rfl (hk0 l2 h (Option.some.inj hF).symm)
    · replace hF := eg_if c1 hF
      refine eg_iload_n (i := 3) 1 dX12_commonDivisor_14 rfl rfl ?_
      refine eg_if_eq 34 dX12_commonDivisor_15 rfl (fun c2 => ?_) (fun c2 => ?_)
      · replace hF := eg_it c2 hF
        exact eg_sub [0] [(2, .int l2)] rfl (hk0 l2 h (Option.some.inj hF).symm)
      · replace hF := eg_if c2 hF
        refine eg_iload_n (i := 2) 0 dX12_commonDivisor_18 rfl rfl ?_
        refine eg_iload_n (i := 3) 1 dX12_commonDivisor_19 rfl rfl ?_
        replace hF := eg_nif hF; obtain ⟨c3, hF⟩ := hF
        refine eg_irem dX12_commonDivisor_20 c3 ?_
        replace hF := eg_bind hF; obtain ⟨v4, e5, hF⟩ := hF
        replace e5 := Option.some.inj e5
        rw [e5]
        refine eg_istore (i := 5) [(5, .int v4), (2, .int l2), (3, .int l3), (4, .int l4)] dX12_commonDivisor_21 (Nat.le_of_ble_eq_true rfl) rfl ?_
        refine eg_iload_n (i := 3) 2 dX12_commonDivisor_23 rfl rfl ?_
        refine eg_istore_n (i := 2) [(2, .int l3), (5, .int v4), (3, .int l3), (4, .int l4)] dX12_commonDivisor_24 rfl (Nat.le_of_ble_eq_true rfl) rfl ?_
        refine eg_iload (i := 5) 1 dX12_commonDivisor_25 rfl ?_
        refine eg_istore_n (i := 3) [(3, .int v4), (2, .int l3), (5, .int v4), (4, .int l4)] dX12_commonDivisor_27 rfl (Nat.le_of_ble_eq_true rfl) rfl ?_
        refine eg_iinc (i := 4) (v := (l4 + (1 : Int32))) 3 [(4, .int (l4 + (1 : Int32))), (3, .int v4), (2, .int l3), (5, .int v4)] dX12_commonDivisor_28 rfl rfl (Nat.le_of_ble_eq_true rfl) rfl ?_
        refine eg_goto 7 dX12_commonDivisor_31 rfl ?_
        exact eg_sub [2, 1, 0] [(2, .int l3), (3, .int v4), (4, .int (l4 + (1 : Int32)))] rfl (hrec h l3 v4 (l4 + (1 : Int32)) hF)
def fX12_commonDivisor (h : eg_H) (l0 : Int32) (l1 : Int32) : Option (Int32 × eg_H) :=
  (fX12_commonDivisor_L7 eg_F h l0 l1 (0 : Int32)).bind fun e =>
  match e with
  | (v3, h4) =>
    some (v3, h4)
set_option maxRecDepth 20000 in
theorem mX12_commonDivisor {h : eg_H} {l0 : Int32} {l1 : Int32} {rE : Int32} {hE : eg_H} (hF : fX12_commonDivisor h l0 l1 = some (rE, hE)) : eg_Met yX12_commonDivisor cX12_commonDivisor 6 (some .int) 1 [.int l0, .int l1] h (some (.int rE)) hE := by
  refine eg_enter rfl (Nat.le_of_ble_eq_true rfl) ?_
  show eg_AW (RX12, cX12_commonDivisor, 6, 1, none, "commonDivisor", (some .int)) (eg_Zm (some (.int rE)) hE h) (eg_nc hE) (eg_ns hE) h 0 [(0, .int l0), (1, .int l1)] [] h
  refine eg_iload_n (i := 0) 0 dX12_commonDivisor_0 rfl rfl ?_
  refine eg_istore_n (i := 2) [(2, .int l0), (0, .int l0), (1, .int l1)] dX12_commonDivisor_1 rfl (Nat.le_of_ble_eq_true rfl) rfl ?_
  refine eg_iload_n (i := 1) 2 dX12_commonDivisor_2 rfl rfl ?_
  refine eg_istore_n (i := 3) [(3, .int l1), (2, .int l0), (0, .int l0), (1, .int l1)] dX12_commonDivisor_3 rfl (Nat.le_of_ble_eq_true rfl) rfl ?_
  refine eg_iconst (v := (0 : Int32)) dX12_commonDivisor_4 (by decide) ?_
  refine eg_istore (i := 4) [(4, .int (0 : Int32)), (3, .int l1), (2, .int l0), (0, .int l0), (1, .int l1)] dX12_commonDivisor_5 (Nat.le_of_ble_eq_true rfl) rfl ?_
  replace hF := eg_bind hF; obtain ⟨x2, e1, hF⟩ := hF
  refine eg_sub [2, 1, 0] [(2, .int l0), (3, .int l1), (4, .int (0 : Int32))] rfl (fX12_commonDivisor_L7_ok eg_F h l0 l1 (0 : Int32) x2 e1 ?_)
  · intro v3 h4 e5
    subst e5
    refine eg_iload_n (i := 2) 0 dX12_commonDivisor_34 rfl rfl ?_
    exact eg_iretE dX12_commonDivisor_35 hF
theorem dX12_raw_0 : decode cX12_raw 0 = .ok (.aload_n 0, 1) := by decide +kernel
theorem dX12_raw_1 : decode cX12_raw 1 = .ok (.iload_n 1, 1) := by decide +kernel
theorem dX12_raw_2 : decode cX12_raw 2 = .ok (.invokevirtual 467, 3) := by decide +kernel
theorem dX12_raw_5 : decode cX12_raw 5 = .ok (.astore 4, 2) := by decide +kernel
theorem dX12_raw_7 : decode cX12_raw 7 = .ok (.aload 4, 2) := by decide +kernel
theorem dX12_raw_9 : decode cX12_raw 9 = .ok (.ifnull 20, 3) := by decide +kernel
theorem dX12_raw_12 : decode cX12_raw 12 = .ok (.iload_n 2, 1) := by decide +kernel
theorem dX12_raw_13 : decode cX12_raw 13 = .ok (.ifCond .lt 16, 3) := by decide +kernel
theorem dX12_raw_16 : decode cX12_raw 16 = .ok (.iload_n 2, 1) := by decide +kernel
theorem dX12_raw_17 : decode cX12_raw 17 = .ok (.bipush 100, 2) := by decide +kernel
theorem dX12_raw_19 : decode cX12_raw 19 = .ok (.if_icmp .gt 10, 3) := by decide +kernel
theorem dX12_raw_22 : decode cX12_raw 22 = .ok (.iload_n 3, 1) := by decide +kernel
theorem dX12_raw_23 : decode cX12_raw 23 = .ok (.invokestatic 320, 3) := by decide +kernel
theorem dX12_raw_26 : decode cX12_raw 26 = .ok (.ifCond .ne 5, 3) := by decide +kernel
theorem dX12_raw_29 : decode cX12_raw 29 = .ok (.iconst (-1), 1) := by decide +kernel
theorem dX12_raw_30 : decode cX12_raw 30 = .ok (.ireturn, 1) := by decide +kernel
theorem dX12_raw_31 : decode cX12_raw 31 = .ok (.iload_n 2, 1) := by decide +kernel
theorem dX12_raw_32 : decode cX12_raw 32 = .ok (.aload 4, 2) := by decide +kernel
theorem dX12_raw_34 : decode cX12_raw 34 = .ok (.invokevirtual 471, 3) := by decide +kernel
theorem dX12_raw_37 : decode cX12_raw 37 = .ok (.iconst 1, 1) := by decide +kernel
theorem dX12_raw_38 : decode cX12_raw 38 = .ok (.iadd, 1) := by decide +kernel
theorem dX12_raw_39 : decode cX12_raw 39 = .ok (.imul, 1) := by decide +kernel
theorem dX12_raw_40 : decode cX12_raw 40 = .ok (.istore 5, 2) := by decide +kernel
theorem dX12_raw_42 : decode cX12_raw 42 = .ok (.iload 5, 2) := by decide +kernel
theorem dX12_raw_44 : decode cX12_raw 44 = .ok (.bipush 100, 2) := by decide +kernel
theorem dX12_raw_46 : decode cX12_raw 46 = .ok (.iload_n 2, 1) := by decide +kernel
theorem dX12_raw_47 : decode cX12_raw 47 = .ok (.isub, 1) := by decide +kernel
theorem dX12_raw_48 : decode cX12_raw 48 = .ok (.aload 4, 2) := by decide +kernel
theorem dX12_raw_50 : decode cX12_raw 50 = .ok (.invokevirtual 474, 3) := by decide +kernel
theorem dX12_raw_53 : decode cX12_raw 53 = .ok (.iconst 4, 1) := by decide +kernel
theorem dX12_raw_54 : decode cX12_raw 54 = .ok (.idiv, 1) := by decide +kernel
theorem dX12_raw_55 : decode cX12_raw 55 = .ok (.iconst 1, 1) := by decide +kernel
theorem dX12_raw_56 : decode cX12_raw 56 = .ok (.iadd, 1) := by decide +kernel
theorem dX12_raw_57 : decode cX12_raw 57 = .ok (.imul, 1) := by decide +kernel
theorem dX12_raw_58 : decode cX12_raw 58 = .ok (.iadd, 1) := by decide +kernel
theorem dX12_raw_59 : decode cX12_raw 59 = .ok (.istore 6, 2) := by decide +kernel
theorem dX12_raw_61 : decode cX12_raw 61 = .ok (.iload 5, 2) := by decide +kernel
theorem dX12_raw_63 : decode cX12_raw 63 = .ok (.iload 6, 2) := by decide +kernel
theorem dX12_raw_65 : decode cX12_raw 65 = .ok (.invokestatic 475, 3) := by decide +kernel
theorem dX12_raw_68 : decode cX12_raw 68 = .ok (.istore 7, 2) := by decide +kernel
theorem dX12_raw_70 : decode cX12_raw 70 = .ok (.iload 7, 2) := by decide +kernel
theorem dX12_raw_72 : decode cX12_raw 72 = .ok (.ifCond .gt 5, 3) := by decide +kernel
theorem dX12_raw_75 : decode cX12_raw 75 = .ok (.iconst (-1), 1) := by decide +kernel
theorem dX12_raw_76 : decode cX12_raw 76 = .ok (.ireturn, 1) := by decide +kernel
theorem dX12_raw_77 : decode cX12_raw 77 = .ok (.iload_n 3, 1) := by decide +kernel
theorem dX12_raw_78 : decode cX12_raw 78 = .ok (.ifCond .ne 8, 3) := by decide +kernel
theorem dX12_raw_81 : decode cX12_raw 81 = .ok (.iload 5, 2) := by decide +kernel
theorem dX12_raw_83 : decode cX12_raw 83 = .ok (.goto 5, 3) := by decide +kernel
theorem dX12_raw_86 : decode cX12_raw 86 = .ok (.iload 6, 2) := by decide +kernel
theorem dX12_raw_88 : decode cX12_raw 88 = .ok (.iload 7, 2) := by decide +kernel
theorem dX12_raw_90 : decode cX12_raw 90 = .ok (.idiv, 1) := by decide +kernel
theorem dX12_raw_91 : decode cX12_raw 91 = .ok (.ireturn, 1) := by decide +kernel
def fX12_raw (h : eg_H) (l0 : Nat) (l1 : Int32) (l2 : Int32) (l3 : Int32) : Option (Int32 × eg_H) :=
  if eg_isO h 12 l0 then (
    (fX12_filmAt h l0 l1).bind fun ⟨q2, h1⟩ =>
    if q2 = none then
      (some ((-1 : Int32), h1))
    else
      if l2 < 0 then
        (some ((-1 : Int32), h1))
      else
        if (100 : Int32) < l2 then
          (some ((-1 : Int32), h1))
        else
          (fX12_isEither h1 l3).bind fun ⟨v8, h7⟩ =>
          if v8 = 0 then
            (some ((-1 : Int32), h7))
          else
            q2.bind fun p11 =>
            (fX3_turns h7 p11).bind fun ⟨v14, h13⟩ =>
            (some ((l2 * (v14 + (1 : Int32))))).bind fun v16 =>
            (fX3_length h13 p11).bind fun ⟨v21, h20⟩ =>
            (some ((v16 + (((100 : Int32) - l2) * ((v21 / (4 : Int32)) + (1 : Int32)))))).bind fun v23 =>
            (fX12_commonDivisor h20 v16 v23).bind fun ⟨v26, h25⟩ =>
            if 0 < v26 then
              (if l3 = 0 then
                (if v26 = 0 then none else
                some ((v16 / v26), h25))
              else
                if v26 = 0 then none else
                some ((v23 / v26), h25))
            else
              some ((-1 : Int32), h25)) else none
theorem fX12_raw_O {h : eg_H} {l0 : Nat} {l1 : Int32} {l2 : Int32} {l3 : Int32} {rE : Int32} {hE : eg_H} (hF : fX12_raw h l0 l1 l2 l3 = some (rE, hE)) : eg_isO h 12 l0 := (eg_ifn hF).1
set_option maxRecDepth 20000 in
theorem mX12_raw {h : eg_H} {l0 : Nat} {l1 : Int32} {l2 : Int32} {l3 : Int32} {rE : Int32} {hE : eg_H} (hF : fX12_raw h l0 l1 l2 l3 = some (rE, hE)) : eg_Met yX12_raw cX12_raw 8 (some .int) 4 [.ref l0, .int l1, .int l2, .int l3] h (some (.int rE)) hE := by
  refine eg_enter rfl (Nat.le_of_ble_eq_true rfl) ?_
  show eg_AW (RX12, cX12_raw, 8, 4, none, "raw", (some .int)) (eg_Zm (some (.int rE)) hE h) (eg_nc hE) (eg_ns hE) h 0 [(0, .ref l0), (1, .int l1), (2, .int l2), (3, .int l3)] [] h
  replace hF := (eg_ifn hF).2
  refine eg_aload_n (i := 0) 0 dX12_raw_0 rfl rfl ?_
  refine eg_iload_n (i := 1) 1 dX12_raw_1 rfl rfl ?_
  replace hF := eg_bind hF; obtain ⟨⟨q2, h1⟩, e3, hF⟩ := hF
  refine eg_callV (c := 12) (n := 1) [.int l1] dX12_raw_2 (mX12_filmAt e3) rfl (fX12_filmAt_O e3) (Nat.le_of_ble_eq_true rfl) rfl ew_1278 ew_1280 ew_47 ew_100 ew_1281 hy_X12_filmAt rfl (Nat.le_of_ble_eq_true rfl) (Nat.le_of_ble_eq_true rfl) (Nat.le_of_ble_eq_true rfl) ?_
  refine eg_astoreq (i := 4) [(4, va_rf q2), (0, .ref l0), (1, .int l1), (2, .int l2), (3, .int l3)] dX12_raw_5 (Nat.le_of_ble_eq_true rfl) rfl ?_
  refine eg_aloadq (i := 4) 0 dX12_raw_7 rfl ?_
  refine eg_ifnull (r := q2) 29 dX12_raw_9 rfl (fun c4 => ?_) (fun c4 => ?_)
  · replace hF := eg_it c4 hF
    refine eg_iconst (v := (-1 : Int32)) dX12_raw_29 (by decide) ?_
    exact eg_iretE dX12_raw_30 hF
  · replace hF := eg_if c4 hF
    refine eg_iload_n (i := 2) 3 dX12_raw_12 rfl rfl ?_
    refine eg_if_lt 29 dX12_raw_13 rfl (fun c5 => ?_) (fun c5 => ?_)
    · replace hF := eg_it c5 hF
      refine eg_iconst (v := (-1 : Int32)) dX12_raw_29 (by decide) ?_
      exact eg_iretE dX12_raw_30 hF
    · replace hF := eg_if c5 hF
      refine eg_iload_n (i := 2) 3 dX12_raw_16 rfl rfl ?_
      refine eg_bipush (v := (100 : Int32)) dX12_raw_17 (by decide) ?_
      refine eg_ic_gt 29 dX12_raw_19 rfl (fun c6 => ?_) (fun c6 => ?_)
      · replace hF := eg_it c6 hF
        refine eg_iconst (v := (-1 : Int32)) dX12_raw_29 (by decide) ?_
        exact eg_iretE dX12_raw_30 hF
      · replace hF := eg_if c6 hF
        refine eg_iload_n (i := 3) 4 dX12_raw_22 rfl rfl ?_
        replace hF := eg_bind hF; obtain ⟨⟨v8, h7⟩, e9, hF⟩ := hF
        refine eg_callS (n := 1) [.int l3] dX12_raw_23 (mX12_isEither e9) rfl ew_993 ew_994 ew_100 ew_995 hy_X12_isEither.2 rfl (Nat.le_of_ble_eq_true rfl) (Nat.le_of_ble_eq_true rfl) (Nat.le_of_ble_eq_true rfl) ?_
        refine eg_if_ne 31 dX12_raw_26 rfl (fun c10 => ?_) (fun c10 => ?_)
        · replace hF := eg_it c10 hF
          refine eg_iconst (v := (-1 : Int32)) dX12_raw_29 (by decide) ?_
          exact eg_iretE dX12_raw_30 hF
        · replace hF := eg_if c10 hF
          refine eg_iload_n (i := 2) 3 dX12_raw_31 rfl rfl ?_
          refine eg_aloadq (i := 4) 0 dX12_raw_32 rfl ?_
          replace hF := eg_bind hF; obtain ⟨p11, e12, hF⟩ := hF
          subst e12
          replace hF := eg_bind hF; obtain ⟨⟨v14, h13⟩, e15, hF⟩ := hF
          refine eg_callV (c := 3) (n := 0) [] dX12_raw_34 (mX3_turns e15) rfl (fX3_turns_O e15) (Nat.le_of_ble_eq_true rfl) rfl ew_1282 ew_1283 ew_1284 ew_119 ew_1285 hy_X3_turns rfl (Nat.le_of_ble_eq_true rfl) (Nat.le_of_ble_eq_true rfl) (Nat.le_of_ble_eq_true rfl) ?_
          refine eg_iconst (v := (1 : Int32)) dX12_raw_37 (by decide) ?_
          refine eg_iadd dX12_raw_38 ?_
          refine eg_imul dX12_raw_39 ?_
          replace hF := eg_bind hF; obtain ⟨v16, e17, hF⟩ := hF
          replace e17 := Option.some.inj e17
          rw [e17]
          refine eg_istore (i := 5) [(5, .int v16), (4, va_rf (some p11)), (0, .ref l0), (1, .int l1), (2, .int l2), (3, .int l3)] dX12_raw_40 (Nat.le_of_ble_eq_true rfl) (by simp [eg_st1, eg_st2, eg_catq]) ?_
          refine eg_iload (i := 5) 0 dX12_raw_42 rfl ?_
          refine eg_bipush (v := (100 : Int32)) dX12_raw_44 (by decide) ?_
          refine eg_iload_n (i := 2) 4 dX12_raw_46 rfl rfl ?_
          refine eg_isub dX12_raw_47 ?_
          refine eg_aloadq (i := 4) 1 dX12_raw_48 rfl ?_
          replace hF := eg_bind hF; obtain ⟨⟨v21, h20⟩, e22, hF⟩ := hF
          refine eg_callV (c := 3) (n := 0) [] dX12_raw_50 (mX3_length e22) rfl (fX3_length_O e22) (Nat.le_of_ble_eq_true rfl) rfl ew_1294 ew_1295 ew_1296 ew_119 ew_1297 hy_X3_length rfl (Nat.le_of_ble_eq_true rfl) (Nat.le_of_ble_eq_true rfl) (Nat.le_of_ble_eq_true rfl) ?_
          refine eg_iconst (v := (4 : Int32)) dX12_raw_53 (by decide) ?_
          refine eg_idiv dX12_raw_54 (by decide) ?_
          refine eg_iconst (v := (1 : Int32)) dX12_raw_55 (by decide) ?_
          refine eg_iadd dX12_raw_56 ?_
          refine eg_imul dX12_raw_57 ?_
          refine eg_iadd dX12_raw_58 ?_
          replace hF := eg_bind hF; obtain ⟨v23, e24, hF⟩ := hF
          replace e24 := Option.some.inj e24
          rw [e24]
          refine eg_istore (i := 6) [(6, .int v23), (5, .int v16), (4, va_rf (some p11)), (0, .ref l0), (1, .int l1), (2, .int l2), (3, .int l3)] dX12_raw_59 (Nat.le_of_ble_eq_true rfl) rfl ?_
          refine eg_iload (i := 5) 1 dX12_raw_61 rfl ?_
          refine eg_iload (i := 6) 0 dX12_raw_63 rfl ?_
          replace hF := eg_bind hF; obtain ⟨⟨v26, h25⟩, e27, hF⟩ := hF
          refine eg_callS (n := 2) [.int v16, .int v23] dX12_raw_65 (mX12_commonDivisor e27) rfl ew_1302 ew_1303 ew_100 ew_1304 hy_X12_commonDivisor.2 rfl (Nat.le_of_ble_eq_true rfl) (Nat.le_of_ble_eq_true rfl) (Nat.le_of_ble_eq_true rfl) ?_
          refine eg_istore (i := 7) [(7, .int v26), (6, .int v23), (5, .int v16), (4, va_rf (some p11)), (0, .ref l0), (1, .int l1), (2, .int l2), (3, .int l3)] dX12_raw_68 (Nat.le_of_ble_eq_true rfl) rfl ?_
          refine eg_iload (i := 7) 0 dX12_raw_70 rfl ?_
          refine eg_if_gt 77 dX12_raw_72 rfl (fun c28 => ?_) (fun c28 => ?_)
          · replace hF := eg_it c28 hF
            refine eg_iload_n (i := 3) 7 dX12_raw_77 rfl rfl ?_
            refine eg_if_ne 86 dX12_raw_78 rfl (fun c29 => ?_) (fun c29 => ?_)
            · replace hF := eg_it c29 hF
              refine eg_iload (i := 5) 2 dX12_raw_81 rfl ?_
              refine eg_goto 88 dX12_raw_83 rfl ?_
              refine eg_iload (i := 7) 0 dX12_raw_88 rfl ?_
              replace hF := eg_nif hF; obtain ⟨c30, hF⟩ := hF
              refine eg_idiv dX12_raw_90 c30 ?_
              exact eg_iretE dX12_raw_91 hF
            · replace hF := eg_if c29 hF
              refine eg_iload (i := 6) 1 dX12_raw_86 rfl ?_
              refine eg_iload (i := 7) 0 dX12_raw_88 rfl ?_
              replace hF := eg_nif hF; obtain ⟨c31, hF⟩ := hF
              refine eg_idiv dX12_raw_90 c31 ?_
              exact eg_iretE dX12_raw_91 hF
          · replace hF := eg_if c28 hF
            refine eg_iconst (v := (-1 : Int32)) dX12_raw_75 (by decide) ?_
            exact eg_iretE dX12_raw_76 hF
theorem dX12_like_0 : decode cX12_like 0 = .ok (.aload_n 0, 1) := by decide +kernel
theorem dX12_like_1 : decode cX12_like 1 = .ok (.iload_n 1, 1) := by decide +kernel
theorem dX12_like_2 : decode cX12_like 2 = .ok (.invokevirtual 467, 3) := by decide +kernel
theorem dX12_like_5 : decode cX12_like 5 = .ok (.astore_n 3, 1) := by decide +kernel
theorem dX12_like_6 : decode cX12_like 6 = .ok (.aload_n 0, 1) := by decide +kernel
theorem dX12_like_7 : decode cX12_like 7 = .ok (.iload_n 2, 1) := by decide +kernel
theorem dX12_like_8 : decode cX12_like 8 = .ok (.invokevirtual 467, 3) := by decide +kernel
theorem dX12_like_11 : decode cX12_like 11 = .ok (.astore 4, 2) := by decide +kernel
theorem dX12_like_13 : decode cX12_like 13 = .ok (.aload_n 3, 1) := by decide +kernel
theorem dX12_like_14 : decode cX12_like 14 = .ok (.ifnull 8, 3) := by decide +kernel
theorem dX12_like_17 : decode cX12_like 17 = .ok (.aload 4, 2) := by decide +kernel
theorem dX12_like_19 : decode cX12_like 19 = .ok (.ifnonnull 5, 3) := by decide +kernel
theorem dX12_like_22 : decode cX12_like 22 = .ok (.iconst (-1), 1) := by decide +kernel
theorem dX12_like_23 : decode cX12_like 23 = .ok (.ireturn, 1) := by decide +kernel
theorem dX12_like_24 : decode cX12_like 24 = .ok (.aload_n 3, 1) := by decide +kernel
theorem dX12_like_25 : decode cX12_like 25 = .ok (.aload 4, 2) := by decide +kernel
theorem dX12_like_27 : decode cX12_like 27 = .ok (.invokevirtual 478, 3) := by decide +kernel
theorem dX12_like_30 : decode cX12_like 30 = .ok (.ireturn, 1) := by decide +kernel
def fX12_like (h : eg_H) (l0 : Nat) (l1 : Int32) (l2 : Int32) : Option (Int32 × eg_H) :=
  if eg_isO h 12 l0 then (
    (fX12_filmAt h l0 l1).bind fun ⟨q2, h1⟩ =>
    (fX12_filmAt h1 l0 l2).bind fun ⟨q5, h4⟩ =>
    if q2 = none then
      (some ((-1 : Int32), h4))
    else
      if q5 = none then
        (some ((-1 : Int32), h4))
      else
        q2.bind fun p9 =>
        q5.bind fun p11 =>
        (fX3_differsFrom h4 p9 p11).bind fun ⟨v14, h13⟩ =>
        some (v14, h13)) else none
theorem fX12_like_O {h : eg_H} {l0 : Nat} {l1 : Int32} {l2 : Int32} {rE : Int32} {hE : eg_H} (hF : fX12_like h l0 l1 l2 = some (rE, hE)) : eg_isO h 12 l0 := (eg_ifn hF).1
set_option maxRecDepth 20000 in
theorem mX12_like {h : eg_H} {l0 : Nat} {l1 : Int32} {l2 : Int32} {rE : Int32} {hE : eg_H} (hF : fX12_like h l0 l1 l2 = some (rE, hE)) : eg_Met yX12_like cX12_like 5 (some .int) 3 [.ref l0, .int l1, .int l2] h (some (.int rE)) hE := by
  refine eg_enter rfl (Nat.le_of_ble_eq_true rfl) ?_
  show eg_AW (RX12, cX12_like, 5, 3, none, "like", (some .int)) (eg_Zm (some (.int rE)) hE h) (eg_nc hE) (eg_ns hE) h 0 [(0, .ref l0), (1, .int l1), (2, .int l2)] [] h
  replace hF := (eg_ifn hF).2
  refine eg_aload_n (i := 0) 0 dX12_like_0 rfl rfl ?_
  refine eg_iload_n (i := 1) 1 dX12_like_1 rfl rfl ?_
  replace hF := eg_bind hF; obtain ⟨⟨q2, h1⟩, e3, hF⟩ := hF
  refine eg_callV (c := 12) (n := 1) [.int l1] dX12_like_2 (mX12_filmAt e3) rfl (fX12_filmAt_O e3) (Nat.le_of_ble_eq_true rfl) rfl ew_1278 ew_1280 ew_47 ew_100 ew_1281 hy_X12_filmAt rfl (Nat.le_of_ble_eq_true rfl) (Nat.le_of_ble_eq_true rfl) (Nat.le_of_ble_eq_true rfl) ?_
  refine eg_astore_nq (i := 3) [(3, va_rf q2), (0, .ref l0), (1, .int l1), (2, .int l2)] dX12_like_5 rfl (Nat.le_of_ble_eq_true rfl) rfl ?_
  refine eg_aload_n (i := 0) 1 dX12_like_6 rfl rfl ?_
  refine eg_iload_n (i := 2) 3 dX12_like_7 rfl rfl ?_
  replace hF := eg_bind hF; obtain ⟨⟨q5, h4⟩, e6, hF⟩ := hF
  refine eg_callV (c := 12) (n := 1) [.int l2] dX12_like_8 (mX12_filmAt e6) rfl (fX12_filmAt_O e6) (Nat.le_of_ble_eq_true rfl) rfl ew_1278 ew_1280 ew_47 ew_100 ew_1281 hy_X12_filmAt rfl (Nat.le_of_ble_eq_true rfl) (Nat.le_of_ble_eq_true rfl) (Nat.le_of_ble_eq_true rfl) ?_
  refine eg_astoreq (i := 4) [(4, va_rf q5), (3, va_rf q2), (0, .ref l0), (1, .int l1), (2, .int l2)] dX12_like_11 (Nat.le_of_ble_eq_true rfl) (by simp [eg_st1, eg_st2, eg_catq]) ?_
  refine eg_aload_nq (i := 3) 1 dX12_like_13 rfl rfl ?_
  refine eg_ifnull (r := q2) 22 dX12_like_14 rfl (fun c7 => ?_) (fun c7 => ?_)
  · replace hF := eg_it c7 hF
    refine eg_iconst (v := (-1 : Int32)) dX12_like_22 (by decide) ?_
    exact eg_iretE dX12_like_23 hF
  · replace hF := eg_if c7 hF
    refine eg_aloadq (i := 4) 0 dX12_like_17 rfl ?_
    refine eg_ifnonnull (r := q5) 24 dX12_like_19 rfl (fun c8 => ?_) (fun c8 => ?_)
    · replace hF := eg_it c8 hF
      refine eg_iconst (v := (-1 : Int32)) dX12_like_22 (by decide) ?_
      exact eg_iretE dX12_like_23 hF
    · replace hF := eg_if c8 hF
      refine eg_aload_nq (i := 3) 1 dX12_like_24 rfl rfl ?_
      refine eg_aloadq (i := 4) 0 dX12_like_25 rfl ?_
      replace hF := eg_bind hF; obtain ⟨p9, e10, hF⟩ := hF
      subst e10
      replace hF := eg_bind hF; obtain ⟨p11, e12, hF⟩ := hF
      subst e12
      replace hF := eg_bind hF; obtain ⟨⟨v14, h13⟩, e15, hF⟩ := hF
      refine eg_callV (c := 3) (n := 1) [.ref p11] dX12_like_27 (mX3_differsFrom e15) rfl (fX3_differsFrom_O e15) (Nat.le_of_ble_eq_true rfl) rfl ew_1309 ew_1310 ew_1311 ew_119 ew_1312 hy_X3_differsFrom rfl (Nat.le_of_ble_eq_true rfl) (Nat.le_of_ble_eq_true rfl) (Nat.le_of_ble_eq_true rfl) ?_
      exact eg_iretE dX12_like_30 hF
theorem dX12_game_0 : decode cX12_game 0 = .ok (.aload_n 0, 1) := by decide +kernel
theorem dX12_game_1 : decode cX12_game 1 = .ok (.iload_n 1, 1) := by decide +kernel
theorem dX12_game_2 : decode cX12_game 2 = .ok (.iload_n 2, 1) := by decide +kernel
theorem dX12_game_3 : decode cX12_game 3 = .ok (.invokevirtual 269, 3) := by decide +kernel
theorem dX12_game_6 : decode cX12_game 6 = .ok (.ifCond .eq 13, 3) := by decide +kernel
theorem dX12_game_9 : decode cX12_game 9 = .ok (.aload_n 0, 1) := by decide +kernel
theorem dX12_game_10 : decode cX12_game 10 = .ok (.getfield 73, 3) := by decide +kernel
theorem dX12_game_13 : decode cX12_game 13 = .ok (.invokevirtual 448, 3) := by decide +kernel
theorem dX12_game_16 : decode cX12_game 16 = .ok (.ifCond .eq 5, 3) := by decide +kernel
theorem dX12_game_19 : decode cX12_game 19 = .ok (.iconst (-1), 1) := by decide +kernel
theorem dX12_game_20 : decode cX12_game 20 = .ok (.ireturn, 1) := by decide +kernel
theorem dX12_game_21 : decode cX12_game 21 = .ok (.aload_n 0, 1) := by decide +kernel
theorem dX12_game_22 : decode cX12_game 22 = .ok (.getfield 92, 3) := by decide +kernel
theorem dX12_game_25 : decode cX12_game 25 = .ok (.lload_n 3, 1) := by decide +kernel
theorem dX12_game_26 : decode cX12_game 26 = .ok (.invokevirtual 403, 3) := by decide +kernel
theorem dX12_game_29 : decode cX12_game 29 = .ok (.iconst 0, 1) := by decide +kernel
theorem dX12_game_30 : decode cX12_game 30 = .ok (.istore 5, 2) := by decide +kernel
theorem dX12_game_32 : decode cX12_game 32 = .ok (.iconst 1, 1) := by decide +kernel
theorem dX12_game_33 : decode cX12_game 33 = .ok (.istore 6, 2) := by decide +kernel
theorem dX12_game_35 : decode cX12_game 35 = .ok (.iload 6, 2) := by decide +kernel
theorem dX12_game_37 : decode cX12_game 37 = .ok (.bipush 60, 2) := by decide +kernel
theorem dX12_game_39 : decode cX12_game 39 = .ok (.if_icmp .gt 55, 3) := by decide +kernel
theorem dX12_game_42 : decode cX12_game 42 = .ok (.aload_n 0, 1) := by decide +kernel
theorem dX12_game_43 : decode cX12_game 43 = .ok (.getfield 35, 3) := by decide +kernel
theorem dX12_game_46 : decode cX12_game 46 = .ok (.iload 6, 2) := by decide +kernel
theorem dX12_game_48 : decode cX12_game 48 = .ok (.aload_n 0, 1) := by decide +kernel
theorem dX12_game_49 : decode cX12_game 49 = .ok (.getfield 35, 3) := by decide +kernel
theorem dX12_game_52 : decode cX12_game 52 = .ok (.iconst 2, 1) := by decide +kernel
theorem dX12_game_53 : decode cX12_game 53 = .ok (.invokevirtual 209, 3) := by decide +kernel
theorem dX12_game_56 : decode cX12_game 56 = .ok (.invokevirtual 343, 3) := by decide +kernel
theorem dX12_game_59 : decode cX12_game 59 = .ok (.istore 7, 2) := by decide +kernel
theorem dX12_game_61 : decode cX12_game 61 = .ok (.iload 7, 2) := by decide +kernel
theorem dX12_game_63 : decode cX12_game 63 = .ok (.bipush 60, 2) := by decide +kernel
theorem dX12_game_65 : decode cX12_game 65 = .ok (.if_icmp .gt 29, 3) := by decide +kernel
theorem dX12_game_68 : decode cX12_game 68 = .ok (.aload_n 0, 1) := by decide +kernel
theorem dX12_game_69 : decode cX12_game 69 = .ok (.iload_n 1, 1) := by decide +kernel
theorem dX12_game_70 : decode cX12_game 70 = .ok (.iload_n 2, 1) := by decide +kernel
theorem dX12_game_71 : decode cX12_game 71 = .ok (.iload 6, 2) := by decide +kernel
theorem dX12_game_73 : decode cX12_game 73 = .ok (.iload 7, 2) := by decide +kernel
theorem dX12_game_75 : decode cX12_game 75 = .ok (.invokevirtual 421, 3) := by decide +kernel
theorem dX12_game_78 : decode cX12_game 78 = .ok (.ifCond .ne 6, 3) := by decide +kernel
theorem dX12_game_81 : decode cX12_game 81 = .ok (.goto 13, 3) := by decide +kernel
theorem dX12_game_84 : decode cX12_game 84 = .ok (.iload 6, 2) := by decide +kernel
theorem dX12_game_86 : decode cX12_game 86 = .ok (.istore 5, 2) := by decide +kernel
theorem dX12_game_88 : decode cX12_game 88 = .ok (.iinc 6 1, 3) := by decide +kernel
theorem dX12_game_91 : decode cX12_game 91 = .ok (.goto (-56), 3) := by decide +kernel
theorem dX12_game_94 : decode cX12_game 94 = .ok (.aload_n 0, 1) := by decide +kernel
theorem dX12_game_95 : decode cX12_game 95 = .ok (.getfield 73, 3) := by decide +kernel
theorem dX12_game_98 : decode cX12_game 98 = .ok (.iload_n 1, 1) := by decide +kernel
theorem dX12_game_99 : decode cX12_game 99 = .ok (.iload_n 2, 1) := by decide +kernel
theorem dX12_game_100 : decode cX12_game 100 = .ok (.iload 5, 2) := by decide +kernel
theorem dX12_game_102 : decode cX12_game 102 = .ok (.iconst 0, 1) := by decide +kernel
theorem dX12_game_103 : decode cX12_game 103 = .ok (.invokevirtual 451, 3) := by decide +kernel
theorem dX12_game_106 : decode cX12_game 106 = .ok (.iload 5, 2) := by decide +kernel
theorem dX12_game_108 : decode cX12_game 108 = .ok (.ireturn, 1) := by decide +kernel
def fX12_game_L35 : Nat → eg_H → Nat → Int32 → Int32 → Int32 → Int32 → Option ((Nat × Int32 × Int32 × Int32 × eg_H) ⊕ (Nat × Int32 × Int32 × Int32 × eg_H))
  | 0, _, _, _, _, _, _ => none
  | n + 1, h, l0, l1, l2, l5, l6 =>
    if (60 : Int32) < l6 then
      (some (.inl (l0, l1, l2, l5, h)))
    else
      (eg_gR h 12 3 l0).bind fun p2 =>
      (eg_gR h 12 3 l0).bind fun p4 =>
      (fX7_told h p4 (2 : Int32)).bind fun ⟨v7, h6⟩ =>
      (fX7_yardsOf h6 p2 l6 v7).bind fun ⟨v10, h9⟩ =>
      if (60 : Int32) < v10 then
        (some (.inl (l0, l1, l2, l5, h9)))
      else
        (fX12_isCaughtByDraw h9 l0 l1 l2 l6 v10).bind fun ⟨v14, h13⟩ =>
        if v14 = 0 then
          (some (.inr (l0, l1, l2, l5, h13)))
        else
          fX12_game_L35 n h13 l0 l1 l2 l6 (l6 + (1 : Int32))
set_option maxRecDepth 20000 in
theorem fX12_game_L35_ok {h0 : eg_H} {Z : eg_C → State → Prop} {N S : Nat} : ∀ (n : Nat) (h : eg_H) (l0 : Nat) (l1 : Int32) (l2 : Int32) (l5 : Int32) (l6 : Int32) (eE : (Nat × Int32 × Int32 × Int32 × eg_H) ⊕ (Nat × Int32 × Int32 × Int32 × eg_H)), fX12_game_L35 n h l0 l1 l2 l5 l6 = some eE → (hk0 : ∀ (l0 : Nat) (l1 : Int32) (l2 : Int32) (l5 : Int32) (h : eg_H), eE = (.inl (l0, l1, l2, l5, h)) → eg_AW (RX12, cX12_game, 8, 7, none, "game", (some .int)) Z N S h0 94 [(0, .ref l0), (1, .int l1), (2, .int l2), (5, .int l5)] [] h) → (hk1 : ∀ (l0 : Nat) (l1 : Int32) (l2 : Int32) (l5 : Int32) (h : eg_H), eE = (.inr (l0, l1, l2, l5, h)) → eg_AW (RX12, cX12_game, 8, 7, none, "game", (some .int)) Z N S h0 81 [(0, .ref l0), (1, .int l1), (2, .int l2), (5, .int l5)] [] h) → eg_AW (RX12, cX12_game, 8, 7, none, "game", (some .int)) Z N S h0 35 [(0, .ref l0), (1, .int l1), (2, .int l2), (5, .int l5), (6, .int l6)] [] h := by
  intro n
  induction n with
  | zero => intro h l0 l1 l2 l5 l6 eE hF; exact absurd hF (by intro q; cases q)
  | succ n ih =>
    intro h l0 l1 l2 l5 l6 eE hF hk0 hk1
    have hrec := fun (h' : eg_H) (l0 : Nat) (l1 : Int32) (l2 : Int32) (l5 : Int32) (l6 : Int32) hq => ih h' l0 l1 l2 l5 l6 eE hq hk0 hk1
    refine eg_iload (i := 6) 4 dX12_game_35 rfl ?_
    refine eg_bipush (v := (60 : Int32)) dX12_game_37 (by decide) ?_
    refine eg_ic_gt 94 dX12_game_39 rfl (fun c1 => ?_) (fun c1 => ?_)
    · replace hF := eg_it c1 hF
      exact eg_sub [0, 1, 2, 3] [(0, .ref l0), (1, .int l1), (2, .int l2), (5, .int l5)] rfl (hk0 l0 l1 l2 l5 h (Option.some.inj hF).symm)
    · replace hF := eg_if c1 hF
      refine eg_aload_n (i := 0) 0 dX12_game_42 rfl rfl ?_
      replace hF := eg_bind hF; obtain ⟨p2, e3, hF⟩ := hF
      refine eg_getR dX12_game_43 e3 (Nat.le_of_ble_eq_true rfl) (Nat.le_of_ble_eq_true rfl) rfl ew_359 ?_
      refine eg_iload (i := 6) 4 dX12_game_46 rfl ?_
      refine eg_aload_n (i := 0) 0 dX12_game_48 rfl rfl ?_
      replace hF := eg_bind hF; obtain ⟨p4, e5, hF⟩ := hF
      refine eg_getR dX12_game_49 e5 (Nat.le_of_ble_eq_true rfl) (Nat.le_of_ble_eq_true rfl) rfl ew_359 ?_
      refine eg_iconst (v := (2 : Int32)) dX12_game_52 (by decide) ?_
      replace hF := eg_bind hF; obtain ⟨⟨v7, h6⟩, e8, hF⟩ := hF
      refine eg_callV (c := 7) (n := 1) [.int (2 : Int32)] dX12_game_53 (mX7_told e8) rfl (fX7_told_O e8) (Nat.le_of_ble_eq_true rfl) rfl ew_717 ew_718 ew_719 ew_104 ew_720 hy_X7_told rfl (Nat.le_of_ble_eq_true rfl) (Nat.le_of_ble_eq_true rfl) (Nat.le_of_ble_eq_true rfl) ?_
      replace hF := eg_bind hF; obtain ⟨⟨v10, h9⟩, e11, hF⟩ := hF
      refine eg_callV (c := 7) (n := 2) [.int l6, .int v7] dX12_game_56 (mX7_yardsOf e11) rfl (fX7_yardsOf_O e11) (Nat.le_of_ble_eq_true rfl) rfl ew_1039 ew_956 ew_957 ew_104 ew_958 hy_X7_yardsOf rfl (Nat.le_of_ble_eq_true rfl) (Nat.le_of_ble_eq_true rfl) (Nat.le_of_ble_eq_true rfl) ?_
      refine eg_istore (i := 7) [(7, .int v10), (0, .ref l0), (1, .int l1), (2, .int l2), (5, .int l5), (6, .int l6)] dX12_game_59 (Nat.le_of_ble_eq_true rfl) rfl ?_
      refine eg_iload (i := 7) 0 dX12_game_61 rfl ?_
      refine eg_bipush (v := (60 : Int32)) dX12_game_63 (by decide) ?_
      refine eg_ic_gt 94 dX12_game_65 rfl (fun c12 => ?_) (fun c12 => ?_)
      · replace hF := eg_it c12 hF
        exact eg_sub [1, 2, 3, 4] [(0, .ref l0), (1, .int l1), (2, .int l2), (5, .int l5)] rfl (hk0 l0 l1 l2 l5 h9 (Option.some.inj hF).symm)
      · replace hF := eg_if c12 hF
        refine eg_aload_n (i := 0) 1 dX12_game_68 rfl rfl ?_
        refine eg_iload_n (i := 1) 2 dX12_game_69 rfl rfl ?_
        refine eg_iload_n (i := 2) 3 dX12_game_70 rfl rfl ?_
        refine eg_iload (i := 6) 5 dX12_game_71 rfl ?_
        refine eg_iload (i := 7) 0 dX12_game_73 rfl ?_
        replace hF := eg_bind hF; obtain ⟨⟨v14, h13⟩, e15, hF⟩ := hF
        refine eg_callV (c := 12) (n := 4) [.int l1, .int l2, .int l6, .int v10] dX12_game_75 (mX12_isCaughtByDraw e15) rfl (fX12_isCaughtByDraw_O e15) (Nat.le_of_ble_eq_true rfl) rfl ew_1161 ew_1163 ew_40 ew_100 ew_1164 hy_X12_isCaughtByDraw rfl (Nat.le_of_ble_eq_true rfl) (Nat.le_of_ble_eq_true rfl) (Nat.le_of_ble_eq_true rfl) ?_
        refine eg_if_ne 84 dX12_game_78 rfl (fun c16 => ?_) (fun c16 => ?_)
        · replace hF := eg_it c16 hF
          exact eg_sub [1, 2, 3, 4] [(0, .ref l0), (1, .int l1), (2, .int l2), (5, .int l5)] rfl (hk1 l0 l1 l2 l5 h13 (Option.some.inj hF).symm)
        · replace hF := eg_if c16 hF
          refine eg_iload (i := 6) 5 dX12_game_84 rfl ?_
          refine eg_istore (i := 5) [(5, .int l6), (7, .int v10), (0, .ref l0), (1, .int l1), (2, .int l2), (6, .int l6)] dX12_game_86 (Nat.le_of_ble_eq_true rfl) rfl ?_
          refine eg_iinc (i := 6) (v := (l6 + (1 : Int32))) 5 [(6, .int (l6 + (1 : Int32))), (5, .int l6), (7, .int v10), (0, .ref l0), (1, .int l1), (2, .int l2)] dX12_game_88 rfl rfl (Nat.le_of_ble_eq_true rfl) rfl ?_
          refine eg_goto 35 dX12_game_91 rfl ?_
          exact eg_sub [3, 4, 5, 1, 0] [(0, .ref l0), (1, .int l1), (2, .int l2), (5, .int l6), (6, .int (l6 + (1 : Int32)))] rfl (hrec h13 l0 l1 l2 l6 (l6 + (1 : Int32)) hF)
def fX12_game (h : eg_H) (l0 : Nat) (l1 : Int32) (l2 : Int32) (l3 : Int64) : Option (Int32 × eg_H) :=
  if eg_isO h 12 l0 then (
    (fX12_isCourse h l0 l1 l2).bind fun ⟨v2, h1⟩ =>
    if v2 = 0 then
      (some ((-1 : Int32), h1))
    else
      (eg_gR h1 12 11 l0).bind fun p5 =>
      (fX1_isFull h1 p5).bind fun ⟨v8, h7⟩ =>
      if v8 = 0 then
        ((eg_gR h7 12 15 l0).bind fun p11 =>
        (fX11_startDraws h7 p11 l3).bind fun h13 =>
        (fX12_game_L35 eg_F h13 l0 l1 l2 (0 : Int32) (1 : Int32)).bind fun e =>
        match e with
        | .inl (p17, v18, v19, v20, h21) =>
          (eg_gR h21 12 11 p17).bind fun p22 =>
          (fX1_add h21 p22 v18 v19 v20 (0 : Int32)).bind fun h24 =>
          some (v20, h24)
        | .inr (p27, v28, v29, v30, h31) =>
          (eg_gR h31 12 11 p27).bind fun p32 =>
          (fX1_add h31 p32 v28 v29 v30 (0 : Int32)).bind fun h34 =>
          some (v30, h34))
      else
        some ((-1 : Int32), h7)) else none
theorem fX12_game_O {h : eg_H} {l0 : Nat} {l1 : Int32} {l2 : Int32} {l3 : Int64} {rE : Int32} {hE : eg_H} (hF : fX12_game h l0 l1 l2 l3 = some (rE, hE)) : eg_isO h 12 l0 := (eg_ifn hF).1
set_option maxRecDepth 20000 in
theorem mX12_game {h : eg_H} {l0 : Nat} {l1 : Int32} {l2 : Int32} {l3 : Int64} {rE : Int32} {hE : eg_H} (hF : fX12_game h l0 l1 l2 l3 = some (rE, hE)) : eg_Met yX12_game cX12_game 8 (some .int) 7 [.ref l0, .int l1, .int l2, .long l3] h (some (.int rE)) hE := by
  refine eg_enter rfl (Nat.le_of_ble_eq_true rfl) ?_
  show eg_AW (RX12, cX12_game, 8, 7, none, "game", (some .int)) (eg_Zm (some (.int rE)) hE h) (eg_nc hE) (eg_ns hE) h 0 [(0, .ref l0), (1, .int l1), (2, .int l2), (3, .long l3)] [] h
  replace hF := (eg_ifn hF).2
  refine eg_aload_n (i := 0) 0 dX12_game_0 rfl rfl ?_
  refine eg_iload_n (i := 1) 1 dX12_game_1 rfl rfl ?_
  refine eg_iload_n (i := 2) 2 dX12_game_2 rfl rfl ?_
  replace hF := eg_bind hF; obtain ⟨⟨v2, h1⟩, e3, hF⟩ := hF
  refine eg_callV (c := 12) (n := 2) [.int l1, .int l2] dX12_game_3 (mX12_isCourse e3) rfl (fX12_isCourse_O e3) (Nat.le_of_ble_eq_true rfl) rfl ew_786 ew_788 ew_24 ew_100 ew_789 hy_X12_isCourse rfl (Nat.le_of_ble_eq_true rfl) (Nat.le_of_ble_eq_true rfl) (Nat.le_of_ble_eq_true rfl) ?_
  refine eg_if_eq 19 dX12_game_6 rfl (fun c4 => ?_) (fun c4 => ?_)
  · replace hF := eg_it c4 hF
    refine eg_iconst (v := (-1 : Int32)) dX12_game_19 (by decide) ?_
    exact eg_iretE dX12_game_20 hF
  · replace hF := eg_if c4 hF
    refine eg_aload_n (i := 0) 0 dX12_game_9 rfl rfl ?_
    replace hF := eg_bind hF; obtain ⟨p5, e6, hF⟩ := hF
    refine eg_getR dX12_game_10 e6 (Nat.le_of_ble_eq_true rfl) (Nat.le_of_ble_eq_true rfl) rfl ew_367 ?_
    replace hF := eg_bind hF; obtain ⟨⟨v8, h7⟩, e9, hF⟩ := hF
    refine eg_callV (c := 1) (n := 0) [] dX12_game_13 (mX1_isFull e9) rfl (fX1_isFull_O e9) (Nat.le_of_ble_eq_true rfl) rfl ew_1238 ew_1239 ew_1240 ew_105 ew_1241 hy_X1_isFull rfl (Nat.le_of_ble_eq_true rfl) (Nat.le_of_ble_eq_true rfl) (Nat.le_of_ble_eq_true rfl) ?_
    refine eg_if_eq 21 dX12_game_16 rfl (fun c10 => ?_) (fun c10 => ?_)
    · replace hF := eg_it c10 hF
      refine eg_aload_n (i := 0) 0 dX12_game_21 rfl rfl ?_
      replace hF := eg_bind hF; obtain ⟨p11, e12, hF⟩ := hF
      refine eg_getR dX12_game_22 e12 (Nat.le_of_ble_eq_true rfl) (Nat.le_of_ble_eq_true rfl) rfl ew_371 ?_
      refine eg_lload_n (i := 3) 3 dX12_game_25 rfl rfl ?_
      replace hF := eg_bind hF; obtain ⟨h13, e14, hF⟩ := hF
      refine eg_callV (c := 11) (n := 1) [.long l3] dX12_game_26 (mX11_startDraws e14) rfl (fX11_startDraws_O e14) (Nat.le_of_ble_eq_true rfl) rfl ew_1148 ew_1149 ew_1150 ew_106 ew_1151 hy_X11_startDraws rfl (Nat.le_of_ble_eq_true rfl) (Nat.le_of_ble_eq_true rfl) (Nat.le_of_ble_eq_true rfl) ?_
      refine eg_iconst (v := (0 : Int32)) dX12_game_29 (by decide) ?_
      refine eg_istore (i := 5) [(5, .int (0 : Int32)), (0, .ref l0), (1, .int l1), (2, .int l2), (3, .long l3)] dX12_game_30 (Nat.le_of_ble_eq_true rfl) rfl ?_
      refine eg_iconst (v := (1 : Int32)) dX12_game_32 (by decide) ?_
      refine eg_istore (i := 6) [(6, .int (1 : Int32)), (5, .int (0 : Int32)), (0, .ref l0), (1, .int l1), (2, .int l2), (3, .long l3)] dX12_game_33 (Nat.le_of_ble_eq_true rfl) rfl ?_
      replace hF := eg_bind hF; obtain ⟨x16, e15, hF⟩ := hF
      refine eg_sub [2, 3, 4, 1, 0] [(0, .ref l0), (1, .int l1), (2, .int l2), (5, .int (0 : Int32)), (6, .int (1 : Int32))] rfl (fX12_game_L35_ok eg_F h13 l0 l1 l2 (0 : Int32) (1 : Int32) x16 e15 ?_ ?_)
      · intro p17 v18 v19 v20 h21 e26
        subst e26
        refine eg_aload_n (i := 0) 0 dX12_game_94 rfl rfl ?_
        replace hF := eg_bind hF; obtain ⟨p22, e23, hF⟩ := hF
        refine eg_getR dX12_game_95 e23 (Nat.le_of_ble_eq_true rfl) (Nat.le_of_ble_eq_true rfl) rfl ew_367 ?_
        refine eg_iload_n (i := 1) 1 dX12_game_98 rfl rfl ?_
        refine eg_iload_n (i := 2) 2 dX12_game_99 rfl rfl ?_
        refine eg_iload (i := 5) 3 dX12_game_100 rfl ?_
        refine eg_iconst (v := (0 : Int32)) dX12_game_102 (by decide) ?_
        replace hF := eg_bind hF; obtain ⟨h24, e25, hF⟩ := hF
        refine eg_callV (c := 1) (n := 4) [.int v18, .int v19, .int v20, .int (0 : Int32)] dX12_game_103 (mX1_add e25) rfl (fX1_add_O e25) (Nat.le_of_ble_eq_true rfl) rfl ew_1242 ew_1243 ew_1244 ew_105 ew_1245 hy_X1_add rfl (Nat.le_of_ble_eq_true rfl) (Nat.le_of_ble_eq_true rfl) (Nat.le_of_ble_eq_true rfl) ?_
        refine eg_iload (i := 5) 3 dX12_game_106 rfl ?_
        exact eg_iretE dX12_game_108 hF
      · intro p27 v28 v29 v30 h31 e36
        subst e36
        refine eg_goto 94 dX12_game_81 rfl ?_
        refine eg_aload_n (i := 0) 0 dX12_game_94 rfl rfl ?_
        replace hF := eg_bind hF; obtain ⟨p32, e33, hF⟩ := hF
        refine eg_getR dX12_game_95 e33 (Nat.le_of_ble_eq_true rfl) (Nat.le_of_ble_eq_true rfl) rfl ew_367 ?_
        refine eg_iload_n (i := 1) 1 dX12_game_98 rfl rfl ?_
        refine eg_iload_n (i := 2) 2 dX12_game_99 rfl rfl ?_
        refine eg_iload (i := 5) 3 dX12_game_100 rfl ?_
        refine eg_iconst (v := (0 : Int32)) dX12_game_102 (by decide) ?_
        replace hF := eg_bind hF; obtain ⟨h34, e35, hF⟩ := hF
        refine eg_callV (c := 1) (n := 4) [.int v28, .int v29, .int v30, .int (0 : Int32)] dX12_game_103 (mX1_add e35) rfl (fX1_add_O e35) (Nat.le_of_ble_eq_true rfl) rfl ew_1242 ew_1243 ew_1244 ew_105 ew_1245 hy_X1_add rfl (Nat.le_of_ble_eq_true rfl) (Nat.le_of_ble_eq_true rfl) (Nat.le_of_ble_eq_true rfl) ?_
        refine eg_iload (i := 5) 3 dX12_game_106 rfl ?_
        exact eg_iretE dX12_game_108 hF
    · replace hF := eg_if c10 hF
      refine eg_iconst (v := (-1 : Int32)) dX12_game_19 (by decide) ?_
      exact eg_iretE dX12_game_20 hF
theorem dX12_played_0 : decode cX12_played 0 = .ok (.iload_n 1, 1) := by decide +kernel
theorem dX12_played_1 : decode cX12_played 1 = .ok (.ifCond .lt 23, 3) := by decide +kernel
theorem dX12_played_4 : decode cX12_played 4 = .ok (.iload_n 1, 1) := by decide +kernel
theorem dX12_played_5 : decode cX12_played 5 = .ok (.aload_n 0, 1) := by decide +kernel
theorem dX12_played_6 : decode cX12_played 6 = .ok (.getfield 73, 3) := by decide +kernel
theorem dX12_played_9 : decode cX12_played 9 = .ok (.invokevirtual 454, 3) := by decide +kernel
theorem dX12_played_12 : decode cX12_played 12 = .ok (.if_icmp .ge 12, 3) := by decide +kernel
theorem dX12_played_15 : decode cX12_played 15 = .ok (.iload_n 2, 1) := by decide +kernel
theorem dX12_played_16 : decode cX12_played 16 = .ok (.ifCond .lt 8, 3) := by decide +kernel
theorem dX12_played_19 : decode cX12_played 19 = .ok (.iload_n 2, 1) := by decide +kernel
theorem dX12_played_20 : decode cX12_played 20 = .ok (.iconst 2, 1) := by decide +kernel
theorem dX12_played_21 : decode cX12_played 21 = .ok (.if_icmp .le 5, 3) := by decide +kernel
theorem dX12_played_24 : decode cX12_played 24 = .ok (.iconst (-1), 1) := by decide +kernel
theorem dX12_played_25 : decode cX12_played 25 = .ok (.ireturn, 1) := by decide +kernel
theorem dX12_played_26 : decode cX12_played 26 = .ok (.aload_n 0, 1) := by decide +kernel
theorem dX12_played_27 : decode cX12_played 27 = .ok (.getfield 73, 3) := by decide +kernel
theorem dX12_played_30 : decode cX12_played 30 = .ok (.iload_n 1, 1) := by decide +kernel
theorem dX12_played_31 : decode cX12_played 31 = .ok (.iload_n 2, 1) := by decide +kernel
theorem dX12_played_32 : decode cX12_played 32 = .ok (.invokevirtual 460, 3) := by decide +kernel
theorem dX12_played_35 : decode cX12_played 35 = .ok (.ireturn, 1) := by decide +kernel
def fX12_played (h : eg_H) (l0 : Nat) (l1 : Int32) (l2 : Int32) : Option (Int32 × eg_H) :=
  if eg_isO h 12 l0 then (
    if l1 < 0 then
      (some ((-1 : Int32), h))
    else
      (eg_gR h 12 11 l0).bind fun p2 =>
      (fX1_size h p2).bind fun ⟨v5, h4⟩ =>
      if v5 ≤ l1 then
        (some ((-1 : Int32), h4))
      else
        if l2 < 0 then
          (some ((-1 : Int32), h4))
        else
          if l2 ≤ (2 : Int32) then
            ((eg_gR h4 12 11 l0).bind fun p10 =>
            (fX1_cell h4 p10 l1 l2).bind fun ⟨v13, h12⟩ =>
            some (v13, h12))
          else
            some ((-1 : Int32), h4)) else none
theorem fX12_played_O {h : eg_H} {l0 : Nat} {l1 : Int32} {l2 : Int32} {rE : Int32} {hE : eg_H} (hF : fX12_played h l0 l1 l2 = some (rE, hE)) : eg_isO h 12 l0 := (eg_ifn hF).1
set_option maxRecDepth 20000 in
theorem mX12_played {h : eg_H} {l0 : Nat} {l1 : Int32} {l2 : Int32} {rE : Int32} {hE : eg_H} (hF : fX12_played h l0 l1 l2 = some (rE, hE)) : eg_Met yX12_played cX12_played 3 (some .int) 2 [.ref l0, .int l1, .int l2] h (some (.int rE)) hE := by
  refine eg_enter rfl (Nat.le_of_ble_eq_true rfl) ?_
  show eg_AW (RX12, cX12_played, 3, 2, none, "played", (some .int)) (eg_Zm (some (.int rE)) hE h) (eg_nc hE) (eg_ns hE) h 0 [(0, .ref l0), (1, .int l1), (2, .int l2)] [] h
  replace hF := (eg_ifn hF).2
  refine eg_iload_n (i := 1) 1 dX12_played_0 rfl rfl ?_
  refine eg_if_lt 24 dX12_played_1 rfl (fun c1 => ?_) (fun c1 => ?_)
  · replace hF := eg_it c1 hF
    refine eg_iconst (v := (-1 : Int32)) dX12_played_24 (by decide) ?_
    exact eg_iretE dX12_played_25 hF
  · replace hF := eg_if c1 hF
    refine eg_iload_n (i := 1) 1 dX12_played_4 rfl rfl ?_
    refine eg_aload_n (i := 0) 0 dX12_played_5 rfl rfl ?_
    replace hF := eg_bind hF; obtain ⟨p2, e3, hF⟩ := hF
    refine eg_getR dX12_played_6 e3 (Nat.le_of_ble_eq_true rfl) (Nat.le_of_ble_eq_true rfl) rfl ew_367 ?_
    replace hF := eg_bind hF; obtain ⟨⟨v5, h4⟩, e6, hF⟩ := hF
    refine eg_callV (c := 1) (n := 0) [] dX12_played_9 (mX1_size e6) rfl (fX1_size_O e6) (Nat.le_of_ble_eq_true rfl) rfl ew_1246 ew_1247 ew_1248 ew_105 ew_1249 hy_X1_size rfl (Nat.le_of_ble_eq_true rfl) (Nat.le_of_ble_eq_true rfl) (Nat.le_of_ble_eq_true rfl) ?_
    refine eg_ic_ge 24 dX12_played_12 rfl (fun c7 => ?_) (fun c7 => ?_)
    · replace hF := eg_it c7 hF
      refine eg_iconst (v := (-1 : Int32)) dX12_played_24 (by decide) ?_
      exact eg_iretE dX12_played_25 hF
    · replace hF := eg_if c7 hF
      refine eg_iload_n (i := 2) 2 dX12_played_15 rfl rfl ?_
      refine eg_if_lt 24 dX12_played_16 rfl (fun c8 => ?_) (fun c8 => ?_)
      · replace hF := eg_it c8 hF
        refine eg_iconst (v := (-1 : Int32)) dX12_played_24 (by decide) ?_
        exact eg_iretE dX12_played_25 hF
      · replace hF := eg_if c8 hF
        refine eg_iload_n (i := 2) 2 dX12_played_19 rfl rfl ?_
        refine eg_iconst (v := (2 : Int32)) dX12_played_20 (by decide) ?_
        refine eg_ic_le 26 dX12_played_21 rfl (fun c9 => ?_) (fun c9 => ?_)
        · replace hF := eg_it c9 hF
          refine eg_aload_n (i := 0) 0 dX12_played_26 rfl rfl ?_
          replace hF := eg_bind hF; obtain ⟨p10, e11, hF⟩ := hF
          refine eg_getR dX12_played_27 e11 (Nat.le_of_ble_eq_true rfl) (Nat.le_of_ble_eq_true rfl) rfl ew_367 ?_
          refine eg_iload_n (i := 1) 1 dX12_played_30 rfl rfl ?_
          refine eg_iload_n (i := 2) 2 dX12_played_31 rfl rfl ?_
          replace hF := eg_bind hF; obtain ⟨⟨v13, h12⟩, e14, hF⟩ := hF
          refine eg_callV (c := 1) (n := 2) [.int l1, .int l2] dX12_played_32 (mX1_cell e14) rfl (fX1_cell_O e14) (Nat.le_of_ble_eq_true rfl) rfl ew_1258 ew_1259 ew_1260 ew_105 ew_1261 hy_X1_cell rfl (Nat.le_of_ble_eq_true rfl) (Nat.le_of_ble_eq_true rfl) (Nat.le_of_ble_eq_true rfl) ?_
          exact eg_iretE dX12_played_35 hF
        · replace hF := eg_if c9 hF
          refine eg_iconst (v := (-1 : Int32)) dX12_played_24 (by decide) ?_
          exact eg_iretE dX12_played_25 hF
theorem dX12_champion_0 : decode cX12_champion 0 = .ok (.iconst (-1), 1) := by decide +kernel
theorem dX12_champion_1 : decode cX12_champion 1 = .ok (.istore_n 1, 1) := by decide +kernel
theorem dX12_champion_2 : decode cX12_champion 2 = .ok (.iconst 0, 1) := by decide +kernel
theorem dX12_champion_3 : decode cX12_champion 3 = .ok (.istore_n 2, 1) := by decide +kernel
theorem dX12_champion_4 : decode cX12_champion 4 = .ok (.iload_n 2, 1) := by decide +kernel
theorem dX12_champion_5 : decode cX12_champion 5 = .ok (.aload_n 0, 1) := by decide +kernel
theorem dX12_champion_6 : decode cX12_champion 6 = .ok (.getfield 73, 3) := by decide +kernel
theorem dX12_champion_9 : decode cX12_champion 9 = .ok (.invokevirtual 454, 3) := by decide +kernel
theorem dX12_champion_12 : decode cX12_champion 12 = .ok (.if_icmp .ge 37, 3) := by decide +kernel
theorem dX12_champion_15 : decode cX12_champion 15 = .ok (.iload_n 1, 1) := by decide +kernel
theorem dX12_champion_16 : decode cX12_champion 16 = .ok (.iconst (-1), 1) := by decide +kernel
theorem dX12_champion_17 : decode cX12_champion 17 = .ok (.if_icmp .eq 24, 3) := by decide +kernel
theorem dX12_champion_20 : decode cX12_champion 20 = .ok (.aload_n 0, 1) := by decide +kernel
theorem dX12_champion_21 : decode cX12_champion 21 = .ok (.getfield 73, 3) := by decide +kernel
theorem dX12_champion_24 : decode cX12_champion 24 = .ok (.iload_n 2, 1) := by decide +kernel
theorem dX12_champion_25 : decode cX12_champion 25 = .ok (.iconst 2, 1) := by decide +kernel
theorem dX12_champion_26 : decode cX12_champion 26 = .ok (.invokevirtual 460, 3) := by decide +kernel
theorem dX12_champion_29 : decode cX12_champion 29 = .ok (.aload_n 0, 1) := by decide +kernel
theorem dX12_champion_30 : decode cX12_champion 30 = .ok (.getfield 73, 3) := by decide +kernel
theorem dX12_champion_33 : decode cX12_champion 33 = .ok (.iload_n 1, 1) := by decide +kernel
theorem dX12_champion_34 : decode cX12_champion 34 = .ok (.iconst 2, 1) := by decide +kernel
theorem dX12_champion_35 : decode cX12_champion 35 = .ok (.invokevirtual 460, 3) := by decide +kernel
theorem dX12_champion_38 : decode cX12_champion 38 = .ok (.if_icmp .le 5, 3) := by decide +kernel
theorem dX12_champion_41 : decode cX12_champion 41 = .ok (.iload_n 2, 1) := by decide +kernel
theorem dX12_champion_42 : decode cX12_champion 42 = .ok (.istore_n 1, 1) := by decide +kernel
theorem dX12_champion_43 : decode cX12_champion 43 = .ok (.iinc 2 1, 3) := by decide +kernel
theorem dX12_champion_46 : decode cX12_champion 46 = .ok (.goto (-42), 3) := by decide +kernel
theorem dX12_champion_49 : decode cX12_champion 49 = .ok (.iload_n 1, 1) := by decide +kernel
theorem dX12_champion_50 : decode cX12_champion 50 = .ok (.ireturn, 1) := by decide +kernel
def fX12_champion_L4 : Nat → eg_H → Nat → Int32 → Int32 → Option (Int32 × eg_H)
  | 0, _, _, _, _ => none
  | n + 1, h, l0, l1, l2 =>
    (eg_gR h 12 11 l0).bind fun p1 =>
    (fX1_size h p1).bind fun ⟨v4, h3⟩ =>
    if v4 ≤ l2 then
      (some (l1, h3))
    else
      if l1 = (-1 : Int32) then
        (fX12_champion_L4 n h3 l0 l2 (l2 + (1 : Int32)))
      else
        (eg_gR h3 12 11 l0).bind fun p8 =>
        (fX1_cell h3 p8 l2 (2 : Int32)).bind fun ⟨v11, h10⟩ =>
        (eg_gR h10 12 11 l0).bind fun p13 =>
        (fX1_cell h10 p13 l1 (2 : Int32)).bind fun ⟨v16, h15⟩ =>
        if v11 ≤ v16 then
          (fX12_champion_L4 n h15 l0 l1 (l2 + (1 : Int32)))
        else
          fX12_champion_L4 n h15 l0 l2 (l2 + (1 : Int32))
set_option maxRecDepth 20000 in
theorem fX12_champion_L4_ok {h0 : eg_H} {Z : eg_C → State → Prop} {N S : Nat} : ∀ (n : Nat) (h : eg_H) (l0 : Nat) (l1 : Int32) (l2 : Int32) (eE : Int32 × eg_H), fX12_champion_L4 n h l0 l1 l2 = some eE → (hk0 : ∀ (l1 : Int32) (h : eg_H), eE = (l1, h) → eg_AW (RX12, cX12_champion, 3, 2, none, "champion", (some .int)) Z N S h0 49 [(1, .int l1)] [] h) → eg_AW (RX12, cX12_champion, 3, 2, none, "champion", (some .int)) Z N S h0 4 [(0, .ref l0), (1, .int l1), (2, .int l2)] [] h := by
  intro n
  induction n with
  | zero => intro h l0 l1 l2 eE hF; exact absurd hF (by intro q; cases q)
  | succ n ih =>
    intro h l0 l1 l2 eE hF hk0
    have hrec := fun (h' : eg_H) (l0 : Nat) (l1 : Int32) (l2 : Int32) hq => ih h' l0 l1 l2 eE hq hk0
    refine eg_iload_n (i := 2) 2 dX12_champion_4 rfl rfl ?_
    refine eg_aload_n (i := 0) 0 dX12_champion_5 rfl rfl ?_
    replace hF := eg_bind hF; obtain ⟨p1, e2, hF⟩ := hF
    refine eg_getR dX12_champion_6 e2 (Nat.le_of_ble_eq_true rfl) (Nat.le_of_ble_eq_true rfl) rfl ew_367 ?_
    replace hF := eg_bind hF; obtain ⟨⟨v4, h3⟩, e5, hF⟩ := hF
    refine eg_callV (c := 1) (n := 0) [] dX12_champion_9 (mX1_size e5) rfl (fX1_size_O e5) (Nat.le_of_ble_eq_true rfl) rfl ew_1246 ew_1247 ew_1248 ew_105 ew_1249 hy_X1_size rfl (Nat.le_of_ble_eq_true rfl) (Nat.le_of_ble_eq_true rfl) (Nat.le_of_ble_eq_true rfl) ?_
    refine eg_ic_ge 49 dX12_champion_12 rfl (fun c6 => ?_) (fun c6 => ?_)
    · replace hF := eg_it c6 hF
      exact eg_sub [1] [(1, .int l1)] rfl (hk0 l1 h3 (Option.some.inj hF).symm)
    · replace hF := eg_if c6 hF
      refine eg_iload_n (i := 1) 1 dX12_champion_15 rfl rfl ?_
      refine eg_iconst (v := (-1 : Int32)) dX12_champion_16 (by decide) ?_
      refine eg_ic_eq 41 dX12_champion_17 rfl (fun c7 => ?_) (fun c7 => ?_)
      · replace hF := eg_it c7 hF
        refine eg_iload_n (i := 2) 2 dX12_champion_41 rfl rfl ?_
        refine eg_istore_n (i := 1) [(1, .int l2), (0, .ref l0), (2, .int l2)] dX12_champion_42 rfl (Nat.le_of_ble_eq_true rfl) rfl ?_
        refine eg_iinc (i := 2) (v := (l2 + (1 : Int32))) 2 [(2, .int (l2 + (1 : Int32))), (1, .int l2), (0, .ref l0)] dX12_champion_43 rfl rfl (Nat.le_of_ble_eq_true rfl) rfl ?_
        refine eg_goto 4 dX12_champion_46 rfl ?_
        exact eg_sub [2, 1, 0] [(0, .ref l0), (1, .int l2), (2, .int (l2 + (1 : Int32)))] rfl (hrec h3 l0 l2 (l2 + (1 : Int32)) hF)
      · replace hF := eg_if c7 hF
        refine eg_aload_n (i := 0) 0 dX12_champion_20 rfl rfl ?_
        replace hF := eg_bind hF; obtain ⟨p8, e9, hF⟩ := hF
        refine eg_getR dX12_champion_21 e9 (Nat.le_of_ble_eq_true rfl) (Nat.le_of_ble_eq_true rfl) rfl ew_367 ?_
        refine eg_iload_n (i := 2) 2 dX12_champion_24 rfl rfl ?_
        refine eg_iconst (v := (2 : Int32)) dX12_champion_25 (by decide) ?_
        replace hF := eg_bind hF; obtain ⟨⟨v11, h10⟩, e12, hF⟩ := hF
        refine eg_callV (c := 1) (n := 2) [.int l2, .int (2 : Int32)] dX12_champion_26 (mX1_cell e12) rfl (fX1_cell_O e12) (Nat.le_of_ble_eq_true rfl) rfl ew_1258 ew_1259 ew_1260 ew_105 ew_1261 hy_X1_cell rfl (Nat.le_of_ble_eq_true rfl) (Nat.le_of_ble_eq_true rfl) (Nat.le_of_ble_eq_true rfl) ?_
        refine eg_aload_n (i := 0) 0 dX12_champion_29 rfl rfl ?_
        replace hF := eg_bind hF; obtain ⟨p13, e14, hF⟩ := hF
        refine eg_getR dX12_champion_30 e14 (Nat.le_of_ble_eq_true rfl) (Nat.le_of_ble_eq_true rfl) rfl ew_367 ?_
        refine eg_iload_n (i := 1) 1 dX12_champion_33 rfl rfl ?_
        refine eg_iconst (v := (2 : Int32)) dX12_champion_34 (by decide) ?_
        replace hF := eg_bind hF; obtain ⟨⟨v16, h15⟩, e17, hF⟩ := hF
        refine eg_callV (c := 1) (n := 2) [.int l1, .int (2 : Int32)] dX12_champion_35 (mX1_cell e17) rfl (fX1_cell_O e17) (Nat.le_of_ble_eq_true rfl) rfl ew_1258 ew_1259 ew_1260 ew_105 ew_1261 hy_X1_cell rfl (Nat.le_of_ble_eq_true rfl) (Nat.le_of_ble_eq_true rfl) (Nat.le_of_ble_eq_true rfl) ?_
        refine eg_ic_le 43 dX12_champion_38 rfl (fun c18 => ?_) (fun c18 => ?_)
        · replace hF := eg_it c18 hF
          refine eg_iinc (i := 2) (v := (l2 + (1 : Int32))) 2 [(2, .int (l2 + (1 : Int32))), (0, .ref l0), (1, .int l1)] dX12_champion_43 rfl rfl (Nat.le_of_ble_eq_true rfl) rfl ?_
          refine eg_goto 4 dX12_champion_46 rfl ?_
          exact eg_sub [1, 2, 0] [(0, .ref l0), (1, .int l1), (2, .int (l2 + (1 : Int32)))] rfl (hrec h15 l0 l1 (l2 + (1 : Int32)) hF)
        · replace hF := eg_if c18 hF
          refine eg_iload_n (i := 2) 2 dX12_champion_41 rfl rfl ?_
          refine eg_istore_n (i := 1) [(1, .int l2), (0, .ref l0), (2, .int l2)] dX12_champion_42 rfl (Nat.le_of_ble_eq_true rfl) rfl ?_
          refine eg_iinc (i := 2) (v := (l2 + (1 : Int32))) 2 [(2, .int (l2 + (1 : Int32))), (1, .int l2), (0, .ref l0)] dX12_champion_43 rfl rfl (Nat.le_of_ble_eq_true rfl) rfl ?_
          refine eg_goto 4 dX12_champion_46 rfl ?_
          exact eg_sub [2, 1, 0] [(0, .ref l0), (1, .int l2), (2, .int (l2 + (1 : Int32)))] rfl (hrec h15 l0 l2 (l2 + (1 : Int32)) hF)
def fX12_champion (h : eg_H) (l0 : Nat) : Option (Int32 × eg_H) :=
  if eg_isO h 12 l0 then (
    (fX12_champion_L4 eg_F h l0 (-1 : Int32) (0 : Int32)).bind fun e =>
    match e with
    | (v3, h4) =>
      some (v3, h4)) else none
theorem fX12_champion_O {h : eg_H} {l0 : Nat} {rE : Int32} {hE : eg_H} (hF : fX12_champion h l0 = some (rE, hE)) : eg_isO h 12 l0 := (eg_ifn hF).1
set_option maxRecDepth 20000 in
theorem mX12_champion {h : eg_H} {l0 : Nat} {rE : Int32} {hE : eg_H} (hF : fX12_champion h l0 = some (rE, hE)) : eg_Met yX12_champion cX12_champion 3 (some .int) 2 [.ref l0] h (some (.int rE)) hE := by
  refine eg_enter rfl (Nat.le_of_ble_eq_true rfl) ?_
  show eg_AW (RX12, cX12_champion, 3, 2, none, "champion", (some .int)) (eg_Zm (some (.int rE)) hE h) (eg_nc hE) (eg_ns hE) h 0 [(0, .ref l0)] [] h
  replace hF := (eg_ifn hF).2
  refine eg_iconst (v := (-1 : Int32)) dX12_champion_0 (by decide) ?_
  refine eg_istore_n (i := 1) [(1, .int (-1 : Int32)), (0, .ref l0)] dX12_champion_1 rfl (Nat.le_of_ble_eq_true rfl) rfl ?_
  refine eg_iconst (v := (0 : Int32)) dX12_champion_2 (by decide) ?_
  refine eg_istore_n (i := 2) [(2, .int (0 : Int32)), (1, .int (-1 : Int32)), (0, .ref l0)] dX12_champion_3 rfl (Nat.le_of_ble_eq_true rfl) rfl ?_
  replace hF := eg_bind hF; obtain ⟨x2, e1, hF⟩ := hF
  refine eg_sub [2, 1, 0] [(0, .ref l0), (1, .int (-1 : Int32)), (2, .int (0 : Int32))] rfl (fX12_champion_L4_ok eg_F h l0 (-1 : Int32) (0 : Int32) x2 e1 ?_)
  · intro v3 h4 e5
    subst e5
    refine eg_iload_n (i := 1) 0 dX12_champion_49 rfl rfl ?_
    exact eg_iretE dX12_champion_50 hF
