theorem dX8_read_0 : decode cX8_read 0 = .ok (.aload_n 0, 1) := by decide +kernel
theorem dX8_read_1 : decode cX8_read 1 = .ok (.iconst 0, 1) := by decide +kernel
theorem dX8_read_2 : decode cX8_read 2 = .ok (.putfield 15, 3) := by decide +kernel
theorem dX8_read_5 : decode cX8_read 5 = .ok (.aload_n 0, 1) := by decide +kernel
theorem dX8_read_6 : decode cX8_read 6 = .ok (.iconst 0, 1) := by decide +kernel
theorem dX8_read_7 : decode cX8_read 7 = .ok (.putfield 19, 3) := by decide +kernel
theorem dX8_read_10 : decode cX8_read 10 = .ok (.aload_n 0, 1) := by decide +kernel
theorem dX8_read_11 : decode cX8_read 11 = .ok (.iconst 0, 1) := by decide +kernel
theorem dX8_read_12 : decode cX8_read 12 = .ok (.putfield 22, 3) := by decide +kernel
theorem dX8_read_15 : decode cX8_read 15 = .ok (.aload_n 0, 1) := by decide +kernel
theorem dX8_read_16 : decode cX8_read 16 = .ok (.iconst 0, 1) := by decide +kernel
theorem dX8_read_17 : decode cX8_read 17 = .ok (.iconst 0, 1) := by decide +kernel
theorem dX8_read_18 : decode cX8_read 18 = .ok (.iconst 4, 1) := by decide +kernel
theorem dX8_read_19 : decode cX8_read 19 = .ok (.invokevirtual 30, 3) := by decide +kernel
theorem dX8_read_22 : decode cX8_read 22 = .ok (.aload_n 0, 1) := by decide +kernel
theorem dX8_read_23 : decode cX8_read 23 = .ok (.getfield 26, 3) := by decide +kernel
theorem dX8_read_26 : decode cX8_read 26 = .ok (.invokevirtual 34, 3) := by decide +kernel
theorem dX8_read_29 : decode cX8_read 29 = .ok (.aload_n 0, 1) := by decide +kernel
theorem dX8_read_30 : decode cX8_read 30 = .ok (.invokevirtual 39, 3) := by decide +kernel
theorem dX8_read_33 : decode cX8_read 33 = .ok (.iconst 0, 1) := by decide +kernel
theorem dX8_read_34 : decode cX8_read 34 = .ok (.istore_n 1, 1) := by decide +kernel
theorem dX8_read_35 : decode cX8_read 35 = .ok (.iload_n 1, 1) := by decide +kernel
theorem dX8_read_36 : decode cX8_read 36 = .ok (.sipush 160, 3) := by decide +kernel
theorem dX8_read_39 : decode cX8_read 39 = .ok (.if_icmp .ge 25, 3) := by decide +kernel
theorem dX8_read_42 : decode cX8_read 42 = .ok (.aload_n 0, 1) := by decide +kernel
theorem dX8_read_43 : decode cX8_read 43 = .ok (.getfield 26, 3) := by decide +kernel
theorem dX8_read_46 : decode cX8_read 46 = .ok (.bipush 59, 2) := by decide +kernel
theorem dX8_read_48 : decode cX8_read 48 = .ok (.invokevirtual 42, 3) := by decide +kernel
theorem dX8_read_51 : decode cX8_read 51 = .ok (.ifCond .eq 13, 3) := by decide +kernel
theorem dX8_read_54 : decode cX8_read 54 = .ok (.aload_n 0, 1) := by decide +kernel
theorem dX8_read_55 : decode cX8_read 55 = .ok (.invokevirtual 39, 3) := by decide +kernel
theorem dX8_read_58 : decode cX8_read 58 = .ok (.iinc 1 1, 3) := by decide +kernel
theorem dX8_read_61 : decode cX8_read 61 = .ok (.goto (-26), 3) := by decide +kernel
theorem dX8_read_64 : decode cX8_read 64 = .ok (.aload_n 0, 1) := by decide +kernel
theorem dX8_read_65 : decode cX8_read 65 = .ok (.getfield 26, 3) := by decide +kernel
theorem dX8_read_68 : decode cX8_read 68 = .ok (.invokevirtual 46, 3) := by decide +kernel
theorem dX8_read_71 : decode cX8_read 71 = .ok (.ifCond .ne 19, 3) := by decide +kernel
theorem dX8_read_74 : decode cX8_read 74 = .ok (.aload_n 0, 1) := by decide +kernel
theorem dX8_read_75 : decode cX8_read 75 = .ok (.getfield 15, 3) := by decide +kernel
theorem dX8_read_78 : decode cX8_read 78 = .ok (.iconst 2, 1) := by decide +kernel
theorem dX8_read_79 : decode cX8_read 79 = .ok (.if_icmp .lt 11, 3) := by decide +kernel
theorem dX8_read_82 : decode cX8_read 82 = .ok (.aload_n 0, 1) := by decide +kernel
theorem dX8_read_83 : decode cX8_read 83 = .ok (.getfield 19, 3) := by decide +kernel
theorem dX8_read_86 : decode cX8_read 86 = .ok (.iconst 1, 1) := by decide +kernel
theorem dX8_read_87 : decode cX8_read 87 = .ok (.if_icmp .ge 10, 3) := by decide +kernel
theorem dX8_read_90 : decode cX8_read 90 = .ok (.aload_n 0, 1) := by decide +kernel
theorem dX8_read_91 : decode cX8_read 91 = .ok (.getfield 26, 3) := by decide +kernel
theorem dX8_read_94 : decode cX8_read 94 = .ok (.invokevirtual 50, 3) := by decide +kernel
theorem dX8_read_97 : decode cX8_read 97 = .ok (.aload_n 0, 1) := by decide +kernel
theorem dX8_read_98 : decode cX8_read 98 = .ok (.getfield 26, 3) := by decide +kernel
theorem dX8_read_101 : decode cX8_read 101 = .ok (.invokevirtual 53, 3) := by decide +kernel
theorem dX8_read_104 : decode cX8_read 104 = .ok (.ireturn, 1) := by decide +kernel
def fX8_read_L35 : Nat → eg_H → Nat → Int32 → Option (Nat × eg_H)
  | 0, _, _, _ => none
  | n + 1, h, l0, l1 =>
    if (160 : Int32) ≤ l1 then
      (some (l0, h))
    else
      (eg_gR h 8 0 l0).bind fun p2 =>
      (fX10_takes h p2 (59 : Int32)).bind fun ⟨v5, h4⟩ =>
      if v5 = 0 then
        (some (l0, h4))
      else
        (fX8_readClause h4 l0).bind fun h8 =>
        fX8_read_L35 n h8 l0 (l1 + (1 : Int32))
set_option maxRecDepth 20000 in
theorem fX8_read_L35_ok {h0 : eg_H} {Z : eg_C → State → Prop} {N S : Nat} : ∀ (n : Nat) (h : eg_H) (l0 : Nat) (l1 : Int32) (eE : Nat × eg_H), fX8_read_L35 n h l0 l1 = some eE → (hk0 : ∀ (l0 : Nat) (h : eg_H), eE = (l0, h) → eg_AW (RX8, cX8_read, 2, 5, none, "read", (some .int)) Z N S h0 64 [(0, .ref l0)] [] h) → eg_AW (RX8, cX8_read, 2, 5, none, "read", (some .int)) Z N S h0 35 [(0, .ref l0), (1, .int l1)] [] h := by
  intro n
  induction n with
  | zero => intro h l0 l1 eE hF; exact absurd hF (by intro q; cases q)
  | succ n ih =>
    intro h l0 l1 eE hF hk0
    have hrec := fun (h' : eg_H) (l0 : Nat) (l1 : Int32) hq => ih h' l0 l1 eE hq hk0
    refine eg_iload_n (i := 1) 1 dX8_read_35 rfl rfl ?_
    refine eg_sipush (v := (160 : Int32)) dX8_read_36 (by decide) ?_
    refine eg_ic_ge 64 dX8_read_39 rfl (fun c1 => ?_) (fun c1 => ?_)
    · replace hF := eg_it c1 hF
      exact eg_sub [0] [(0, .ref l0)] rfl (hk0 l0 h (Option.some.inj hF).symm)
    · replace hF := eg_if c1 hF
      refine eg_aload_n (i := 0) 0 dX8_read_42 rfl rfl ?_
      replace hF := eg_bind hF; obtain ⟨p2, e3, hF⟩ := hF
      refine eg_getR dX8_read_43 e3 (Nat.le_of_ble_eq_true rfl) (Nat.le_of_ble_eq_true rfl) rfl ew_163 ?_
      refine eg_bipush (v := (59 : Int32)) dX8_read_46 (by decide) ?_
      replace hF := eg_bind hF; obtain ⟨⟨v5, h4⟩, e6, hF⟩ := hF
      refine eg_callV (c := 10) (n := 1) [.int (59 : Int32)] dX8_read_48 (mX10_takes e6) rfl (fX10_takes_O e6) (Nat.le_of_ble_eq_true rfl) rfl ew_506 ew_507 ew_508 ew_101 ew_509 hy_X10_takes rfl (Nat.le_of_ble_eq_true rfl) (Nat.le_of_ble_eq_true rfl) (Nat.le_of_ble_eq_true rfl) ?_
      refine eg_if_eq 64 dX8_read_51 rfl (fun c7 => ?_) (fun c7 => ?_)
      · replace hF := eg_it c7 hF
        exact eg_sub [0] [(0, .ref l0)] rfl (hk0 l0 h4 (Option.some.inj hF).symm)
      · replace hF := eg_if c7 hF
        refine eg_aload_n (i := 0) 0 dX8_read_54 rfl rfl ?_
        replace hF := eg_bind hF; obtain ⟨h8, e9, hF⟩ := hF
        refine eg_callV (c := 8) (n := 0) [] dX8_read_55 (mX8_readClause e9) rfl (fX8_readClause_O e9) (Nat.le_of_ble_eq_true rfl) rfl ew_464 ew_466 ew_3 ew_102 ew_467 hy_X8_readClause rfl (Nat.le_of_ble_eq_true rfl) (Nat.le_of_ble_eq_true rfl) (Nat.le_of_ble_eq_true rfl) ?_
        refine eg_iinc (i := 1) (v := (l1 + (1 : Int32))) 1 [(1, .int (l1 + (1 : Int32))), (0, .ref l0)] dX8_read_58 rfl rfl (Nat.le_of_ble_eq_true rfl) rfl ?_
        refine eg_goto 35 dX8_read_61 rfl ?_
        exact eg_sub [1, 0] [(0, .ref l0), (1, .int (l1 + (1 : Int32)))] rfl (hrec h8 l0 (l1 + (1 : Int32)) hF)
def fX8_read_j64 (h : eg_H) (l0 : Nat) : Option (Int32 × eg_H) :=
  (eg_gR h 8 0 l0).bind fun p1 =>
  (fX10_sign h p1).bind fun ⟨v4, h3⟩ =>
  if v4 = 0 then
    ((eg_gI h3 8 2 l0).bind fun v7 =>
    if v7 < (2 : Int32) then
      ((eg_gR h3 8 0 l0).bind fun p10 =>
      (fX10_markWrongHere h3 p10).bind fun h12 =>
      (eg_gR h12 8 0 l0).bind fun p14 =>
      (fX10_wrongAt h12 p14).bind fun ⟨v17, h16⟩ =>
      some (v17, h16))
    else
      (eg_gI h3 8 3 l0).bind fun v19 =>
      if (1 : Int32) ≤ v19 then
        ((eg_gR h3 8 0 l0).bind fun p22 =>
        (fX10_wrongAt h3 p22).bind fun ⟨v25, h24⟩ =>
        some (v25, h24))
      else
        (eg_gR h3 8 0 l0).bind fun p27 =>
        (fX10_markWrongHere h3 p27).bind fun h29 =>
        (eg_gR h29 8 0 l0).bind fun p31 =>
        (fX10_wrongAt h29 p31).bind fun ⟨v34, h33⟩ =>
        some (v34, h33))
  else
    (eg_gR h3 8 0 l0).bind fun p36 =>
    (fX10_markWrongHere h3 p36).bind fun h38 =>
    (eg_gR h38 8 0 l0).bind fun p40 =>
    (fX10_wrongAt h38 p40).bind fun ⟨v43, h42⟩ =>
    some (v43, h42)
set_option maxRecDepth 20000 in
theorem fX8_read_j64_ok {h0 : eg_H} (h : eg_H) (l0 : Nat) {rE : Int32} {hE : eg_H} (hF : fX8_read_j64 h l0 = some (rE, hE)) : eg_AW (RX8, cX8_read, 2, 5, none, "read", (some .int)) (eg_Zm (some (.int rE)) hE h0) (eg_nc hE) (eg_ns hE) h0 64 [(0, .ref l0)] [] h := by
  refine eg_aload_n (i := 0) 0 dX8_read_64 rfl rfl ?_
  replace hF := eg_bind hF; obtain ⟨p1, e2, hF⟩ := hF
  refine eg_getR dX8_read_65 e2 (Nat.le_of_ble_eq_true rfl) (Nat.le_of_ble_eq_true rfl) rfl ew_163 ?_
  replace hF := eg_bind hF; obtain ⟨⟨v4, h3⟩, e5, hF⟩ := hF
  refine eg_callV (c := 10) (n := 0) [] dX8_read_68 (mX10_sign e5) rfl (fX10_sign_O e5) (Nat.le_of_ble_eq_true rfl) rfl ew_468 ew_469 ew_470 ew_101 ew_471 hy_X10_sign rfl (Nat.le_of_ble_eq_true rfl) (Nat.le_of_ble_eq_true rfl) (Nat.le_of_ble_eq_true rfl) ?_
  refine eg_if_ne 90 dX8_read_71 rfl (fun c6 => ?_) (fun c6 => ?_)
  · replace hF := eg_it c6 hF
    refine eg_aload_n (i := 0) 0 dX8_read_74 rfl rfl ?_
    replace hF := eg_bind hF; obtain ⟨v7, e8, hF⟩ := hF
    refine eg_getI dX8_read_75 e8 (Nat.le_of_ble_eq_true rfl) (Nat.le_of_ble_eq_true rfl) rfl ew_165 ?_
    refine eg_iconst (v := (2 : Int32)) dX8_read_78 (by decide) ?_
    refine eg_ic_lt 90 dX8_read_79 rfl (fun c9 => ?_) (fun c9 => ?_)
    · replace hF := eg_it c9 hF
      refine eg_aload_n (i := 0) 0 dX8_read_90 rfl rfl ?_
      replace hF := eg_bind hF; obtain ⟨p10, e11, hF⟩ := hF
      refine eg_getR dX8_read_91 e11 (Nat.le_of_ble_eq_true rfl) (Nat.le_of_ble_eq_true rfl) rfl ew_163 ?_
      replace hF := eg_bind hF; obtain ⟨h12, e13, hF⟩ := hF
      refine eg_callV (c := 10) (n := 0) [] dX8_read_94 (mX10_markWrongHere e13) rfl (fX10_markWrongHere_O e13) (Nat.le_of_ble_eq_true rfl) rfl ew_502 ew_503 ew_504 ew_101 ew_505 hy_X10_markWrongHere rfl (Nat.le_of_ble_eq_true rfl) (Nat.le_of_ble_eq_true rfl) (Nat.le_of_ble_eq_true rfl) ?_
      refine eg_aload_n (i := 0) 0 dX8_read_97 rfl rfl ?_
      replace hF := eg_bind hF; obtain ⟨p14, e15, hF⟩ := hF
      refine eg_getR dX8_read_98 e15 (Nat.le_of_ble_eq_true rfl) (Nat.le_of_ble_eq_true rfl) rfl ew_163 ?_
      replace hF := eg_bind hF; obtain ⟨⟨v17, h16⟩, e18, hF⟩ := hF
      refine eg_callV (c := 10) (n := 0) [] dX8_read_101 (mX10_wrongAt e18) rfl (fX10_wrongAt_O e18) (Nat.le_of_ble_eq_true rfl) rfl ew_510 ew_511 ew_512 ew_101 ew_513 hy_X10_wrongAt rfl (Nat.le_of_ble_eq_true rfl) (Nat.le_of_ble_eq_true rfl) (Nat.le_of_ble_eq_true rfl) ?_
      exact eg_iretE dX8_read_104 hF
    · replace hF := eg_if c9 hF
      refine eg_aload_n (i := 0) 0 dX8_read_82 rfl rfl ?_
      replace hF := eg_bind hF; obtain ⟨v19, e20, hF⟩ := hF
      refine eg_getI dX8_read_83 e20 (Nat.le_of_ble_eq_true rfl) (Nat.le_of_ble_eq_true rfl) rfl ew_166 ?_
      refine eg_iconst (v := (1 : Int32)) dX8_read_86 (by decide) ?_
      refine eg_ic_ge 97 dX8_read_87 rfl (fun c21 => ?_) (fun c21 => ?_)
      · replace hF := eg_it c21 hF
        refine eg_aload_n (i := 0) 0 dX8_read_97 rfl rfl ?_
        replace hF := eg_bind hF; obtain ⟨p22, e23, hF⟩ := hF
        refine eg_getR dX8_read_98 e23 (Nat.le_of_ble_eq_true rfl) (Nat.le_of_ble_eq_true rfl) rfl ew_163 ?_
        replace hF := eg_bind hF; obtain ⟨⟨v25, h24⟩, e26, hF⟩ := hF
        refine eg_callV (c := 10) (n := 0) [] dX8_read_101 (mX10_wrongAt e26) rfl (fX10_wrongAt_O e26) (Nat.le_of_ble_eq_true rfl) rfl ew_510 ew_511 ew_512 ew_101 ew_513 hy_X10_wrongAt rfl (Nat.le_of_ble_eq_true rfl) (Nat.le_of_ble_eq_true rfl) (Nat.le_of_ble_eq_true rfl) ?_
        exact eg_iretE dX8_read_104 hF
      · replace hF := eg_if c21 hF
        refine eg_aload_n (i := 0) 0 dX8_read_90 rfl rfl ?_
        replace hF := eg_bind hF; obtain ⟨p27, e28, hF⟩ := hF
        refine eg_getR dX8_read_91 e28 (Nat.le_of_ble_eq_true rfl) (Nat.le_of_ble_eq_true rfl) rfl ew_163 ?_
        replace hF := eg_bind hF; obtain ⟨h29, e30, hF⟩ := hF
        refine eg_callV (c := 10) (n := 0) [] dX8_read_94 (mX10_markWrongHere e30) rfl (fX10_markWrongHere_O e30) (Nat.le_of_ble_eq_true rfl) rfl ew_502 ew_503 ew_504 ew_101 ew_505 hy_X10_markWrongHere rfl (Nat.le_of_ble_eq_true rfl) (Nat.le_of_ble_eq_true rfl) (Nat.le_of_ble_eq_true rfl) ?_
        refine eg_aload_n (i := 0) 0 dX8_read_97 rfl rfl ?_
        replace hF := eg_bind hF; obtain ⟨p31, e32, hF⟩ := hF
        refine eg_getR dX8_read_98 e32 (Nat.le_of_ble_eq_true rfl) (Nat.le_of_ble_eq_true rfl) rfl ew_163 ?_
        replace hF := eg_bind hF; obtain ⟨⟨v34, h33⟩, e35, hF⟩ := hF
        refine eg_callV (c := 10) (n := 0) [] dX8_read_101 (mX10_wrongAt e35) rfl (fX10_wrongAt_O e35) (Nat.le_of_ble_eq_true rfl) rfl ew_510 ew_511 ew_512 ew_101 ew_513 hy_X10_wrongAt rfl (Nat.le_of_ble_eq_true rfl) (Nat.le_of_ble_eq_true rfl) (Nat.le_of_ble_eq_true rfl) ?_
        exact eg_iretE dX8_read_104 hF
  · replace hF := eg_if c6 hF
    refine eg_aload_n (i := 0) 0 dX8_read_90 rfl rfl ?_
    replace hF := eg_bind hF; obtain ⟨p36, e37, hF⟩ := hF
    refine eg_getR dX8_read_91 e37 (Nat.le_of_ble_eq_true rfl) (Nat.le_of_ble_eq_true rfl) rfl ew_163 ?_
    replace hF := eg_bind hF; obtain ⟨h38, e39, hF⟩ := hF
    refine eg_callV (c := 10) (n := 0) [] dX8_read_94 (mX10_markWrongHere e39) rfl (fX10_markWrongHere_O e39) (Nat.le_of_ble_eq_true rfl) rfl ew_502 ew_503 ew_504 ew_101 ew_505 hy_X10_markWrongHere rfl (Nat.le_of_ble_eq_true rfl) (Nat.le_of_ble_eq_true rfl) (Nat.le_of_ble_eq_true rfl) ?_
    refine eg_aload_n (i := 0) 0 dX8_read_97 rfl rfl ?_
    replace hF := eg_bind hF; obtain ⟨p40, e41, hF⟩ := hF
    refine eg_getR dX8_read_98 e41 (Nat.le_of_ble_eq_true rfl) (Nat.le_of_ble_eq_true rfl) rfl ew_163 ?_
    replace hF := eg_bind hF; obtain ⟨⟨v43, h42⟩, e44, hF⟩ := hF
    refine eg_callV (c := 10) (n := 0) [] dX8_read_101 (mX10_wrongAt e44) rfl (fX10_wrongAt_O e44) (Nat.le_of_ble_eq_true rfl) rfl ew_510 ew_511 ew_512 ew_101 ew_513 hy_X10_wrongAt rfl (Nat.le_of_ble_eq_true rfl) (Nat.le_of_ble_eq_true rfl) (Nat.le_of_ble_eq_true rfl) ?_
    exact eg_iretE dX8_read_104 hF
def fX8_read (h : eg_H) (l0 : Nat) : Option (Int32 × eg_H) :=
  if eg_isO h 8 l0 then (
    (eg_pI h 8 2 l0 (0 : Int32)).bind fun h1 =>
    (eg_pI h1 8 3 l0 (0 : Int32)).bind fun h3 =>
    (eg_pZ h3 8 4 l0 (0 : Int32)).bind fun h5 =>
    (fX8_putUsual h5 l0 (0 : Int32) (0 : Int32) (4 : Int32)).bind fun h7 =>
    (eg_gR h7 8 0 l0).bind fun p9 =>
    (fX10_rewind h7 p9).bind fun h11 =>
    (fX8_readClause h11 l0).bind fun h13 =>
    (fX8_read_L35 eg_F h13 l0 (0 : Int32)).bind fun e =>
    match e with
    | (p17, h18) =>
      fX8_read_j64 h18 p17) else none
theorem fX8_read_O {h : eg_H} {l0 : Nat} {rE : Int32} {hE : eg_H} (hF : fX8_read h l0 = some (rE, hE)) : eg_isO h 8 l0 := (eg_ifn hF).1
set_option maxRecDepth 20000 in
theorem mX8_read {h : eg_H} {l0 : Nat} {rE : Int32} {hE : eg_H} (hF : fX8_read h l0 = some (rE, hE)) : eg_Met yX8_read cX8_read 2 (some .int) 5 [.ref l0] h (some (.int rE)) hE := by
  refine eg_enter rfl (Nat.le_of_ble_eq_true rfl) ?_
  show eg_AW (RX8, cX8_read, 2, 5, none, "read", (some .int)) (eg_Zm (some (.int rE)) hE h) (eg_nc hE) (eg_ns hE) h 0 [(0, .ref l0)] [] h
  replace hF := (eg_ifn hF).2
  refine eg_aload_n (i := 0) 0 dX8_read_0 rfl rfl ?_
  refine eg_iconst (v := (0 : Int32)) dX8_read_1 (by decide) ?_
  replace hF := eg_bind hF; obtain ⟨h1, e2, hF⟩ := hF
  refine eg_putI dX8_read_2 e2 (Nat.le_of_ble_eq_true rfl) (Nat.le_of_ble_eq_true rfl) rfl ew_165 (Or.inl rfl) ?_
  refine eg_aload_n (i := 0) 0 dX8_read_5 rfl rfl ?_
  refine eg_iconst (v := (0 : Int32)) dX8_read_6 (by decide) ?_
  replace hF := eg_bind hF; obtain ⟨h3, e4, hF⟩ := hF
  refine eg_putI dX8_read_7 e4 (Nat.le_of_ble_eq_true rfl) (Nat.le_of_ble_eq_true rfl) rfl ew_166 (Or.inl rfl) ?_
  refine eg_aload_n (i := 0) 0 dX8_read_10 rfl rfl ?_
  refine eg_iconst (v := (0 : Int32)) dX8_read_11 (by decide) ?_
  replace hF := eg_bind hF; obtain ⟨h5, e6, hF⟩ := hF
  refine eg_putZ dX8_read_12 e6 (Nat.le_of_ble_eq_true rfl) (Nat.le_of_ble_eq_true rfl) rfl ew_167 rfl ?_
  refine eg_aload_n (i := 0) 0 dX8_read_15 rfl rfl ?_
  refine eg_iconst (v := (0 : Int32)) dX8_read_16 (by decide) ?_
  refine eg_iconst (v := (0 : Int32)) dX8_read_17 (by decide) ?_
  refine eg_iconst (v := (4 : Int32)) dX8_read_18 (by decide) ?_
  replace hF := eg_bind hF; obtain ⟨h7, e8, hF⟩ := hF
  refine eg_callV (c := 8) (n := 3) [.int (0 : Int32), .int (0 : Int32), .int (4 : Int32)] dX8_read_19 (mX8_putUsual e8) rfl (fX8_putUsual_O e8) (Nat.le_of_ble_eq_true rfl) rfl ew_446 ew_448 ew_0 ew_102 ew_449 hy_X8_putUsual rfl (Nat.le_of_ble_eq_true rfl) (Nat.le_of_ble_eq_true rfl) (Nat.le_of_ble_eq_true rfl) ?_
  refine eg_aload_n (i := 0) 0 dX8_read_22 rfl rfl ?_
  replace hF := eg_bind hF; obtain ⟨p9, e10, hF⟩ := hF
  refine eg_getR dX8_read_23 e10 (Nat.le_of_ble_eq_true rfl) (Nat.le_of_ble_eq_true rfl) rfl ew_163 ?_
  replace hF := eg_bind hF; obtain ⟨h11, e12, hF⟩ := hF
  refine eg_callV (c := 10) (n := 0) [] dX8_read_26 (mX10_rewind e12) rfl (fX10_rewind_O e12) (Nat.le_of_ble_eq_true rfl) rfl ew_456 ew_457 ew_458 ew_101 ew_459 hy_X10_rewind rfl (Nat.le_of_ble_eq_true rfl) (Nat.le_of_ble_eq_true rfl) (Nat.le_of_ble_eq_true rfl) ?_
  refine eg_aload_n (i := 0) 0 dX8_read_29 rfl rfl ?_
  replace hF := eg_bind hF; obtain ⟨h13, e14, hF⟩ := hF
  refine eg_callV (c := 8) (n := 0) [] dX8_read_30 (mX8_readClause e14) rfl (fX8_readClause_O e14) (Nat.le_of_ble_eq_true rfl) rfl ew_464 ew_466 ew_3 ew_102 ew_467 hy_X8_readClause rfl (Nat.le_of_ble_eq_true rfl) (Nat.le_of_ble_eq_true rfl) (Nat.le_of_ble_eq_true rfl) ?_
  refine eg_iconst (v := (0 : Int32)) dX8_read_33 (by decide) ?_
  refine eg_istore_n (i := 1) [(1, .int (0 : Int32)), (0, .ref l0)] dX8_read_34 rfl (Nat.le_of_ble_eq_true rfl) rfl ?_
  replace hF := eg_bind hF; obtain ⟨x16, e15, hF⟩ := hF
  refine eg_sub [1, 0] [(0, .ref l0), (1, .int (0 : Int32))] rfl (fX8_read_L35_ok eg_F h13 l0 (0 : Int32) x16 e15 ?_)
  · intro p17 h18 e19
    subst e19
    exact (fX8_read_j64_ok h18 p17 hF)
theorem dX9_init_0 : decode cX9_init 0 = .ok (.aload_n 0, 1) := by decide +kernel
theorem dX9_init_1 : decode cX9_init 1 = .ok (.invokespecial 3, 3) := by decide +kernel
theorem dX9_init_4 : decode cX9_init 4 = .ok (.aload_n 0, 1) := by decide +kernel
theorem dX9_init_5 : decode cX9_init 5 = .ok (.bipush 36, 2) := by decide +kernel
theorem dX9_init_7 : decode cX9_init 7 = .ok (.newarray .long, 2) := by decide +kernel
theorem dX9_init_9 : decode cX9_init 9 = .ok (.putfield 9, 3) := by decide +kernel
theorem dX9_init_12 : decode cX9_init 12 = .ok (.aload_n 0, 1) := by decide +kernel
theorem dX9_init_13 : decode cX9_init 13 = .ok (.bipush 6, 2) := by decide +kernel
theorem dX9_init_15 : decode cX9_init 15 = .ok (.newarray .int, 2) := by decide +kernel
theorem dX9_init_17 : decode cX9_init 17 = .ok (.putfield 15, 3) := by decide +kernel
theorem dX9_init_20 : decode cX9_init 20 = .ok (.aload_n 0, 1) := by decide +kernel
theorem dX9_init_21 : decode cX9_init 21 = .ok (.bipush 6, 2) := by decide +kernel
theorem dX9_init_23 : decode cX9_init 23 = .ok (.newarray .int, 2) := by decide +kernel
theorem dX9_init_25 : decode cX9_init 25 = .ok (.putfield 19, 3) := by decide +kernel
theorem dX9_init_28 : decode cX9_init 28 = .ok (.aload_n 0, 1) := by decide +kernel
theorem dX9_init_29 : decode cX9_init 29 = .ok (.bipush 36, 2) := by decide +kernel
theorem dX9_init_31 : decode cX9_init 31 = .ok (.newarray .int, 2) := by decide +kernel
theorem dX9_init_33 : decode cX9_init 33 = .ok (.putfield 22, 3) := by decide +kernel
theorem dX9_init_36 : decode cX9_init 36 = .ok (.aload_n 0, 1) := by decide +kernel
theorem dX9_init_37 : decode cX9_init 37 = .ok (.bipush 6, 2) := by decide +kernel
theorem dX9_init_39 : decode cX9_init 39 = .ok (.newarray .int, 2) := by decide +kernel
theorem dX9_init_41 : decode cX9_init 41 = .ok (.putfield 25, 3) := by decide +kernel
theorem dX9_init_44 : decode cX9_init 44 = .ok (.aload_n 0, 1) := by decide +kernel
theorem dX9_init_45 : decode cX9_init 45 = .ok (.sipush 610, 3) := by decide +kernel
theorem dX9_init_48 : decode cX9_init 48 = .ok (.newarray .int, 2) := by decide +kernel
theorem dX9_init_50 : decode cX9_init 50 = .ok (.putfield 28, 3) := by decide +kernel
theorem dX9_init_53 : decode cX9_init 53 = .ok (.aload_n 0, 1) := by decide +kernel
theorem dX9_init_54 : decode cX9_init 54 = .ok (.iconst 0, 1) := by decide +kernel
theorem dX9_init_55 : decode cX9_init 55 = .ok (.putfield 31, 3) := by decide +kernel
theorem dX9_init_58 : decode cX9_init 58 = .ok (.aload_n 0, 1) := by decide +kernel
theorem dX9_init_59 : decode cX9_init 59 = .ok (.iconst 0, 1) := by decide +kernel
theorem dX9_init_60 : decode cX9_init 60 = .ok (.putfield 35, 3) := by decide +kernel
theorem dX9_init_63 : decode cX9_init 63 = .ok (.aload_n 0, 1) := by decide +kernel
theorem dX9_init_64 : decode cX9_init 64 = .ok (.iconst 0, 1) := by decide +kernel
theorem dX9_init_65 : decode cX9_init 65 = .ok (.putfield 38, 3) := by decide +kernel
theorem dX9_init_68 : decode cX9_init 68 = .ok (.aload_n 0, 1) := by decide +kernel
theorem dX9_init_69 : decode cX9_init 69 = .ok (.iconst 0, 1) := by decide +kernel
theorem dX9_init_70 : decode cX9_init 70 = .ok (.putfield 42, 3) := by decide +kernel
theorem dX9_init_73 : decode cX9_init 73 = .ok (.aload_n 0, 1) := by decide +kernel
theorem dX9_init_74 : decode cX9_init 74 = .ok (.iconst 0, 1) := by decide +kernel
theorem dX9_init_75 : decode cX9_init 75 = .ok (.putfield 45, 3) := by decide +kernel
theorem dX9_init_78 : decode cX9_init 78 = .ok (.aload_n 0, 1) := by decide +kernel
theorem dX9_init_79 : decode cX9_init 79 = .ok (.lconst 0, 1) := by decide +kernel
theorem dX9_init_80 : decode cX9_init 80 = .ok (.putfield 48, 3) := by decide +kernel
theorem dX9_init_83 : decode cX9_init 83 = .ok (.return_, 1) := by decide +kernel
def fX9_init (h : eg_H) (l0 : Nat) : Option (eg_H) :=
  (eg_na h 101 (36 : Int32)).bind fun h2 =>
  (some (eg_nc h)).bind fun p1 =>
  (eg_pP h2 9 0 l0 (some p1)).bind fun h5 =>
  (eg_na h5 100 (6 : Int32)).bind fun h8 =>
  (some (eg_nc h5)).bind fun p7 =>
  (eg_pP h8 9 1 l0 (some p7)).bind fun h11 =>
  (eg_na h11 100 (6 : Int32)).bind fun h14 =>
  (some (eg_nc h11)).bind fun p13 =>
  (eg_pP h14 9 2 l0 (some p13)).bind fun h17 =>
  (eg_na h17 100 (36 : Int32)).bind fun h20 =>
  (some (eg_nc h17)).bind fun p19 =>
  (eg_pP h20 9 3 l0 (some p19)).bind fun h23 =>
  (eg_na h23 100 (6 : Int32)).bind fun h26 =>
  (some (eg_nc h23)).bind fun p25 =>
  (eg_pP h26 9 4 l0 (some p25)).bind fun h29 =>
  (eg_na h29 100 (610 : Int32)).bind fun h32 =>
  (some (eg_nc h29)).bind fun p31 =>
  (eg_pP h32 9 5 l0 (some p31)).bind fun h35 =>
  (eg_pI h35 9 6 l0 (0 : Int32)).bind fun h37 =>
  (eg_pI h37 9 7 l0 (0 : Int32)).bind fun h39 =>
  (eg_pZ h39 9 8 l0 (0 : Int32)).bind fun h41 =>
  (eg_pI h41 9 9 l0 (0 : Int32)).bind fun h43 =>
  (eg_pI h43 9 10 l0 (0 : Int32)).bind fun h45 =>
  (eg_pL h45 9 11 l0 (0 : Int64)).bind fun h47 =>
  some h47
set_option maxRecDepth 20000 in
theorem mX9_init {h : eg_H} {l0 : Nat} {hE : eg_H} (hF : fX9_init h l0 = some hE) : eg_Met yX9_init cX9_init 1 none 1 [.ref l0] h none hE := by
  refine eg_enter rfl (Nat.le_of_ble_eq_true rfl) ?_
  show eg_AW (RX9, cX9_init, 1, 1, none, "<init>", none) (eg_Zm none hE h) (eg_nc hE) (eg_ns hE) h 0 [(0, .ref l0)] [] h
  refine eg_aload_n (i := 0) 0 dX9_init_0 rfl rfl ?_
  refine eg_objInit dX9_init_1 ew_317 (Nat.le_of_ble_eq_true rfl) (Nat.le_of_ble_eq_true rfl) ?_
  refine eg_aload_n (i := 0) 0 dX9_init_4 rfl rfl ?_
  refine eg_bipush (v := (36 : Int32)) dX9_init_5 (by decide) ?_
  replace hF := eg_bind hF; obtain ⟨h2, e3, hF⟩ := hF
  replace hF := eg_bind hF; obtain ⟨p1, e4, hF⟩ := hF
  refine eg_newa .long dX9_init_7 e3 1 (Nat.le_of_ble_eq_true rfl) (Nat.le_of_ble_eq_true rfl) (Nat.le_of_ble_eq_true rfl) (fun _ => rfl) (by decide) rfl ew_355 ?_
  replace e4 := Option.some.inj e4
  rw [e4]
  replace hF := eg_bind hF; obtain ⟨h5, e6, hF⟩ := hF
  refine eg_putR dX9_init_9 e6 (Nat.le_of_ble_eq_true rfl) (Nat.le_of_ble_eq_true rfl) rfl ew_318 (Or.inr ⟨rfl, rfl, rfl⟩) ?_
  refine eg_aload_n (i := 0) 0 dX9_init_12 rfl rfl ?_
  refine eg_bipush (v := (6 : Int32)) dX9_init_13 (by decide) ?_
  replace hF := eg_bind hF; obtain ⟨h8, e9, hF⟩ := hF
  replace hF := eg_bind hF; obtain ⟨p7, e10, hF⟩ := hF
  refine eg_newa .int dX9_init_15 e9 0 (Nat.le_of_ble_eq_true rfl) (Nat.le_of_ble_eq_true rfl) (Nat.le_of_ble_eq_true rfl) (fun _ => rfl) (by decide) rfl ew_156 ?_
  replace e10 := Option.some.inj e10
  rw [e10]
  replace hF := eg_bind hF; obtain ⟨h11, e12, hF⟩ := hF
  refine eg_putR dX9_init_17 e12 (Nat.le_of_ble_eq_true rfl) (Nat.le_of_ble_eq_true rfl) rfl ew_319 (Or.inr ⟨rfl, rfl, rfl⟩) ?_
  refine eg_aload_n (i := 0) 0 dX9_init_20 rfl rfl ?_
  refine eg_bipush (v := (6 : Int32)) dX9_init_21 (by decide) ?_
  replace hF := eg_bind hF; obtain ⟨h14, e15, hF⟩ := hF
  replace hF := eg_bind hF; obtain ⟨p13, e16, hF⟩ := hF
  refine eg_newa .int dX9_init_23 e15 0 (Nat.le_of_ble_eq_true rfl) (Nat.le_of_ble_eq_true rfl) (Nat.le_of_ble_eq_true rfl) (fun _ => rfl) (by decide) rfl ew_156 ?_
  replace e16 := Option.some.inj e16
  rw [e16]
  replace hF := eg_bind hF; obtain ⟨h17, e18, hF⟩ := hF
  refine eg_putR dX9_init_25 e18 (Nat.le_of_ble_eq_true rfl) (Nat.le_of_ble_eq_true rfl) rfl ew_320 (Or.inr ⟨rfl, rfl, rfl⟩) ?_
  refine eg_aload_n (i := 0) 0 dX9_init_28 rfl rfl ?_
  refine eg_bipush (v := (36 : Int32)) dX9_init_29 (by decide) ?_
  replace hF := eg_bind hF; obtain ⟨h20, e21, hF⟩ := hF
  replace hF := eg_bind hF; obtain ⟨p19, e22, hF⟩ := hF
  refine eg_newa .int dX9_init_31 e21 0 (Nat.le_of_ble_eq_true rfl) (Nat.le_of_ble_eq_true rfl) (Nat.le_of_ble_eq_true rfl) (fun _ => rfl) (by decide) rfl ew_156 ?_
  replace e22 := Option.some.inj e22
  rw [e22]
  replace hF := eg_bind hF; obtain ⟨h23, e24, hF⟩ := hF
  refine eg_putR dX9_init_33 e24 (Nat.le_of_ble_eq_true rfl) (Nat.le_of_ble_eq_true rfl) rfl ew_321 (Or.inr ⟨rfl, rfl, rfl⟩) ?_
  refine eg_aload_n (i := 0) 0 dX9_init_36 rfl rfl ?_
  refine eg_bipush (v := (6 : Int32)) dX9_init_37 (by decide) ?_
  replace hF := eg_bind hF; obtain ⟨h26, e27, hF⟩ := hF
  replace hF := eg_bind hF; obtain ⟨p25, e28, hF⟩ := hF
  refine eg_newa .int dX9_init_39 e27 0 (Nat.le_of_ble_eq_true rfl) (Nat.le_of_ble_eq_true rfl) (Nat.le_of_ble_eq_true rfl) (fun _ => rfl) (by decide) rfl ew_156 ?_
  replace e28 := Option.some.inj e28
  rw [e28]
  replace hF := eg_bind hF; obtain ⟨h29, e30, hF⟩ := hF
  refine eg_putR dX9_init_41 e30 (Nat.le_of_ble_eq_true rfl) (Nat.le_of_ble_eq_true rfl) rfl ew_322 (Or.inr ⟨rfl, rfl, rfl⟩) ?_
  refine eg_aload_n (i := 0) 0 dX9_init_44 rfl rfl ?_
  refine eg_sipush (v := (610 : Int32)) dX9_init_45 (by decide) ?_
  replace hF := eg_bind hF; obtain ⟨h32, e33, hF⟩ := hF
  replace hF := eg_bind hF; obtain ⟨p31, e34, hF⟩ := hF
  refine eg_newa .int dX9_init_48 e33 0 (Nat.le_of_ble_eq_true rfl) (Nat.le_of_ble_eq_true rfl) (Nat.le_of_ble_eq_true rfl) (fun _ => rfl) (by decide) rfl ew_156 ?_
  replace e34 := Option.some.inj e34
  rw [e34]
  replace hF := eg_bind hF; obtain ⟨h35, e36, hF⟩ := hF
  refine eg_putR dX9_init_50 e36 (Nat.le_of_ble_eq_true rfl) (Nat.le_of_ble_eq_true rfl) rfl ew_323 (Or.inr ⟨rfl, rfl, rfl⟩) ?_
  refine eg_aload_n (i := 0) 0 dX9_init_53 rfl rfl ?_
  refine eg_iconst (v := (0 : Int32)) dX9_init_54 (by decide) ?_
  replace hF := eg_bind hF; obtain ⟨h37, e38, hF⟩ := hF
  refine eg_putI dX9_init_55 e38 (Nat.le_of_ble_eq_true rfl) (Nat.le_of_ble_eq_true rfl) rfl ew_324 (Or.inl rfl) ?_
  refine eg_aload_n (i := 0) 0 dX9_init_58 rfl rfl ?_
  refine eg_iconst (v := (0 : Int32)) dX9_init_59 (by decide) ?_
  replace hF := eg_bind hF; obtain ⟨h39, e40, hF⟩ := hF
  refine eg_putI dX9_init_60 e40 (Nat.le_of_ble_eq_true rfl) (Nat.le_of_ble_eq_true rfl) rfl ew_325 (Or.inl rfl) ?_
  refine eg_aload_n (i := 0) 0 dX9_init_63 rfl rfl ?_
  refine eg_iconst (v := (0 : Int32)) dX9_init_64 (by decide) ?_
  replace hF := eg_bind hF; obtain ⟨h41, e42, hF⟩ := hF
  refine eg_putZ dX9_init_65 e42 (Nat.le_of_ble_eq_true rfl) (Nat.le_of_ble_eq_true rfl) rfl ew_326 rfl ?_
  refine eg_aload_n (i := 0) 0 dX9_init_68 rfl rfl ?_
  refine eg_iconst (v := (0 : Int32)) dX9_init_69 (by decide) ?_
  replace hF := eg_bind hF; obtain ⟨h43, e44, hF⟩ := hF
  refine eg_putI dX9_init_70 e44 (Nat.le_of_ble_eq_true rfl) (Nat.le_of_ble_eq_true rfl) rfl ew_327 (Or.inl rfl) ?_
  refine eg_aload_n (i := 0) 0 dX9_init_73 rfl rfl ?_
  refine eg_iconst (v := (0 : Int32)) dX9_init_74 (by decide) ?_
  replace hF := eg_bind hF; obtain ⟨h45, e46, hF⟩ := hF
  refine eg_putI dX9_init_75 e46 (Nat.le_of_ble_eq_true rfl) (Nat.le_of_ble_eq_true rfl) rfl ew_328 (Or.inl rfl) ?_
  refine eg_aload_n (i := 0) 0 dX9_init_78 rfl rfl ?_
  refine eg_lconst (v := (0 : Int64)) dX9_init_79 (by decide) ?_
  replace hF := eg_bind hF; obtain ⟨h47, e48, hF⟩ := hF
  refine eg_putL dX9_init_80 e48 (Nat.le_of_ble_eq_true rfl) (Nat.le_of_ble_eq_true rfl) rfl ew_329 rfl ?_
  exact eg_vretE dX9_init_83 hF
theorem dX9_digits_0 : decode cX9_digits 0 = .ok (.aload_n 0, 1) := by decide +kernel
theorem dX9_digits_1 : decode cX9_digits 1 = .ok (.getfield 42, 3) := by decide +kernel
theorem dX9_digits_4 : decode cX9_digits 4 = .ok (.ireturn, 1) := by decide +kernel
def fX9_digits (h : eg_H) (l0 : Nat) : Option (Int32 × eg_H) :=
  if eg_isO h 9 l0 then (
    (eg_gI h 9 9 l0).bind fun v1 =>
    some (v1, h)) else none
theorem fX9_digits_O {h : eg_H} {l0 : Nat} {rE : Int32} {hE : eg_H} (hF : fX9_digits h l0 = some (rE, hE)) : eg_isO h 9 l0 := (eg_ifn hF).1
set_option maxRecDepth 20000 in
theorem mX9_digits {h : eg_H} {l0 : Nat} {rE : Int32} {hE : eg_H} (hF : fX9_digits h l0 = some (rE, hE)) : eg_Met yX9_digits cX9_digits 1 (some .int) 1 [.ref l0] h (some (.int rE)) hE := by
  refine eg_enter rfl (Nat.le_of_ble_eq_true rfl) ?_
  show eg_AW (RX9, cX9_digits, 1, 1, none, "digits", (some .int)) (eg_Zm (some (.int rE)) hE h) (eg_nc hE) (eg_ns hE) h 0 [(0, .ref l0)] [] h
  replace hF := (eg_ifn hF).2
  refine eg_aload_n (i := 0) 0 dX9_digits_0 rfl rfl ?_
  replace hF := eg_bind hF; obtain ⟨v1, e2, hF⟩ := hF
  refine eg_getI dX9_digits_1 e2 (Nat.le_of_ble_eq_true rfl) (Nat.le_of_ble_eq_true rfl) rfl ew_327 ?_
  exact eg_iretE dX9_digits_4 hF
theorem dX9_parts_0 : decode cX9_parts 0 = .ok (.aload_n 0, 1) := by decide +kernel
theorem dX9_parts_1 : decode cX9_parts 1 = .ok (.getfield 45, 3) := by decide +kernel
theorem dX9_parts_4 : decode cX9_parts 4 = .ok (.ireturn, 1) := by decide +kernel
def fX9_parts (h : eg_H) (l0 : Nat) : Option (Int32 × eg_H) :=
  if eg_isO h 9 l0 then (
    (eg_gI h 9 10 l0).bind fun v1 =>
    some (v1, h)) else none
theorem fX9_parts_O {h : eg_H} {l0 : Nat} {rE : Int32} {hE : eg_H} (hF : fX9_parts h l0 = some (rE, hE)) : eg_isO h 9 l0 := (eg_ifn hF).1
set_option maxRecDepth 20000 in
theorem mX9_parts {h : eg_H} {l0 : Nat} {rE : Int32} {hE : eg_H} (hF : fX9_parts h l0 = some (rE, hE)) : eg_Met yX9_parts cX9_parts 1 (some .int) 1 [.ref l0] h (some (.int rE)) hE := by
  refine eg_enter rfl (Nat.le_of_ble_eq_true rfl) ?_
  show eg_AW (RX9, cX9_parts, 1, 1, none, "parts", (some .int)) (eg_Zm (some (.int rE)) hE h) (eg_nc hE) (eg_ns hE) h 0 [(0, .ref l0)] [] h
  replace hF := (eg_ifn hF).2
  refine eg_aload_n (i := 0) 0 dX9_parts_0 rfl rfl ?_
  replace hF := eg_bind hF; obtain ⟨v1, e2, hF⟩ := hF
  refine eg_getI dX9_parts_1 e2 (Nat.le_of_ble_eq_true rfl) (Nat.le_of_ble_eq_true rfl) rfl ew_328 ?_
  exact eg_iretE dX9_parts_4 hF
theorem dX9_hopesTogether_0 : decode cX9_hopesTogether 0 = .ok (.aload_n 0, 1) := by decide +kernel
theorem dX9_hopesTogether_1 : decode cX9_hopesTogether 1 = .ok (.getfield 48, 3) := by decide +kernel
theorem dX9_hopesTogether_4 : decode cX9_hopesTogether 4 = .ok (.lreturn, 1) := by decide +kernel
def fX9_hopesTogether (h : eg_H) (l0 : Nat) : Option (Int64 × eg_H) :=
  if eg_isO h 9 l0 then (
    (eg_gL h 9 11 l0).bind fun v1 =>
    some (v1, h)) else none
theorem fX9_hopesTogether_O {h : eg_H} {l0 : Nat} {rE : Int64} {hE : eg_H} (hF : fX9_hopesTogether h l0 = some (rE, hE)) : eg_isO h 9 l0 := (eg_ifn hF).1
set_option maxRecDepth 20000 in
theorem mX9_hopesTogether {h : eg_H} {l0 : Nat} {rE : Int64} {hE : eg_H} (hF : fX9_hopesTogether h l0 = some (rE, hE)) : eg_Met yX9_hopesTogether cX9_hopesTogether 1 (some .long) 1 [.ref l0] h (some (.long rE)) hE := by
  refine eg_enter rfl (Nat.le_of_ble_eq_true rfl) ?_
  show eg_AW (RX9, cX9_hopesTogether, 1, 1, none, "hopesTogether", (some .long)) (eg_Zm (some (.long rE)) hE h) (eg_nc hE) (eg_ns hE) h 0 [(0, .ref l0)] [] h
  replace hF := (eg_ifn hF).2
  refine eg_aload_n (i := 0) 0 dX9_hopesTogether_0 rfl rfl ?_
  replace hF := eg_bind hF; obtain ⟨v1, e2, hF⟩ := hF
  refine eg_getL dX9_hopesTogether_1 e2 (Nat.le_of_ble_eq_true rfl) (Nat.le_of_ble_eq_true rfl) rfl ew_329 ?_
  exact eg_lretE dX9_hopesTogether_4 hF
theorem dX9_keepHope_0 : decode cX9_keepHope 0 = .ok (.iload_n 1, 1) := by decide +kernel
theorem dX9_keepHope_1 : decode cX9_keepHope 1 = .ok (.bipush 6, 2) := by decide +kernel
theorem dX9_keepHope_3 : decode cX9_keepHope 3 = .ok (.imul, 1) := by decide +kernel
theorem dX9_keepHope_4 : decode cX9_keepHope 4 = .ok (.iload_n 2, 1) := by decide +kernel
theorem dX9_keepHope_5 : decode cX9_keepHope 5 = .ok (.iadd, 1) := by decide +kernel
theorem dX9_keepHope_6 : decode cX9_keepHope 6 = .ok (.istore 5, 2) := by decide +kernel
theorem dX9_keepHope_8 : decode cX9_keepHope 8 = .ok (.iload 5, 2) := by decide +kernel
theorem dX9_keepHope_10 : decode cX9_keepHope 10 = .ok (.ifCond .lt 21, 3) := by decide +kernel
theorem dX9_keepHope_13 : decode cX9_keepHope 13 = .ok (.iload 5, 2) := by decide +kernel
theorem dX9_keepHope_15 : decode cX9_keepHope 15 = .ok (.aload_n 0, 1) := by decide +kernel
theorem dX9_keepHope_16 : decode cX9_keepHope 16 = .ok (.getfield 9, 3) := by decide +kernel
theorem dX9_keepHope_19 : decode cX9_keepHope 19 = .ok (.arraylength, 1) := by decide +kernel
theorem dX9_keepHope_20 : decode cX9_keepHope 20 = .ok (.if_icmp .ge 11, 3) := by decide +kernel
theorem dX9_keepHope_23 : decode cX9_keepHope 23 = .ok (.aload_n 0, 1) := by decide +kernel
theorem dX9_keepHope_24 : decode cX9_keepHope 24 = .ok (.getfield 9, 3) := by decide +kernel
theorem dX9_keepHope_27 : decode cX9_keepHope 27 = .ok (.iload 5, 2) := by decide +kernel
theorem dX9_keepHope_29 : decode cX9_keepHope 29 = .ok (.lload_n 3, 1) := by decide +kernel
theorem dX9_keepHope_30 : decode cX9_keepHope 30 = .ok (.lastore, 1) := by decide +kernel
theorem dX9_keepHope_31 : decode cX9_keepHope 31 = .ok (.return_, 1) := by decide +kernel
def fX9_keepHope (h : eg_H) (l0 : Nat) (l1 : Int32) (l2 : Int32) (l3 : Int64) : Option (eg_H) :=
  if eg_isO h 9 l0 then (
    (some (((l1 * (6 : Int32)) + l2))).bind fun v1 =>
    if v1 < 0 then
      (some h)
    else
      (eg_gR h 9 0 l0).bind fun p4 =>
      (eg_al h p4).bind fun v6 =>
      if v6 ≤ v1 then
        (some h)
      else
        (eg_gR h 9 0 l0).bind fun p9 =>
        (eg_wL h p9 v1 l3).bind fun h11 =>
        some h11) else none
theorem fX9_keepHope_O {h : eg_H} {l0 : Nat} {l1 : Int32} {l2 : Int32} {l3 : Int64} {hE : eg_H} (hF : fX9_keepHope h l0 l1 l2 l3 = some hE) : eg_isO h 9 l0 := (eg_ifn hF).1
set_option maxRecDepth 20000 in
theorem mX9_keepHope {h : eg_H} {l0 : Nat} {l1 : Int32} {l2 : Int32} {l3 : Int64} {hE : eg_H} (hF : fX9_keepHope h l0 l1 l2 l3 = some hE) : eg_Met yX9_keepHope cX9_keepHope 6 none 1 [.ref l0, .int l1, .int l2, .long l3] h none hE := by
  refine eg_enter rfl (Nat.le_of_ble_eq_true rfl) ?_
  show eg_AW (RX9, cX9_keepHope, 6, 1, none, "keepHope", none) (eg_Zm none hE h) (eg_nc hE) (eg_ns hE) h 0 [(0, .ref l0), (1, .int l1), (2, .int l2), (3, .long l3)] [] h
  replace hF := (eg_ifn hF).2
  refine eg_iload_n (i := 1) 1 dX9_keepHope_0 rfl rfl ?_
  refine eg_bipush (v := (6 : Int32)) dX9_keepHope_1 (by decide) ?_
  refine eg_imul dX9_keepHope_3 ?_
  refine eg_iload_n (i := 2) 2 dX9_keepHope_4 rfl rfl ?_
  refine eg_iadd dX9_keepHope_5 ?_
  replace hF := eg_bind hF; obtain ⟨v1, e2, hF⟩ := hF
  replace e2 := Option.some.inj e2
  rw [e2]
  refine eg_istore (i := 5) [(5, .int v1), (0, .ref l0), (1, .int l1), (2, .int l2), (3, .long l3)] dX9_keepHope_6 (Nat.le_of_ble_eq_true rfl) rfl ?_
  refine eg_iload (i := 5) 0 dX9_keepHope_8 rfl ?_
  refine eg_if_lt 31 dX9_keepHope_10 rfl (fun c3 => ?_) (fun c3 => ?_)
  · replace hF := eg_it c3 hF
    exact eg_vretE dX9_keepHope_31 hF
  · replace hF := eg_if c3 hF
    refine eg_iload (i := 5) 0 dX9_keepHope_13 rfl ?_
    refine eg_aload_n (i := 0) 1 dX9_keepHope_15 rfl rfl ?_
    replace hF := eg_bind hF; obtain ⟨p4, e5, hF⟩ := hF
    refine eg_getR dX9_keepHope_16 e5 (Nat.le_of_ble_eq_true rfl) (Nat.le_of_ble_eq_true rfl) rfl ew_318 ?_
    replace hF := eg_bind hF; obtain ⟨v6, e7, hF⟩ := hF
    refine eg_alen dX9_keepHope_19 e7 ?_
    refine eg_ic_ge 31 dX9_keepHope_20 rfl (fun c8 => ?_) (fun c8 => ?_)
    · replace hF := eg_it c8 hF
      exact eg_vretE dX9_keepHope_31 hF
    · replace hF := eg_if c8 hF
      refine eg_aload_n (i := 0) 1 dX9_keepHope_23 rfl rfl ?_
      replace hF := eg_bind hF; obtain ⟨p9, e10, hF⟩ := hF
      refine eg_getR dX9_keepHope_24 e10 (Nat.le_of_ble_eq_true rfl) (Nat.le_of_ble_eq_true rfl) rfl ew_318 ?_
      refine eg_iload (i := 5) 0 dX9_keepHope_27 rfl ?_
      refine eg_lload_n (i := 3) 4 dX9_keepHope_29 rfl rfl ?_
      replace hF := eg_bind hF; obtain ⟨h11, e12, hF⟩ := hF
      refine eg_last dX9_keepHope_30 e12 ?_
      exact eg_vretE dX9_keepHope_31 hF
theorem dX9_partnerDigits_0 : decode cX9_partnerDigits 0 = .ok (.iconst 0, 1) := by decide +kernel
theorem dX9_partnerDigits_1 : decode cX9_partnerDigits 1 = .ok (.istore_n 1, 1) := by decide +kernel
theorem dX9_partnerDigits_2 : decode cX9_partnerDigits 2 = .ok (.iconst 0, 1) := by decide +kernel
theorem dX9_partnerDigits_3 : decode cX9_partnerDigits 3 = .ok (.istore_n 2, 1) := by decide +kernel
theorem dX9_partnerDigits_4 : decode cX9_partnerDigits 4 = .ok (.iload_n 2, 1) := by decide +kernel
theorem dX9_partnerDigits_5 : decode cX9_partnerDigits 5 = .ok (.aload_n 0, 1) := by decide +kernel
theorem dX9_partnerDigits_6 : decode cX9_partnerDigits 6 = .ok (.getfield 35, 3) := by decide +kernel
theorem dX9_partnerDigits_9 : decode cX9_partnerDigits 9 = .ok (.if_icmp .ge 21, 3) := by decide +kernel
theorem dX9_partnerDigits_12 : decode cX9_partnerDigits 12 = .ok (.bipush 10, 2) := by decide +kernel
theorem dX9_partnerDigits_14 : decode cX9_partnerDigits 14 = .ok (.iload_n 1, 1) := by decide +kernel
theorem dX9_partnerDigits_15 : decode cX9_partnerDigits 15 = .ok (.imul, 1) := by decide +kernel
theorem dX9_partnerDigits_16 : decode cX9_partnerDigits 16 = .ok (.aload_n 0, 1) := by decide +kernel
theorem dX9_partnerDigits_17 : decode cX9_partnerDigits 17 = .ok (.getfield 15, 3) := by decide +kernel
theorem dX9_partnerDigits_20 : decode cX9_partnerDigits 20 = .ok (.iload_n 2, 1) := by decide +kernel
theorem dX9_partnerDigits_21 : decode cX9_partnerDigits 21 = .ok (.iaload, 1) := by decide +kernel
theorem dX9_partnerDigits_22 : decode cX9_partnerDigits 22 = .ok (.iadd, 1) := by decide +kernel
theorem dX9_partnerDigits_23 : decode cX9_partnerDigits 23 = .ok (.istore_n 1, 1) := by decide +kernel
theorem dX9_partnerDigits_24 : decode cX9_partnerDigits 24 = .ok (.iinc 2 1, 3) := by decide +kernel
theorem dX9_partnerDigits_27 : decode cX9_partnerDigits 27 = .ok (.goto (-23), 3) := by decide +kernel
theorem dX9_partnerDigits_30 : decode cX9_partnerDigits 30 = .ok (.iload_n 1, 1) := by decide +kernel
theorem dX9_partnerDigits_31 : decode cX9_partnerDigits 31 = .ok (.ireturn, 1) := by decide +kernel
def fX9_partnerDigits_L4 : Nat → eg_H → Nat → Int32 → Int32 → Option (Int32 × eg_H)
  | 0, _, _, _, _ => none
  | n + 1, h, l0, l1, l2 =>
    (eg_gI h 9 7 l0).bind fun v1 =>
    if v1 ≤ l2 then
      (some (l1, h))
    else
      (eg_gR h 9 1 l0).bind fun p4 =>
      (eg_aI h 100 p4 l2).bind fun v6 =>
      (some ((((10 : Int32) * l1) + v6))).bind fun v8 =>
      fX9_partnerDigits_L4 n h l0 v8 (l2 + (1 : Int32))
set_option maxRecDepth 20000 in
theorem fX9_partnerDigits_L4_ok {h0 : eg_H} {Z : eg_C → State → Prop} {N S : Nat} : ∀ (n : Nat) (h : eg_H) (l0 : Nat) (l1 : Int32) (l2 : Int32) (eE : Int32 × eg_H), fX9_partnerDigits_L4 n h l0 l1 l2 = some eE → (hk0 : ∀ (l1 : Int32) (h : eg_H), eE = (l1, h) → eg_AW (RX9, cX9_partnerDigits, 3, 1, none, "partnerDigits", (some .int)) Z N S h0 30 [(1, .int l1)] [] h) → eg_AW (RX9, cX9_partnerDigits, 3, 1, none, "partnerDigits", (some .int)) Z N S h0 4 [(0, .ref l0), (1, .int l1), (2, .int l2)] [] h := by
  intro n
  induction n with
  | zero => intro h l0 l1 l2 eE hF; exact absurd hF (by intro q; cases q)
  | succ n ih =>
    intro h l0 l1 l2 eE hF hk0
    have hrec := fun (h' : eg_H) (l0 : Nat) (l1 : Int32) (l2 : Int32) hq => ih h' l0 l1 l2 eE hq hk0
    refine eg_iload_n (i := 2) 2 dX9_partnerDigits_4 rfl rfl ?_
    refine eg_aload_n (i := 0) 0 dX9_partnerDigits_5 rfl rfl ?_
    replace hF := eg_bind hF; obtain ⟨v1, e2, hF⟩ := hF
    refine eg_getI dX9_partnerDigits_6 e2 (Nat.le_of_ble_eq_true rfl) (Nat.le_of_ble_eq_true rfl) rfl ew_325 ?_
    refine eg_ic_ge 30 dX9_partnerDigits_9 rfl (fun c3 => ?_) (fun c3 => ?_)
    · replace hF := eg_it c3 hF
      exact eg_sub [1] [(1, .int l1)] rfl (hk0 l1 h (Option.some.inj hF).symm)
    · replace hF := eg_if c3 hF
      refine eg_bipush (v := (10 : Int32)) dX9_partnerDigits_12 (by decide) ?_
      refine eg_iload_n (i := 1) 1 dX9_partnerDigits_14 rfl rfl ?_
      refine eg_imul dX9_partnerDigits_15 ?_
      refine eg_aload_n (i := 0) 0 dX9_partnerDigits_16 rfl rfl ?_
      replace hF := eg_bind hF; obtain ⟨p4, e5, hF⟩ := hF
      refine eg_getR dX9_partnerDigits_17 e5 (Nat.le_of_ble_eq_true rfl) (Nat.le_of_ble_eq_true rfl) rfl ew_319 ?_
      refine eg_iload_n (i := 2) 2 dX9_partnerDigits_20 rfl rfl ?_
      replace hF := eg_bind hF; obtain ⟨v6, e7, hF⟩ := hF
      refine eg_iald dX9_partnerDigits_21 e7 ?_
      refine eg_iadd dX9_partnerDigits_22 ?_
      replace hF := eg_bind hF; obtain ⟨v8, e9, hF⟩ := hF
      replace e9 := Option.some.inj e9
      rw [e9]
      refine eg_istore_n (i := 1) [(1, .int v8), (0, .ref l0), (2, .int l2)] dX9_partnerDigits_23 rfl (Nat.le_of_ble_eq_true rfl) rfl ?_
      refine eg_iinc (i := 2) (v := (l2 + (1 : Int32))) 2 [(2, .int (l2 + (1 : Int32))), (1, .int v8), (0, .ref l0)] dX9_partnerDigits_24 rfl rfl (Nat.le_of_ble_eq_true rfl) rfl ?_
      refine eg_goto 4 dX9_partnerDigits_27 rfl ?_
      exact eg_sub [2, 1, 0] [(0, .ref l0), (1, .int v8), (2, .int (l2 + (1 : Int32)))] rfl (hrec h l0 v8 (l2 + (1 : Int32)) hF)
def fX9_partnerDigits (h : eg_H) (l0 : Nat) : Option (Int32 × eg_H) :=
  if eg_isO h 9 l0 then (
    (fX9_partnerDigits_L4 eg_F h l0 (0 : Int32) (0 : Int32)).bind fun e =>
    match e with
    | (v3, h4) =>
      some (v3, h4)) else none
theorem fX9_partnerDigits_O {h : eg_H} {l0 : Nat} {rE : Int32} {hE : eg_H} (hF : fX9_partnerDigits h l0 = some (rE, hE)) : eg_isO h 9 l0 := (eg_ifn hF).1
set_option maxRecDepth 20000 in
theorem mX9_partnerDigits {h : eg_H} {l0 : Nat} {rE : Int32} {hE : eg_H} (hF : fX9_partnerDigits h l0 = some (rE, hE)) : eg_Met yX9_partnerDigits cX9_partnerDigits 3 (some .int) 1 [.ref l0] h (some (.int rE)) hE := by
  refine eg_enter rfl (Nat.le_of_ble_eq_true rfl) ?_
  show eg_AW (RX9, cX9_partnerDigits, 3, 1, none, "partnerDigits", (some .int)) (eg_Zm (some (.int rE)) hE h) (eg_nc hE) (eg_ns hE) h 0 [(0, .ref l0)] [] h
  replace hF := (eg_ifn hF).2
  refine eg_iconst (v := (0 : Int32)) dX9_partnerDigits_0 (by decide) ?_
  refine eg_istore_n (i := 1) [(1, .int (0 : Int32)), (0, .ref l0)] dX9_partnerDigits_1 rfl (Nat.le_of_ble_eq_true rfl) rfl ?_
  refine eg_iconst (v := (0 : Int32)) dX9_partnerDigits_2 (by decide) ?_
  refine eg_istore_n (i := 2) [(2, .int (0 : Int32)), (1, .int (0 : Int32)), (0, .ref l0)] dX9_partnerDigits_3 rfl (Nat.le_of_ble_eq_true rfl) rfl ?_
  replace hF := eg_bind hF; obtain ⟨x2, e1, hF⟩ := hF
  refine eg_sub [2, 1, 0] [(0, .ref l0), (1, .int (0 : Int32)), (2, .int (0 : Int32))] rfl (fX9_partnerDigits_L4_ok eg_F h l0 (0 : Int32) (0 : Int32) x2 e1 ?_)
  · intro v3 h4 e5
    subst e5
    refine eg_iload_n (i := 1) 0 dX9_partnerDigits_30 rfl rfl ?_
    exact eg_iretE dX9_partnerDigits_31 hF
theorem dX9_pairUp_0 : decode cX9_pairUp 0 = .ok (.iconst 0, 1) := by decide +kernel
theorem dX9_pairUp_1 : decode cX9_pairUp 1 = .ok (.istore 4, 2) := by decide +kernel
theorem dX9_pairUp_3 : decode cX9_pairUp 3 = .ok (.iload 4, 2) := by decide +kernel
theorem dX9_pairUp_5 : decode cX9_pairUp 5 = .ok (.aload_n 0, 1) := by decide +kernel
theorem dX9_pairUp_6 : decode cX9_pairUp 6 = .ok (.getfield 35, 3) := by decide +kernel
theorem dX9_pairUp_9 : decode cX9_pairUp 9 = .ok (.if_icmp .ge 19, 3) := by decide +kernel
theorem dX9_pairUp_12 : decode cX9_pairUp 12 = .ok (.iload_n 1, 1) := by decide +kernel
theorem dX9_pairUp_13 : decode cX9_pairUp 13 = .ok (.iload 4, 2) := by decide +kernel
theorem dX9_pairUp_15 : decode cX9_pairUp 15 = .ok (.ishr, 1) := by decide +kernel
theorem dX9_pairUp_16 : decode cX9_pairUp 16 = .ok (.iconst 1, 1) := by decide +kernel
theorem dX9_pairUp_17 : decode cX9_pairUp 17 = .ok (.iand, 1) := by decide +kernel
theorem dX9_pairUp_18 : decode cX9_pairUp 18 = .ok (.iconst 1, 1) := by decide +kernel
theorem dX9_pairUp_19 : decode cX9_pairUp 19 = .ok (.if_icmp .ne 9, 3) := by decide +kernel
theorem dX9_pairUp_22 : decode cX9_pairUp 22 = .ok (.iinc 4 1, 3) := by decide +kernel
theorem dX9_pairUp_25 : decode cX9_pairUp 25 = .ok (.goto (-22), 3) := by decide +kernel
theorem dX9_pairUp_28 : decode cX9_pairUp 28 = .ok (.iload 4, 2) := by decide +kernel
theorem dX9_pairUp_30 : decode cX9_pairUp 30 = .ok (.aload_n 0, 1) := by decide +kernel
theorem dX9_pairUp_31 : decode cX9_pairUp 31 = .ok (.getfield 35, 3) := by decide +kernel
theorem dX9_pairUp_34 : decode cX9_pairUp 34 = .ok (.if_icmp .lt 26, 3) := by decide +kernel
theorem dX9_pairUp_37 : decode cX9_pairUp 37 = .ok (.lload_n 2, 1) := by decide +kernel
theorem dX9_pairUp_38 : decode cX9_pairUp 38 = .ok (.aload_n 0, 1) := by decide +kernel
theorem dX9_pairUp_39 : decode cX9_pairUp 39 = .ok (.getfield 48, 3) := by decide +kernel
theorem dX9_pairUp_42 : decode cX9_pairUp 42 = .ok (.lcmp, 1) := by decide +kernel
theorem dX9_pairUp_43 : decode cX9_pairUp 43 = .ok (.ifCond .le 16, 3) := by decide +kernel
theorem dX9_pairUp_46 : decode cX9_pairUp 46 = .ok (.aload_n 0, 1) := by decide +kernel
theorem dX9_pairUp_47 : decode cX9_pairUp 47 = .ok (.lload_n 2, 1) := by decide +kernel
theorem dX9_pairUp_48 : decode cX9_pairUp 48 = .ok (.putfield 48, 3) := by decide +kernel
theorem dX9_pairUp_51 : decode cX9_pairUp 51 = .ok (.aload_n 0, 1) := by decide +kernel
theorem dX9_pairUp_52 : decode cX9_pairUp 52 = .ok (.aload_n 0, 1) := by decide +kernel
theorem dX9_pairUp_53 : decode cX9_pairUp 53 = .ok (.invokevirtual 58, 3) := by decide +kernel
theorem dX9_pairUp_56 : decode cX9_pairUp 56 = .ok (.putfield 42, 3) := by decide +kernel
theorem dX9_pairUp_59 : decode cX9_pairUp 59 = .ok (.return_, 1) := by decide +kernel
theorem dX9_pairUp_60 : decode cX9_pairUp 60 = .ok (.iload 4, 2) := by decide +kernel
theorem dX9_pairUp_62 : decode cX9_pairUp 62 = .ok (.iconst 1, 1) := by decide +kernel
theorem dX9_pairUp_63 : decode cX9_pairUp 63 = .ok (.iadd, 1) := by decide +kernel
theorem dX9_pairUp_64 : decode cX9_pairUp 64 = .ok (.istore 5, 2) := by decide +kernel
theorem dX9_pairUp_66 : decode cX9_pairUp 66 = .ok (.iload 5, 2) := by decide +kernel
theorem dX9_pairUp_68 : decode cX9_pairUp 68 = .ok (.aload_n 0, 1) := by decide +kernel
theorem dX9_pairUp_69 : decode cX9_pairUp 69 = .ok (.getfield 35, 3) := by decide +kernel
theorem dX9_pairUp_72 : decode cX9_pairUp 72 = .ok (.if_icmp .ge 66, 3) := by decide +kernel
theorem dX9_pairUp_75 : decode cX9_pairUp 75 = .ok (.iload_n 1, 1) := by decide +kernel
theorem dX9_pairUp_76 : decode cX9_pairUp 76 = .ok (.iload 5, 2) := by decide +kernel
theorem dX9_pairUp_78 : decode cX9_pairUp 78 = .ok (.ishr, 1) := by decide +kernel
theorem dX9_pairUp_79 : decode cX9_pairUp 79 = .ok (.iconst 1, 1) := by decide +kernel
theorem dX9_pairUp_80 : decode cX9_pairUp 80 = .ok (.iand, 1) := by decide +kernel
theorem dX9_pairUp_81 : decode cX9_pairUp 81 = .ok (.ifCond .ne 51, 3) := by decide +kernel
theorem dX9_pairUp_84 : decode cX9_pairUp 84 = .ok (.aload_n 0, 1) := by decide +kernel
theorem dX9_pairUp_85 : decode cX9_pairUp 85 = .ok (.getfield 15, 3) := by decide +kernel
theorem dX9_pairUp_88 : decode cX9_pairUp 88 = .ok (.iload 4, 2) := by decide +kernel
theorem dX9_pairUp_90 : decode cX9_pairUp 90 = .ok (.iload 5, 2) := by decide +kernel
theorem dX9_pairUp_92 : decode cX9_pairUp 92 = .ok (.iastore, 1) := by decide +kernel
theorem dX9_pairUp_93 : decode cX9_pairUp 93 = .ok (.aload_n 0, 1) := by decide +kernel
theorem dX9_pairUp_94 : decode cX9_pairUp 94 = .ok (.getfield 15, 3) := by decide +kernel
theorem dX9_pairUp_97 : decode cX9_pairUp 97 = .ok (.iload 5, 2) := by decide +kernel
theorem dX9_pairUp_99 : decode cX9_pairUp 99 = .ok (.iload 4, 2) := by decide +kernel
theorem dX9_pairUp_101 : decode cX9_pairUp 101 = .ok (.iastore, 1) := by decide +kernel
theorem dX9_pairUp_102 : decode cX9_pairUp 102 = .ok (.aload_n 0, 1) := by decide +kernel
theorem dX9_pairUp_103 : decode cX9_pairUp 103 = .ok (.iload_n 1, 1) := by decide +kernel
theorem dX9_pairUp_104 : decode cX9_pairUp 104 = .ok (.iconst 1, 1) := by decide +kernel
theorem dX9_pairUp_105 : decode cX9_pairUp 105 = .ok (.iload 4, 2) := by decide +kernel
theorem dX9_pairUp_107 : decode cX9_pairUp 107 = .ok (.ishl, 1) := by decide +kernel
theorem dX9_pairUp_108 : decode cX9_pairUp 108 = .ok (.ior, 1) := by decide +kernel
theorem dX9_pairUp_109 : decode cX9_pairUp 109 = .ok (.iconst 1, 1) := by decide +kernel
theorem dX9_pairUp_110 : decode cX9_pairUp 110 = .ok (.iload 5, 2) := by decide +kernel
theorem dX9_pairUp_112 : decode cX9_pairUp 112 = .ok (.ishl, 1) := by decide +kernel
theorem dX9_pairUp_113 : decode cX9_pairUp 113 = .ok (.ior, 1) := by decide +kernel
theorem dX9_pairUp_114 : decode cX9_pairUp 114 = .ok (.lload_n 2, 1) := by decide +kernel
theorem dX9_pairUp_115 : decode cX9_pairUp 115 = .ok (.aload_n 0, 1) := by decide +kernel
theorem dX9_pairUp_116 : decode cX9_pairUp 116 = .ok (.getfield 9, 3) := by decide +kernel
theorem dX9_pairUp_119 : decode cX9_pairUp 119 = .ok (.iload 4, 2) := by decide +kernel
theorem dX9_pairUp_121 : decode cX9_pairUp 121 = .ok (.bipush 6, 2) := by decide +kernel
theorem dX9_pairUp_123 : decode cX9_pairUp 123 = .ok (.imul, 1) := by decide +kernel
theorem dX9_pairUp_124 : decode cX9_pairUp 124 = .ok (.iload 5, 2) := by decide +kernel
theorem dX9_pairUp_126 : decode cX9_pairUp 126 = .ok (.iadd, 1) := by decide +kernel
theorem dX9_pairUp_127 : decode cX9_pairUp 127 = .ok (.laload, 1) := by decide +kernel
theorem dX9_pairUp_128 : decode cX9_pairUp 128 = .ok (.ladd, 1) := by decide +kernel
theorem dX9_pairUp_129 : decode cX9_pairUp 129 = .ok (.invokevirtual 54, 3) := by decide +kernel
theorem dX9_pairUp_132 : decode cX9_pairUp 132 = .ok (.iinc 5 1, 3) := by decide +kernel
theorem dX9_pairUp_135 : decode cX9_pairUp 135 = .ok (.goto (-69), 3) := by decide +kernel
theorem dX9_pairUp_138 : decode cX9_pairUp 138 = .ok (.return_, 1) := by decide +kernel
def fX9_pairUp_L3 (rc : eg_H → Nat → Int32 → Int64 → Option (eg_H)) : Nat → eg_H → Nat → Int32 → Int64 → Int32 → Option (Nat × Int32 × Int64 × Int32 × eg_H)
  | 0, _, _, _, _, _ => none
  | n + 1, h, l0, l1, l2, l4 =>
    (eg_gI h 9 7 l0).bind fun v1 =>
    if v1 ≤ l4 then
      (some (l0, l1, l2, l4, h))
    else
      if ((l1 >>> (l4 &&& 31)) &&& (1 : Int32)) = (1 : Int32) then
        (fX9_pairUp_L3 rc n h l0 l1 l2 (l4 + (1 : Int32)))
      else
        some (l0, l1, l2, l4, h)
set_option maxRecDepth 20000 in
theorem fX9_pairUp_L3_ok {rc : eg_H → Nat → Int32 → Int64 → Option (eg_H)} {dr : Nat} (hdr : 1 ≤ dr) (hrc : ∀ (h : eg_H) (a0 : Nat) (a1 : Int32) (a2 : Int64) (hE : eg_H), rc h a0 a1 a2 = some hE → eg_Met yX9_pairUp cX9_pairUp 6 none dr [.ref a0, .int a1, .long a2] h none hE) {h0 : eg_H} {Z : eg_C → State → Prop} {N S : Nat} : ∀ (n : Nat) (h : eg_H) (l0 : Nat) (l1 : Int32) (l2 : Int64) (l4 : Int32) (eE : Nat × Int32 × Int64 × Int32 × eg_H), fX9_pairUp_L3 rc n h l0 l1 l2 l4 = some eE → (hk0 : ∀ (l0 : Nat) (l1 : Int32) (l2 : Int64) (l4 : Int32) (h : eg_H), eE = (l0, l1, l2, l4, h) → eg_AW (RX9, cX9_pairUp, 6, dr + 1, none, "pairUp", none) Z N S h0 28 [(0, .ref l0), (1, .int l1), (2, .long l2), (4, .int l4)] [] h) → eg_AW (RX9, cX9_pairUp, 6, dr + 1, none, "pairUp", none) Z N S h0 3 [(0, .ref l0), (1, .int l1), (2, .long l2), (4, .int l4)] [] h := by
  intro n
  induction n with
  | zero => intro h l0 l1 l2 l4 eE hF; exact absurd hF (by intro q; cases q)
  | succ n ih =>
    intro h l0 l1 l2 l4 eE hF hk0
    have hrec := fun (h' : eg_H) (l0 : Nat) (l1 : Int32) (l2 : Int64) (l4 : Int32) hq => ih h' l0 l1 l2 l4 eE hq hk0
    refine eg_iload (i := 4) 3 dX9_pairUp_3 rfl ?_
    refine eg_aload_n (i := 0) 0 dX9_pairUp_5 rfl rfl ?_
    replace hF := eg_bind hF; obtain ⟨v1, e2, hF⟩ := hF
    refine eg_getI dX9_pairUp_6 e2 (Nat.le_of_ble_eq_true rfl) (Nat.le_of_ble_eq_true rfl) rfl ew_325 ?_
    refine eg_ic_ge 28 dX9_pairUp_9 rfl (fun c3 => ?_) (fun c3 => ?_)
    · replace hF := eg_it c3 hF
      exact (hk0 l0 l1 l2 l4 h (Option.some.inj hF).symm)
    · replace hF := eg_if c3 hF
      refine eg_iload_n (i := 1) 1 dX9_pairUp_12 rfl rfl ?_
      refine eg_iload (i := 4) 3 dX9_pairUp_13 rfl ?_
      refine eg_ishr dX9_pairUp_15 ?_
      refine eg_iconst (v := (1 : Int32)) dX9_pairUp_16 (by decide) ?_
      refine eg_iand dX9_pairUp_17 ?_
      refine eg_iconst (v := (1 : Int32)) dX9_pairUp_18 (by decide) ?_
      refine eg_ic_ne 28 dX9_pairUp_19 rfl (fun c4 => ?_) (fun c4 => ?_)
      · replace hF := eg_it c4 hF
        refine eg_iinc (i := 4) (v := (l4 + (1 : Int32))) 3 [(4, .int (l4 + (1 : Int32))), (0, .ref l0), (1, .int l1), (2, .long l2)] dX9_pairUp_22 rfl rfl (Nat.le_of_ble_eq_true rfl) rfl ?_
        refine eg_goto 3 dX9_pairUp_25 rfl ?_
        exact eg_sub [1, 2, 3, 0] [(0, .ref l0), (1, .int l1), (2, .long l2), (4, .int (l4 + (1 : Int32)))] rfl (hrec h l0 l1 l2 (l4 + (1 : Int32)) hF)
      · replace hF := eg_if c4 hF
        exact (hk0 l0 l1 l2 l4 h (Option.some.inj hF).symm)
def fX9_pairUp_L66 (rc : eg_H → Nat → Int32 → Int64 → Option (eg_H)) : Nat → eg_H → Nat → Int32 → Int64 → Int32 → Int32 → Option (eg_H)
  | 0, _, _, _, _, _, _ => none
  | n + 1, h, l0, l1, l2, l4, l5 =>
    (eg_gI h 9 7 l0).bind fun v1 =>
    if v1 ≤ l5 then
      (some h)
    else
      if ((l1 >>> (l5 &&& 31)) &&& (1 : Int32)) = 0 then
        ((eg_gR h 9 1 l0).bind fun p5 =>
        (eg_wI h 100 p5 l4 l5).bind fun h7 =>
        (eg_gR h7 9 1 l0).bind fun p9 =>
        (eg_wI h7 100 p9 l5 l4).bind fun h11 =>
        (eg_gR h11 9 0 l0).bind fun p13 =>
        (eg_aL h11 p13 ((l4 * (6 : Int32)) + l5)).bind fun v15 =>
        if eg_isO h11 9 l0 then (
        (rc h11 l0 ((l1 ||| ((1 : Int32) <<< (l4 &&& 31))) ||| ((1 : Int32) <<< (l5 &&& 31))) (l2 + v15)).bind fun h17 =>
        fX9_pairUp_L66 rc n h17 l0 l1 l2 l4 (l5 + (1 : Int32))) else none)
      else
        fX9_pairUp_L66 rc n h l0 l1 l2 l4 (l5 + (1 : Int32))
set_option maxRecDepth 20000 in
theorem fX9_pairUp_L66_ok {rc : eg_H → Nat → Int32 → Int64 → Option (eg_H)} {dr : Nat} (hdr : 1 ≤ dr) (hrc : ∀ (h : eg_H) (a0 : Nat) (a1 : Int32) (a2 : Int64) (hE : eg_H), rc h a0 a1 a2 = some hE → eg_Met yX9_pairUp cX9_pairUp 6 none dr [.ref a0, .int a1, .long a2] h none hE) {h0 : eg_H} {Z : eg_C → State → Prop} {N S : Nat} : ∀ (n : Nat) (h : eg_H) (l0 : Nat) (l1 : Int32) (l2 : Int64) (l4 : Int32) (l5 : Int32) (eE : eg_H), fX9_pairUp_L66 rc n h l0 l1 l2 l4 l5 = some eE → (hk0 : ∀  (h : eg_H), eE = h → eg_AW (RX9, cX9_pairUp, 6, dr + 1, none, "pairUp", none) Z N S h0 138 [] [] h) → eg_AW (RX9, cX9_pairUp, 6, dr + 1, none, "pairUp", none) Z N S h0 66 [(0, .ref l0), (1, .int l1), (2, .long l2), (4, .int l4), (5, .int l5)] [] h := by
  intro n
  induction n with
  | zero => intro h l0 l1 l2 l4 l5 eE hF; exact absurd hF (by intro q; cases q)
  | succ n ih =>
    intro h l0 l1 l2 l4 l5 eE hF hk0
    have hrec := fun (h' : eg_H) (l0 : Nat) (l1 : Int32) (l2 : Int64) (l4 : Int32) (l5 : Int32) hq => ih h' l0 l1 l2 l4 l5 eE hq hk0
    refine eg_iload (i := 5) 4 dX9_pairUp_66 rfl ?_
    refine eg_aload_n (i := 0) 0 dX9_pairUp_68 rfl rfl ?_
    replace hF := eg_bind hF; obtain ⟨v1, e2, hF⟩ := hF
    refine eg_getI dX9_pairUp_69 e2 (Nat.le_of_ble_eq_true rfl) (Nat.le_of_ble_eq_true rfl) rfl ew_325 ?_
    refine eg_ic_ge 138 dX9_pairUp_72 rfl (fun c3 => ?_) (fun c3 => ?_)
    · replace hF := eg_it c3 hF
      exact eg_sub [] [] rfl (hk0 h (Option.some.inj hF).symm)
    · replace hF := eg_if c3 hF
      refine eg_iload_n (i := 1) 1 dX9_pairUp_75 rfl rfl ?_
      refine eg_iload (i := 5) 4 dX9_pairUp_76 rfl ?_
      refine eg_ishr dX9_pairUp_78 ?_
      refine eg_iconst (v := (1 : Int32)) dX9_pairUp_79 (by decide) ?_
      refine eg_iand dX9_pairUp_80 ?_
      refine eg_if_ne 132 dX9_pairUp_81 rfl (fun c4 => ?_) (fun c4 => ?_)
      · replace hF := eg_it c4 hF
        refine eg_aload_n (i := 0) 0 dX9_pairUp_84 rfl rfl ?_
        replace hF := eg_bind hF; obtain ⟨p5, e6, hF⟩ := hF
        refine eg_getR dX9_pairUp_85 e6 (Nat.le_of_ble_eq_true rfl) (Nat.le_of_ble_eq_true rfl) rfl ew_319 ?_
        refine eg_iload (i := 4) 3 dX9_pairUp_88 rfl ?_
        refine eg_iload (i := 5) 4 dX9_pairUp_90 rfl ?_
        replace hF := eg_bind hF; obtain ⟨h7, e8, hF⟩ := hF
        refine eg_iast dX9_pairUp_92 e8 ?_
        refine eg_aload_n (i := 0) 0 dX9_pairUp_93 rfl rfl ?_
        replace hF := eg_bind hF; obtain ⟨p9, e10, hF⟩ := hF
        refine eg_getR dX9_pairUp_94 e10 (Nat.le_of_ble_eq_true rfl) (Nat.le_of_ble_eq_true rfl) rfl ew_319 ?_
        refine eg_iload (i := 5) 4 dX9_pairUp_97 rfl ?_
        refine eg_iload (i := 4) 3 dX9_pairUp_99 rfl ?_
        replace hF := eg_bind hF; obtain ⟨h11, e12, hF⟩ := hF
        refine eg_iast dX9_pairUp_101 e12 ?_
        refine eg_aload_n (i := 0) 0 dX9_pairUp_102 rfl rfl ?_
        refine eg_iload_n (i := 1) 1 dX9_pairUp_103 rfl rfl ?_
        refine eg_iconst (v := (1 : Int32)) dX9_pairUp_104 (by decide) ?_
        refine eg_iload (i := 4) 3 dX9_pairUp_105 rfl ?_
        refine eg_ishl dX9_pairUp_107 ?_
        refine eg_ior dX9_pairUp_108 ?_
        refine eg_iconst (v := (1 : Int32)) dX9_pairUp_109 (by decide) ?_
        refine eg_iload (i := 5) 4 dX9_pairUp_110 rfl ?_
        refine eg_ishl dX9_pairUp_112 ?_
        refine eg_ior dX9_pairUp_113 ?_
        refine eg_lload_n (i := 2) 2 dX9_pairUp_114 rfl rfl ?_
        refine eg_aload_n (i := 0) 0 dX9_pairUp_115 rfl rfl ?_
        replace hF := eg_bind hF; obtain ⟨p13, e14, hF⟩ := hF
        refine eg_getR dX9_pairUp_116 e14 (Nat.le_of_ble_eq_true rfl) (Nat.le_of_ble_eq_true rfl) rfl ew_318 ?_
        refine eg_iload (i := 4) 3 dX9_pairUp_119 rfl ?_
        refine eg_bipush (v := (6 : Int32)) dX9_pairUp_121 (by decide) ?_
        refine eg_imul dX9_pairUp_123 ?_
        refine eg_iload (i := 5) 4 dX9_pairUp_124 rfl ?_
        refine eg_iadd dX9_pairUp_126 ?_
        replace hF := eg_bind hF; obtain ⟨v15, e16, hF⟩ := hF
        refine eg_lald dX9_pairUp_127 e16 ?_
        refine eg_ladd dX9_pairUp_128 ?_
        replace hF := eg_ifn hF; obtain ⟨c19, hF⟩ := hF
        replace hF := eg_bind hF; obtain ⟨h17, e18, hF⟩ := hF
        refine eg_callV (c := 9) (n := 2) [.int ((l1 ||| ((1 : Int32) <<< (l4 &&& 31))) ||| ((1 : Int32) <<< (l5 &&& 31))), .long (l2 + v15)] dX9_pairUp_129 (hrc _ _ _ _ _ e18) rfl c19 (Nat.le_of_ble_eq_true rfl) rfl ew_1082 ew_1084 ew_33 ew_109 ew_1085 hy_X9_pairUp rfl (by have := eg_D_eq; omega) (Nat.le_of_ble_eq_true rfl) (Nat.le_of_ble_eq_true rfl) ?_
        refine eg_iinc (i := 5) (v := (l5 + (1 : Int32))) 4 [(5, .int (l5 + (1 : Int32))), (0, .ref l0), (1, .int l1), (2, .long l2), (4, .int l4)] dX9_pairUp_132 rfl rfl (Nat.le_of_ble_eq_true rfl) rfl ?_
        refine eg_goto 66 dX9_pairUp_135 rfl ?_
        exact eg_sub [1, 2, 3, 4, 0] [(0, .ref l0), (1, .int l1), (2, .long l2), (4, .int l4), (5, .int (l5 + (1 : Int32)))] rfl (hrec h17 l0 l1 l2 l4 (l5 + (1 : Int32)) hF)
      · replace hF := eg_if c4 hF
        refine eg_iinc (i := 5) (v := (l5 + (1 : Int32))) 4 [(5, .int (l5 + (1 : Int32))), (0, .ref l0), (1, .int l1), (2, .long l2), (4, .int l4)] dX9_pairUp_132 rfl rfl (Nat.le_of_ble_eq_true rfl) rfl ?_
        refine eg_goto 66 dX9_pairUp_135 rfl ?_
        exact eg_sub [1, 2, 3, 4, 0] [(0, .ref l0), (1, .int l1), (2, .long l2), (4, .int l4), (5, .int (l5 + (1 : Int32)))] rfl (hrec h l0 l1 l2 l4 (l5 + (1 : Int32)) hF)
def fX9_pairUp_j28 (rc : eg_H → Nat → Int32 → Int64 → Option (eg_H)) (h : eg_H) (l0 : Nat) (l1 : Int32) (l2 : Int64) (l4 : Int32) : Option (eg_H) :=
  (eg_gI h 9 7 l0).bind fun v1 =>
  if l4 < v1 then
    ((some ((l4 + (1 : Int32)))).bind fun v4 =>
    (fX9_pairUp_L66 rc eg_F h l0 l1 l2 l4 v4).bind fun e =>
    match e with
    | h8 =>
      some h8)
  else
    (eg_gL h 9 11 l0).bind fun v10 =>
    if l2 ≤ v10 then
      (some h)
    else
      (eg_pL h 9 11 l0 l2).bind fun h13 =>
      (fX9_partnerDigits h13 l0).bind fun ⟨v16, h15⟩ =>
      (eg_pI h15 9 9 l0 v16).bind fun h18 =>
      some h18
set_option maxRecDepth 20000 in
theorem fX9_pairUp_j28_ok {rc : eg_H → Nat → Int32 → Int64 → Option (eg_H)} {dr : Nat} (hdr : 1 ≤ dr) (hrc : ∀ (h : eg_H) (a0 : Nat) (a1 : Int32) (a2 : Int64) (hE : eg_H), rc h a0 a1 a2 = some hE → eg_Met yX9_pairUp cX9_pairUp 6 none dr [.ref a0, .int a1, .long a2] h none hE) {h0 : eg_H} (h : eg_H) (l0 : Nat) (l1 : Int32) (l2 : Int64) (l4 : Int32) {hE : eg_H} (hF : fX9_pairUp_j28 rc h l0 l1 l2 l4 = some hE) : eg_AW (RX9, cX9_pairUp, 6, dr + 1, none, "pairUp", none) (eg_Zm none hE h0) (eg_nc hE) (eg_ns hE) h0 28 [(0, .ref l0), (1, .int l1), (2, .long l2), (4, .int l4)] [] h := by
  refine eg_iload (i := 4) 3 dX9_pairUp_28 rfl ?_
  refine eg_aload_n (i := 0) 0 dX9_pairUp_30 rfl rfl ?_
  replace hF := eg_bind hF; obtain ⟨v1, e2, hF⟩ := hF
  refine eg_getI dX9_pairUp_31 e2 (Nat.le_of_ble_eq_true rfl) (Nat.le_of_ble_eq_true rfl) rfl ew_325 ?_
  refine eg_ic_lt 60 dX9_pairUp_34 rfl (fun c3 => ?_) (fun c3 => ?_)
  · replace hF := eg_it c3 hF
    refine eg_iload (i := 4) 3 dX9_pairUp_60 rfl ?_
    refine eg_iconst (v := (1 : Int32)) dX9_pairUp_62 (by decide) ?_
    refine eg_iadd dX9_pairUp_63 ?_
    replace hF := eg_bind hF; obtain ⟨v4, e5, hF⟩ := hF
    replace e5 := Option.some.inj e5
    rw [e5]
    refine eg_istore (i := 5) [(5, .int v4), (0, .ref l0), (1, .int l1), (2, .long l2), (4, .int l4)] dX9_pairUp_64 (Nat.le_of_ble_eq_true rfl) rfl ?_
    replace hF := eg_bind hF; obtain ⟨x7, e6, hF⟩ := hF
    refine eg_sub [1, 2, 3, 4, 0] [(0, .ref l0), (1, .int l1), (2, .long l2), (4, .int l4), (5, .int v4)] rfl (fX9_pairUp_L66_ok hdr hrc eg_F h l0 l1 l2 l4 v4 x7 e6 ?_)
    · intro h8 e9
      subst e9
      exact eg_vretE dX9_pairUp_138 hF
  · replace hF := eg_if c3 hF
    refine eg_lload_n (i := 2) 2 dX9_pairUp_37 rfl rfl ?_
    refine eg_aload_n (i := 0) 0 dX9_pairUp_38 rfl rfl ?_
    replace hF := eg_bind hF; obtain ⟨v10, e11, hF⟩ := hF
    refine eg_getL dX9_pairUp_39 e11 (Nat.le_of_ble_eq_true rfl) (Nat.le_of_ble_eq_true rfl) rfl ew_329 ?_
    refine eg_lc_le 59 dX9_pairUp_42 dX9_pairUp_43 rfl (fun c12 => ?_) (fun c12 => ?_)
    · replace hF := eg_it c12 hF
      exact eg_vretE dX9_pairUp_59 hF
    · replace hF := eg_if c12 hF
      refine eg_aload_n (i := 0) 0 dX9_pairUp_46 rfl rfl ?_
      refine eg_lload_n (i := 2) 2 dX9_pairUp_47 rfl rfl ?_
      replace hF := eg_bind hF; obtain ⟨h13, e14, hF⟩ := hF
      refine eg_putL dX9_pairUp_48 e14 (Nat.le_of_ble_eq_true rfl) (Nat.le_of_ble_eq_true rfl) rfl ew_329 rfl ?_
      refine eg_aload_n (i := 0) 0 dX9_pairUp_51 rfl rfl ?_
      refine eg_aload_n (i := 0) 0 dX9_pairUp_52 rfl rfl ?_
      replace hF := eg_bind hF; obtain ⟨⟨v16, h15⟩, e17, hF⟩ := hF
      refine eg_callV (c := 9) (n := 0) [] dX9_pairUp_53 (mX9_partnerDigits e17) rfl (fX9_partnerDigits_O e17) (Nat.le_of_ble_eq_true rfl) rfl ew_1086 ew_1088 ew_34 ew_109 ew_1089 hy_X9_partnerDigits rfl (by have := eg_D_eq; omega) (Nat.le_of_ble_eq_true rfl) (Nat.le_of_ble_eq_true rfl) ?_
      replace hF := eg_bind hF; obtain ⟨h18, e19, hF⟩ := hF
      refine eg_putI dX9_pairUp_56 e19 (Nat.le_of_ble_eq_true rfl) (Nat.le_of_ble_eq_true rfl) rfl ew_327 (Or.inl rfl) ?_
      exact eg_vretE dX9_pairUp_59 hF
def fX9_pairUpB (rc : eg_H → Nat → Int32 → Int64 → Option (eg_H)) (h : eg_H) (l0 : Nat) (l1 : Int32) (l2 : Int64) : Option (eg_H) :=
  if eg_isO h 9 l0 then (
    (fX9_pairUp_L3 rc eg_F h l0 l1 l2 (0 : Int32)).bind fun e =>
    match e with
    | (p3, v4, v5, v6, h7) =>
      fX9_pairUp_j28 rc h7 p3 v4 v5 v6) else none
theorem fX9_pairUpB_O {rc : eg_H → Nat → Int32 → Int64 → Option (eg_H)} {h : eg_H} {l0 : Nat} {l1 : Int32} {l2 : Int64} {hE : eg_H} (hF : fX9_pairUpB rc h l0 l1 l2 = some hE) : eg_isO h 9 l0 := (eg_ifn hF).1
set_option maxRecDepth 20000 in
theorem mX9_pairUpB {rc : eg_H → Nat → Int32 → Int64 → Option (eg_H)} {dr : Nat} (hdr : 1 ≤ dr) (hrc : ∀ (h : eg_H) (a0 : Nat) (a1 : Int32) (a2 : Int64) (hE : eg_H), rc h a0 a1 a2 = some hE → eg_Met yX9_pairUp cX9_pairUp 6 none dr [.ref a0, .int a1, .long a2] h none hE) {h : eg_H} {l0 : Nat} {l1 : Int32} {l2 : Int64} {hE : eg_H} (hF : fX9_pairUpB rc h l0 l1 l2 = some hE) : eg_Met yX9_pairUp cX9_pairUp 6 none (dr + 1) [.ref l0, .int l1, .long l2] h none hE := by
  refine eg_enter rfl (Nat.le_of_ble_eq_true rfl) ?_
  show eg_AW (RX9, cX9_pairUp, 6, dr + 1, none, "pairUp", none) (eg_Zm none hE h) (eg_nc hE) (eg_ns hE) h 0 [(0, .ref l0), (1, .int l1), (2, .long l2)] [] h
  replace hF := (eg_ifn hF).2
  refine eg_iconst (v := (0 : Int32)) dX9_pairUp_0 (by decide) ?_
  refine eg_istore (i := 4) [(4, .int (0 : Int32)), (0, .ref l0), (1, .int l1), (2, .long l2)] dX9_pairUp_1 (Nat.le_of_ble_eq_true rfl) rfl ?_
  replace hF := eg_bind hF; obtain ⟨x2, e1, hF⟩ := hF
  refine eg_sub [1, 2, 3, 0] [(0, .ref l0), (1, .int l1), (2, .long l2), (4, .int (0 : Int32))] rfl (fX9_pairUp_L3_ok hdr hrc eg_F h l0 l1 l2 (0 : Int32) x2 e1 ?_)
  · intro p3 v4 v5 v6 h7 e8
    subst e8
    exact (fX9_pairUp_j28_ok hdr hrc h7 p3 v4 v5 v6 hF)
def fX9_pairUp : Nat → eg_H → Nat → Int32 → Int64 → Option (eg_H)
  | 0 => fun _ _ _ _ => none
  | n + 1 => fX9_pairUpB (fX9_pairUp n)
theorem fX9_pairUp_O {n : Nat} {h : eg_H} {l0 : Nat} {l1 : Int32} {l2 : Int64} {hE : eg_H} (hF : fX9_pairUp n h l0 l1 l2 = some hE) : eg_isO h 9 l0 := by
  cases n with
  | zero => cases hF
  | succ n => exact fX9_pairUpB_O (rc := fX9_pairUp n) hF
theorem mX9_pairUp_x : ∀ (n : Nat) (h : eg_H) (l0 : Nat) (l1 : Int32) (l2 : Int64) (hE : eg_H), fX9_pairUp n h l0 l1 l2 = some hE → eg_Met yX9_pairUp cX9_pairUp 6 none (1 + 1 * n) [.ref l0, .int l1, .long l2] h none hE := by
  intro n
  induction n with
  | zero => intro h l0 l1 l2 hE hF; cases hF
  | succ n ih =>
    intro h l0 l1 l2 hE hF
    exact mX9_pairUpB (rc := fX9_pairUp n) (dr := 1 + 1 * n) (by omega) ih hF
theorem mX9_pairUp (n : Nat) {h : eg_H} {l0 : Nat} {l1 : Int32} {l2 : Int64} {hE : eg_H} (hF : fX9_pairUp n h l0 l1 l2 = some hE) : eg_Met yX9_pairUp cX9_pairUp 6 none (1 + 1 * n) [.ref l0, .int l1, .long l2] h none hE := mX9_pairUp_x n h l0 l1 l2 hE hF
theorem dX9_pairAll_0 : decode cX9_pairAll 0 = .ok (.aload_n 0, 1) := by decide +kernel
theorem dX9_pairAll_1 : decode cX9_pairAll 1 = .ok (.iload_n 1, 1) := by decide +kernel
theorem dX9_pairAll_2 : decode cX9_pairAll 2 = .ok (.bipush 6, 2) := by decide +kernel
theorem dX9_pairAll_4 : decode cX9_pairAll 4 = .ok (.if_icmp .ge 7, 3) := by decide +kernel
theorem dX9_pairAll_7 : decode cX9_pairAll 7 = .ok (.iload_n 1, 1) := by decide +kernel
theorem dX9_pairAll_8 : decode cX9_pairAll 8 = .ok (.goto 5, 3) := by decide +kernel
theorem dX9_pairAll_11 : decode cX9_pairAll 11 = .ok (.bipush 6, 2) := by decide +kernel
theorem dX9_pairAll_13 : decode cX9_pairAll 13 = .ok (.putfield 35, 3) := by decide +kernel
theorem dX9_pairAll_16 : decode cX9_pairAll 16 = .ok (.aload_n 0, 1) := by decide +kernel
theorem dX9_pairAll_17 : decode cX9_pairAll 17 = .ok (.ldc2_w 52, 3) := by decide +kernel
theorem dX9_pairAll_20 : decode cX9_pairAll 20 = .ok (.putfield 48, 3) := by decide +kernel
theorem dX9_pairAll_23 : decode cX9_pairAll 23 = .ok (.aload_n 0, 1) := by decide +kernel
theorem dX9_pairAll_24 : decode cX9_pairAll 24 = .ok (.iconst 0, 1) := by decide +kernel
theorem dX9_pairAll_25 : decode cX9_pairAll 25 = .ok (.putfield 42, 3) := by decide +kernel
theorem dX9_pairAll_28 : decode cX9_pairAll 28 = .ok (.aload_n 0, 1) := by decide +kernel
theorem dX9_pairAll_29 : decode cX9_pairAll 29 = .ok (.iconst 0, 1) := by decide +kernel
theorem dX9_pairAll_30 : decode cX9_pairAll 30 = .ok (.lconst 0, 1) := by decide +kernel
theorem dX9_pairAll_31 : decode cX9_pairAll 31 = .ok (.invokevirtual 54, 3) := by decide +kernel
theorem dX9_pairAll_34 : decode cX9_pairAll 34 = .ok (.return_, 1) := by decide +kernel
def fX9_pairAll_j13 (h : eg_H) (l0 : Nat) (s0 : Nat) (s1 : Int32) : Option (eg_H) :=
  (eg_pI h 9 7 s0 s1).bind fun h1 =>
  (eg_pL h1 9 11 l0 (-1 : Int64)).bind fun h3 =>
  (eg_pI h3 9 9 l0 (0 : Int32)).bind fun h5 =>
  (fX9_pairUp eg_D h5 l0 (0 : Int32) (0 : Int64)).bind fun h7 =>
  some h7
set_option maxRecDepth 20000 in
theorem fX9_pairAll_j13_ok {h0 : eg_H} (h : eg_H) (l0 : Nat) (s0 : Nat) (s1 : Int32) {hE : eg_H} (hF : fX9_pairAll_j13 h l0 s0 s1 = some hE) : eg_AW (RX9, cX9_pairAll, 2, 66, none, "pairAll", none) (eg_Zm none hE h0) (eg_nc hE) (eg_ns hE) h0 13 [(0, .ref l0)] [.int s1, .ref s0] h := by
  replace hF := eg_bind hF; obtain ⟨h1, e2, hF⟩ := hF
  refine eg_putI dX9_pairAll_13 e2 (Nat.le_of_ble_eq_true rfl) (Nat.le_of_ble_eq_true rfl) rfl ew_325 (Or.inl rfl) ?_
  refine eg_aload_n (i := 0) 0 dX9_pairAll_16 rfl rfl ?_
  refine eg_ldc2 (v := (-1 : Int64)) dX9_pairAll_17 ew_1081 ?_
  replace hF := eg_bind hF; obtain ⟨h3, e4, hF⟩ := hF
  refine eg_putL dX9_pairAll_20 e4 (Nat.le_of_ble_eq_true rfl) (Nat.le_of_ble_eq_true rfl) rfl ew_329 rfl ?_
  refine eg_aload_n (i := 0) 0 dX9_pairAll_23 rfl rfl ?_
  refine eg_iconst (v := (0 : Int32)) dX9_pairAll_24 (by decide) ?_
  replace hF := eg_bind hF; obtain ⟨h5, e6, hF⟩ := hF
  refine eg_putI dX9_pairAll_25 e6 (Nat.le_of_ble_eq_true rfl) (Nat.le_of_ble_eq_true rfl) rfl ew_327 (Or.inl rfl) ?_
  refine eg_aload_n (i := 0) 0 dX9_pairAll_28 rfl rfl ?_
  refine eg_iconst (v := (0 : Int32)) dX9_pairAll_29 (by decide) ?_
  refine eg_lconst (v := (0 : Int64)) dX9_pairAll_30 (by decide) ?_
  replace hF := eg_bind hF; obtain ⟨h7, e8, hF⟩ := hF
  refine eg_callV (c := 9) (n := 2) [.int (0 : Int32), .long (0 : Int64)] dX9_pairAll_31 (mX9_pairUp eg_D e8) rfl (fX9_pairUp_O e8) (Nat.le_of_ble_eq_true rfl) rfl ew_1082 ew_1084 ew_33 ew_109 ew_1085 hy_X9_pairUp rfl (Nat.le_of_ble_eq_true rfl) (Nat.le_of_ble_eq_true rfl) (Nat.le_of_ble_eq_true rfl) ?_
  exact eg_vretE dX9_pairAll_34 hF
def fX9_pairAll (h : eg_H) (l0 : Nat) (l1 : Int32) : Option (eg_H) :=
  if eg_isO h 9 l0 then (
    if (6 : Int32) ≤ l1 then
      (fX9_pairAll_j13 h l0 l0 (6 : Int32))
    else
      fX9_pairAll_j13 h l0 l0 l1) else none
theorem fX9_pairAll_O {h : eg_H} {l0 : Nat} {l1 : Int32} {hE : eg_H} (hF : fX9_pairAll h l0 l1 = some hE) : eg_isO h 9 l0 := (eg_ifn hF).1
set_option maxRecDepth 20000 in
theorem mX9_pairAll {h : eg_H} {l0 : Nat} {l1 : Int32} {hE : eg_H} (hF : fX9_pairAll h l0 l1 = some hE) : eg_Met yX9_pairAll cX9_pairAll 2 none 66 [.ref l0, .int l1] h none hE := by
  refine eg_enter rfl (Nat.le_of_ble_eq_true rfl) ?_
  show eg_AW (RX9, cX9_pairAll, 2, 66, none, "pairAll", none) (eg_Zm none hE h) (eg_nc hE) (eg_ns hE) h 0 [(0, .ref l0), (1, .int l1)] [] h
  replace hF := (eg_ifn hF).2
  refine eg_aload_n (i := 0) 0 dX9_pairAll_0 rfl rfl ?_
  refine eg_iload_n (i := 1) 1 dX9_pairAll_1 rfl rfl ?_
  refine eg_bipush (v := (6 : Int32)) dX9_pairAll_2 (by decide) ?_
  refine eg_ic_ge 11 dX9_pairAll_4 rfl (fun c1 => ?_) (fun c1 => ?_)
  · replace hF := eg_it c1 hF
    refine eg_bipush (v := (6 : Int32)) dX9_pairAll_11 (by decide) ?_
    exact eg_sub [0] [(0, .ref l0)] rfl (fX9_pairAll_j13_ok h l0 l0 (6 : Int32) hF)
  · replace hF := eg_if c1 hF
    refine eg_iload_n (i := 1) 1 dX9_pairAll_7 rfl rfl ?_
    refine eg_goto 13 dX9_pairAll_8 rfl ?_
    exact eg_sub [0] [(0, .ref l0)] rfl (fX9_pairAll_j13_ok h l0 l0 l1 hF)
theorem dX9_aheadOf_0 : decode cX9_aheadOf 0 = .ok (.iload_n 1, 1) := by decide +kernel
theorem dX9_aheadOf_1 : decode cX9_aheadOf 1 = .ok (.ifCond .lt 12, 3) := by decide +kernel
theorem dX9_aheadOf_4 : decode cX9_aheadOf 4 = .ok (.iload_n 1, 1) := by decide +kernel
theorem dX9_aheadOf_5 : decode cX9_aheadOf 5 = .ok (.aload_n 0, 1) := by decide +kernel
theorem dX9_aheadOf_6 : decode cX9_aheadOf 6 = .ok (.getfield 9, 3) := by decide +kernel
theorem dX9_aheadOf_9 : decode cX9_aheadOf 9 = .ok (.arraylength, 1) := by decide +kernel
theorem dX9_aheadOf_10 : decode cX9_aheadOf 10 = .ok (.if_icmp .lt 5, 3) := by decide +kernel
theorem dX9_aheadOf_13 : decode cX9_aheadOf 13 = .ok (.iconst (-1), 1) := by decide +kernel
theorem dX9_aheadOf_14 : decode cX9_aheadOf 14 = .ok (.ireturn, 1) := by decide +kernel
theorem dX9_aheadOf_15 : decode cX9_aheadOf 15 = .ok (.iconst 0, 1) := by decide +kernel
theorem dX9_aheadOf_16 : decode cX9_aheadOf 16 = .ok (.istore_n 3, 1) := by decide +kernel
theorem dX9_aheadOf_17 : decode cX9_aheadOf 17 = .ok (.iconst 0, 1) := by decide +kernel
theorem dX9_aheadOf_18 : decode cX9_aheadOf 18 = .ok (.istore 4, 2) := by decide +kernel
theorem dX9_aheadOf_20 : decode cX9_aheadOf 20 = .ok (.iload 4, 2) := by decide +kernel
theorem dX9_aheadOf_22 : decode cX9_aheadOf 22 = .ok (.iload_n 2, 1) := by decide +kernel
theorem dX9_aheadOf_23 : decode cX9_aheadOf 23 = .ok (.if_icmp .ge 92, 3) := by decide +kernel
theorem dX9_aheadOf_26 : decode cX9_aheadOf 26 = .ok (.iload 4, 2) := by decide +kernel
theorem dX9_aheadOf_28 : decode cX9_aheadOf 28 = .ok (.iconst 1, 1) := by decide +kernel
theorem dX9_aheadOf_29 : decode cX9_aheadOf 29 = .ok (.iadd, 1) := by decide +kernel
theorem dX9_aheadOf_30 : decode cX9_aheadOf 30 = .ok (.istore 5, 2) := by decide +kernel
theorem dX9_aheadOf_32 : decode cX9_aheadOf 32 = .ok (.iload 5, 2) := by decide +kernel
theorem dX9_aheadOf_34 : decode cX9_aheadOf 34 = .ok (.iload_n 2, 1) := by decide +kernel
theorem dX9_aheadOf_35 : decode cX9_aheadOf 35 = .ok (.if_icmp .ge 74, 3) := by decide +kernel
theorem dX9_aheadOf_38 : decode cX9_aheadOf 38 = .ok (.iload 4, 2) := by decide +kernel
theorem dX9_aheadOf_40 : decode cX9_aheadOf 40 = .ok (.bipush 6, 2) := by decide +kernel
theorem dX9_aheadOf_42 : decode cX9_aheadOf 42 = .ok (.imul, 1) := by decide +kernel
theorem dX9_aheadOf_43 : decode cX9_aheadOf 43 = .ok (.iload 5, 2) := by decide +kernel
theorem dX9_aheadOf_45 : decode cX9_aheadOf 45 = .ok (.iadd, 1) := by decide +kernel
theorem dX9_aheadOf_46 : decode cX9_aheadOf 46 = .ok (.istore 6, 2) := by decide +kernel
theorem dX9_aheadOf_48 : decode cX9_aheadOf 48 = .ok (.iload 6, 2) := by decide +kernel
theorem dX9_aheadOf_50 : decode cX9_aheadOf 50 = .ok (.aload_n 0, 1) := by decide +kernel
theorem dX9_aheadOf_51 : decode cX9_aheadOf 51 = .ok (.getfield 9, 3) := by decide +kernel
theorem dX9_aheadOf_54 : decode cX9_aheadOf 54 = .ok (.arraylength, 1) := by decide +kernel
theorem dX9_aheadOf_55 : decode cX9_aheadOf 55 = .ok (.if_icmp .lt 5, 3) := by decide +kernel
theorem dX9_aheadOf_58 : decode cX9_aheadOf 58 = .ok (.iconst (-1), 1) := by decide +kernel
theorem dX9_aheadOf_59 : decode cX9_aheadOf 59 = .ok (.ireturn, 1) := by decide +kernel
theorem dX9_aheadOf_60 : decode cX9_aheadOf 60 = .ok (.aload_n 0, 1) := by decide +kernel
theorem dX9_aheadOf_61 : decode cX9_aheadOf 61 = .ok (.getfield 9, 3) := by decide +kernel
theorem dX9_aheadOf_64 : decode cX9_aheadOf 64 = .ok (.iload 6, 2) := by decide +kernel
theorem dX9_aheadOf_66 : decode cX9_aheadOf 66 = .ok (.laload, 1) := by decide +kernel
theorem dX9_aheadOf_67 : decode cX9_aheadOf 67 = .ok (.aload_n 0, 1) := by decide +kernel
theorem dX9_aheadOf_68 : decode cX9_aheadOf 68 = .ok (.getfield 9, 3) := by decide +kernel
theorem dX9_aheadOf_71 : decode cX9_aheadOf 71 = .ok (.iload_n 1, 1) := by decide +kernel
theorem dX9_aheadOf_72 : decode cX9_aheadOf 72 = .ok (.laload, 1) := by decide +kernel
theorem dX9_aheadOf_73 : decode cX9_aheadOf 73 = .ok (.lcmp, 1) := by decide +kernel
theorem dX9_aheadOf_74 : decode cX9_aheadOf 74 = .ok (.ifCond .gt 26, 3) := by decide +kernel
theorem dX9_aheadOf_77 : decode cX9_aheadOf 77 = .ok (.aload_n 0, 1) := by decide +kernel
theorem dX9_aheadOf_78 : decode cX9_aheadOf 78 = .ok (.getfield 9, 3) := by decide +kernel
theorem dX9_aheadOf_81 : decode cX9_aheadOf 81 = .ok (.iload 6, 2) := by decide +kernel
theorem dX9_aheadOf_83 : decode cX9_aheadOf 83 = .ok (.laload, 1) := by decide +kernel
theorem dX9_aheadOf_84 : decode cX9_aheadOf 84 = .ok (.aload_n 0, 1) := by decide +kernel
theorem dX9_aheadOf_85 : decode cX9_aheadOf 85 = .ok (.getfield 9, 3) := by decide +kernel
theorem dX9_aheadOf_88 : decode cX9_aheadOf 88 = .ok (.iload_n 1, 1) := by decide +kernel
theorem dX9_aheadOf_89 : decode cX9_aheadOf 89 = .ok (.laload, 1) := by decide +kernel
theorem dX9_aheadOf_90 : decode cX9_aheadOf 90 = .ok (.lcmp, 1) := by decide +kernel
theorem dX9_aheadOf_91 : decode cX9_aheadOf 91 = .ok (.ifCond .ne 12, 3) := by decide +kernel
theorem dX9_aheadOf_94 : decode cX9_aheadOf 94 = .ok (.iload 6, 2) := by decide +kernel
theorem dX9_aheadOf_96 : decode cX9_aheadOf 96 = .ok (.iload_n 1, 1) := by decide +kernel
theorem dX9_aheadOf_97 : decode cX9_aheadOf 97 = .ok (.if_icmp .ge 6, 3) := by decide +kernel
theorem dX9_aheadOf_100 : decode cX9_aheadOf 100 = .ok (.iinc 3 1, 3) := by decide +kernel
theorem dX9_aheadOf_103 : decode cX9_aheadOf 103 = .ok (.iinc 5 1, 3) := by decide +kernel
theorem dX9_aheadOf_106 : decode cX9_aheadOf 106 = .ok (.goto (-74), 3) := by decide +kernel
theorem dX9_aheadOf_109 : decode cX9_aheadOf 109 = .ok (.iinc 4 1, 3) := by decide +kernel
theorem dX9_aheadOf_112 : decode cX9_aheadOf 112 = .ok (.goto (-92), 3) := by decide +kernel
theorem dX9_aheadOf_115 : decode cX9_aheadOf 115 = .ok (.iload_n 3, 1) := by decide +kernel
theorem dX9_aheadOf_116 : decode cX9_aheadOf 116 = .ok (.ireturn, 1) := by decide +kernel
def fX9_aheadOf_L32 : Nat → eg_H → Nat → Int32 → Int32 → Int32 → Int32 → Int32 → Option ((Nat × Int32 × Int32 × Int32 × Int32 × eg_H) ⊕ (eg_H))
  | 0, _, _, _, _, _, _, _ => none
  | n + 1, h, l0, l1, l2, l3, l4, l5 =>
    if l2 ≤ l5 then
      (some (.inl (l0, l1, l2, l3, l4, h)))
    else
      (some (((l4 * (6 : Int32)) + l5))).bind fun v2 =>
      (eg_gR h 9 0 l0).bind fun p4 =>
      (eg_al h p4).bind fun v6 =>
      if v2 < v6 then
        ((eg_gR h 9 0 l0).bind fun p9 =>
        (eg_aL h p9 v2).bind fun v11 =>
        (eg_gR h 9 0 l0).bind fun p13 =>
        (eg_aL h p13 l1).bind fun v15 =>
        if v15 < v11 then
          (fX9_aheadOf_L32 n h l0 l1 l2 (l3 + (1 : Int32)) l4 (l5 + (1 : Int32)))
        else
          (eg_gR h 9 0 l0).bind fun p18 =>
          (eg_aL h p18 v2).bind fun v20 =>
          (eg_gR h 9 0 l0).bind fun p22 =>
          (eg_aL h p22 l1).bind fun v24 =>
          if v20 = v24 then
            (if l1 ≤ v2 then
              (fX9_aheadOf_L32 n h l0 l1 l2 l3 l4 (l5 + (1 : Int32)))
            else
              fX9_aheadOf_L32 n h l0 l1 l2 (l3 + (1 : Int32)) l4 (l5 + (1 : Int32)))
          else
            fX9_aheadOf_L32 n h l0 l1 l2 l3 l4 (l5 + (1 : Int32)))
      else
        some (.inr (h))
set_option maxRecDepth 20000 in
theorem fX9_aheadOf_L32_ok {h0 : eg_H} {Z : eg_C → State → Prop} {N S : Nat} : ∀ (n : Nat) (h : eg_H) (l0 : Nat) (l1 : Int32) (l2 : Int32) (l3 : Int32) (l4 : Int32) (l5 : Int32) (eE : (Nat × Int32 × Int32 × Int32 × Int32 × eg_H) ⊕ (eg_H)), fX9_aheadOf_L32 n h l0 l1 l2 l3 l4 l5 = some eE → (hk0 : ∀ (l0 : Nat) (l1 : Int32) (l2 : Int32) (l3 : Int32) (l4 : Int32) (h : eg_H), eE = (.inl (l0, l1, l2, l3, l4, h)) → eg_AW (RX9, cX9_aheadOf, 7, 1, none, "aheadOf", (some .int)) Z N S h0 109 [(0, .ref l0), (1, .int l1), (2, .int l2), (3, .int l3), (4, .int l4)] [] h) → (hk1 : ∀  (h : eg_H), eE = (.inr (h)) → eg_AW (RX9, cX9_aheadOf, 7, 1, none, "aheadOf", (some .int)) Z N S h0 58 [] [] h) → eg_AW (RX9, cX9_aheadOf, 7, 1, none, "aheadOf", (some .int)) Z N S h0 32 [(0, .ref l0), (1, .int l1), (2, .int l2), (3, .int l3), (4, .int l4), (5, .int l5)] [] h := by
  intro n
  induction n with
  | zero => intro h l0 l1 l2 l3 l4 l5 eE hF; exact absurd hF (by intro q; cases q)
  | succ n ih =>
    intro h l0 l1 l2 l3 l4 l5 eE hF hk0 hk1
    have hrec := fun (h' : eg_H) (l0 : Nat) (l1 : Int32) (l2 : Int32) (l3 : Int32) (l4 : Int32) (l5 : Int32) hq => ih h' l0 l1 l2 l3 l4 l5 eE hq hk0 hk1
    refine eg_iload (i := 5) 5 dX9_aheadOf_32 rfl ?_
    refine eg_iload_n (i := 2) 2 dX9_aheadOf_34 rfl rfl ?_
    refine eg_ic_ge 109 dX9_aheadOf_35 rfl (fun c1 => ?_) (fun c1 => ?_)
    · replace hF := eg_it c1 hF
      exact eg_sub [0, 1, 2, 3, 4] [(0, .ref l0), (1, .int l1), (2, .int l2), (3, .int l3), (4, .int l4)] rfl (hk0 l0 l1 l2 l3 l4 h (Option.some.inj hF).symm)
    · replace hF := eg_if c1 hF
      refine eg_iload (i := 4) 4 dX9_aheadOf_38 rfl ?_
      refine eg_bipush (v := (6 : Int32)) dX9_aheadOf_40 (by decide) ?_
      refine eg_imul dX9_aheadOf_42 ?_
      refine eg_iload (i := 5) 5 dX9_aheadOf_43 rfl ?_
      refine eg_iadd dX9_aheadOf_45 ?_
      replace hF := eg_bind hF; obtain ⟨v2, e3, hF⟩ := hF
      replace e3 := Option.some.inj e3
      rw [e3]
      refine eg_istore (i := 6) [(6, .int v2), (0, .ref l0), (1, .int l1), (2, .int l2), (3, .int l3), (4, .int l4), (5, .int l5)] dX9_aheadOf_46 (Nat.le_of_ble_eq_true rfl) rfl ?_
      refine eg_iload (i := 6) 0 dX9_aheadOf_48 rfl ?_
      refine eg_aload_n (i := 0) 1 dX9_aheadOf_50 rfl rfl ?_
      replace hF := eg_bind hF; obtain ⟨p4, e5, hF⟩ := hF
      refine eg_getR dX9_aheadOf_51 e5 (Nat.le_of_ble_eq_true rfl) (Nat.le_of_ble_eq_true rfl) rfl ew_318 ?_
      replace hF := eg_bind hF; obtain ⟨v6, e7, hF⟩ := hF
      refine eg_alen dX9_aheadOf_54 e7 ?_
      refine eg_ic_lt 60 dX9_aheadOf_55 rfl (fun c8 => ?_) (fun c8 => ?_)
      · replace hF := eg_it c8 hF
        refine eg_aload_n (i := 0) 1 dX9_aheadOf_60 rfl rfl ?_
        replace hF := eg_bind hF; obtain ⟨p9, e10, hF⟩ := hF
        refine eg_getR dX9_aheadOf_61 e10 (Nat.le_of_ble_eq_true rfl) (Nat.le_of_ble_eq_true rfl) rfl ew_318 ?_
        refine eg_iload (i := 6) 0 dX9_aheadOf_64 rfl ?_
        replace hF := eg_bind hF; obtain ⟨v11, e12, hF⟩ := hF
        refine eg_lald dX9_aheadOf_66 e12 ?_
        refine eg_aload_n (i := 0) 1 dX9_aheadOf_67 rfl rfl ?_
        replace hF := eg_bind hF; obtain ⟨p13, e14, hF⟩ := hF
        refine eg_getR dX9_aheadOf_68 e14 (Nat.le_of_ble_eq_true rfl) (Nat.le_of_ble_eq_true rfl) rfl ew_318 ?_
        refine eg_iload_n (i := 1) 2 dX9_aheadOf_71 rfl rfl ?_
        replace hF := eg_bind hF; obtain ⟨v15, e16, hF⟩ := hF
        refine eg_lald dX9_aheadOf_72 e16 ?_
        refine eg_lc_gt 100 dX9_aheadOf_73 dX9_aheadOf_74 rfl (fun c17 => ?_) (fun c17 => ?_)
        · replace hF := eg_it c17 hF
          refine eg_iinc (i := 3) (v := (l3 + (1 : Int32))) 4 [(3, .int (l3 + (1 : Int32))), (6, .int v2), (0, .ref l0), (1, .int l1), (2, .int l2), (4, .int l4), (5, .int l5)] dX9_aheadOf_100 rfl rfl (Nat.le_of_ble_eq_true rfl) rfl ?_
          refine eg_iinc (i := 5) (v := (l5 + (1 : Int32))) 6 [(5, .int (l5 + (1 : Int32))), (3, .int (l3 + (1 : Int32))), (6, .int v2), (0, .ref l0), (1, .int l1), (2, .int l2), (4, .int l4)] dX9_aheadOf_103 rfl rfl (Nat.le_of_ble_eq_true rfl) rfl ?_
          refine eg_goto 32 dX9_aheadOf_106 rfl ?_
          exact eg_sub [3, 4, 5, 1, 6, 0] [(0, .ref l0), (1, .int l1), (2, .int l2), (3, .int (l3 + (1 : Int32))), (4, .int l4), (5, .int (l5 + (1 : Int32)))] rfl (hrec h l0 l1 l2 (l3 + (1 : Int32)) l4 (l5 + (1 : Int32)) hF)
        · replace hF := eg_if c17 hF
          refine eg_aload_n (i := 0) 1 dX9_aheadOf_77 rfl rfl ?_
          replace hF := eg_bind hF; obtain ⟨p18, e19, hF⟩ := hF
          refine eg_getR dX9_aheadOf_78 e19 (Nat.le_of_ble_eq_true rfl) (Nat.le_of_ble_eq_true rfl) rfl ew_318 ?_
          refine eg_iload (i := 6) 0 dX9_aheadOf_81 rfl ?_
          replace hF := eg_bind hF; obtain ⟨v20, e21, hF⟩ := hF
          refine eg_lald dX9_aheadOf_83 e21 ?_
          refine eg_aload_n (i := 0) 1 dX9_aheadOf_84 rfl rfl ?_
          replace hF := eg_bind hF; obtain ⟨p22, e23, hF⟩ := hF
          refine eg_getR dX9_aheadOf_85 e23 (Nat.le_of_ble_eq_true rfl) (Nat.le_of_ble_eq_true rfl) rfl ew_318 ?_
          refine eg_iload_n (i := 1) 2 dX9_aheadOf_88 rfl rfl ?_
          replace hF := eg_bind hF; obtain ⟨v24, e25, hF⟩ := hF
          refine eg_lald dX9_aheadOf_89 e25 ?_
          refine eg_lc_ne 103 dX9_aheadOf_90 dX9_aheadOf_91 rfl (fun c26 => ?_) (fun c26 => ?_)
          · replace hF := eg_it c26 hF
            refine eg_iload (i := 6) 0 dX9_aheadOf_94 rfl ?_
            refine eg_iload_n (i := 1) 2 dX9_aheadOf_96 rfl rfl ?_
            refine eg_ic_ge 103 dX9_aheadOf_97 rfl (fun c27 => ?_) (fun c27 => ?_)
            · replace hF := eg_it c27 hF
              refine eg_iinc (i := 5) (v := (l5 + (1 : Int32))) 6 [(5, .int (l5 + (1 : Int32))), (6, .int v2), (0, .ref l0), (1, .int l1), (2, .int l2), (3, .int l3), (4, .int l4)] dX9_aheadOf_103 rfl rfl (Nat.le_of_ble_eq_true rfl) rfl ?_
              refine eg_goto 32 dX9_aheadOf_106 rfl ?_
              exact eg_sub [2, 3, 4, 5, 6, 0] [(0, .ref l0), (1, .int l1), (2, .int l2), (3, .int l3), (4, .int l4), (5, .int (l5 + (1 : Int32)))] rfl (hrec h l0 l1 l2 l3 l4 (l5 + (1 : Int32)) hF)
            · replace hF := eg_if c27 hF
              refine eg_iinc (i := 3) (v := (l3 + (1 : Int32))) 4 [(3, .int (l3 + (1 : Int32))), (6, .int v2), (0, .ref l0), (1, .int l1), (2, .int l2), (4, .int l4), (5, .int l5)] dX9_aheadOf_100 rfl rfl (Nat.le_of_ble_eq_true rfl) rfl ?_
              refine eg_iinc (i := 5) (v := (l5 + (1 : Int32))) 6 [(5, .int (l5 + (1 : Int32))), (3, .int (l3 + (1 : Int32))), (6, .int v2), (0, .ref l0), (1, .int l1), (2, .int l2), (4, .int l4)] dX9_aheadOf_103 rfl rfl (Nat.le_of_ble_eq_true rfl) rfl ?_
              refine eg_goto 32 dX9_aheadOf_106 rfl ?_
              exact eg_sub [3, 4, 5, 1, 6, 0] [(0, .ref l0), (1, .int l1), (2, .int l2), (3, .int (l3 + (1 : Int32))), (4, .int l4), (5, .int (l5 + (1 : Int32)))] rfl (hrec h l0 l1 l2 (l3 + (1 : Int32)) l4 (l5 + (1 : Int32)) hF)
          · replace hF := eg_if c26 hF
            refine eg_iinc (i := 5) (v := (l5 + (1 : Int32))) 6 [(5, .int (l5 + (1 : Int32))), (6, .int v2), (0, .ref l0), (1, .int l1), (2, .int l2), (3, .int l3), (4, .int l4)] dX9_aheadOf_103 rfl rfl (Nat.le_of_ble_eq_true rfl) rfl ?_
            refine eg_goto 32 dX9_aheadOf_106 rfl ?_
            exact eg_sub [2, 3, 4, 5, 6, 0] [(0, .ref l0), (1, .int l1), (2, .int l2), (3, .int l3), (4, .int l4), (5, .int (l5 + (1 : Int32)))] rfl (hrec h l0 l1 l2 l3 l4 (l5 + (1 : Int32)) hF)
      · replace hF := eg_if c8 hF
        exact eg_sub [] [] rfl (hk1 h (Option.some.inj hF).symm)
def fX9_aheadOf_L20 : Nat → eg_H → Nat → Int32 → Int32 → Int32 → Int32 → Option ((Int32 × eg_H) ⊕ (eg_H))
  | 0, _, _, _, _, _, _ => none
  | n + 1, h, l0, l1, l2, l3, l4 =>
    if l2 ≤ l4 then
      (some (.inl (l3, h)))
    else
      (some ((l4 + (1 : Int32)))).bind fun v2 =>
      (fX9_aheadOf_L32 eg_F h l0 l1 l2 l3 l4 v2).bind fun e =>
      match e with
      | .inl (p6, v7, v8, v9, v10, h11) =>
        fX9_aheadOf_L20 n h11 p6 v7 v8 v9 (v10 + (1 : Int32))
      | .inr (h13) =>
        some (.inr (h13))
set_option maxRecDepth 20000 in
theorem fX9_aheadOf_L20_ok {h0 : eg_H} {Z : eg_C → State → Prop} {N S : Nat} : ∀ (n : Nat) (h : eg_H) (l0 : Nat) (l1 : Int32) (l2 : Int32) (l3 : Int32) (l4 : Int32) (eE : (Int32 × eg_H) ⊕ (eg_H)), fX9_aheadOf_L20 n h l0 l1 l2 l3 l4 = some eE → (hk0 : ∀ (l3 : Int32) (h : eg_H), eE = (.inl (l3, h)) → eg_AW (RX9, cX9_aheadOf, 7, 1, none, "aheadOf", (some .int)) Z N S h0 115 [(3, .int l3)] [] h) → (hk1 : ∀  (h : eg_H), eE = (.inr (h)) → eg_AW (RX9, cX9_aheadOf, 7, 1, none, "aheadOf", (some .int)) Z N S h0 58 [] [] h) → eg_AW (RX9, cX9_aheadOf, 7, 1, none, "aheadOf", (some .int)) Z N S h0 20 [(0, .ref l0), (1, .int l1), (2, .int l2), (3, .int l3), (4, .int l4)] [] h := by
  intro n
  induction n with
  | zero => intro h l0 l1 l2 l3 l4 eE hF; exact absurd hF (by intro q; cases q)
  | succ n ih =>
    intro h l0 l1 l2 l3 l4 eE hF hk0 hk1
    have hrec := fun (h' : eg_H) (l0 : Nat) (l1 : Int32) (l2 : Int32) (l3 : Int32) (l4 : Int32) hq => ih h' l0 l1 l2 l3 l4 eE hq hk0 hk1
    refine eg_iload (i := 4) 4 dX9_aheadOf_20 rfl ?_
    refine eg_iload_n (i := 2) 2 dX9_aheadOf_22 rfl rfl ?_
    refine eg_ic_ge 115 dX9_aheadOf_23 rfl (fun c1 => ?_) (fun c1 => ?_)
    · replace hF := eg_it c1 hF
      exact eg_sub [3] [(3, .int l3)] rfl (hk0 l3 h (Option.some.inj hF).symm)
    · replace hF := eg_if c1 hF
      refine eg_iload (i := 4) 4 dX9_aheadOf_26 rfl ?_
      refine eg_iconst (v := (1 : Int32)) dX9_aheadOf_28 (by decide) ?_
      refine eg_iadd dX9_aheadOf_29 ?_
      replace hF := eg_bind hF; obtain ⟨v2, e3, hF⟩ := hF
      replace e3 := Option.some.inj e3
      rw [e3]
      refine eg_istore (i := 5) [(5, .int v2), (0, .ref l0), (1, .int l1), (2, .int l2), (3, .int l3), (4, .int l4)] dX9_aheadOf_30 (Nat.le_of_ble_eq_true rfl) rfl ?_
      replace hF := eg_bind hF; obtain ⟨x5, e4, hF⟩ := hF
      refine eg_sub [1, 2, 3, 4, 5, 0] [(0, .ref l0), (1, .int l1), (2, .int l2), (3, .int l3), (4, .int l4), (5, .int v2)] rfl (fX9_aheadOf_L32_ok eg_F h l0 l1 l2 l3 l4 v2 x5 e4 ?_ ?_)
      · intro p6 v7 v8 v9 v10 h11 e12
        subst e12
        refine eg_iinc (i := 4) (v := (v10 + (1 : Int32))) 4 [(4, .int (v10 + (1 : Int32))), (0, .ref p6), (1, .int v7), (2, .int v8), (3, .int v9)] dX9_aheadOf_109 rfl rfl (Nat.le_of_ble_eq_true rfl) rfl ?_
        refine eg_goto 20 dX9_aheadOf_112 rfl ?_
        exact eg_sub [1, 2, 3, 4, 0] [(0, .ref p6), (1, .int v7), (2, .int v8), (3, .int v9), (4, .int (v10 + (1 : Int32)))] rfl (hrec h11 p6 v7 v8 v9 (v10 + (1 : Int32)) hF)
      · intro h13 e14
        subst e14
        exact (hk1 h13 (Option.some.inj hF).symm)
def fX9_aheadOf (h : eg_H) (l0 : Nat) (l1 : Int32) (l2 : Int32) : Option (Int32 × eg_H) :=
  if eg_isO h 9 l0 then (
    if l1 < 0 then
      (some ((-1 : Int32), h))
    else
      (eg_gR h 9 0 l0).bind fun p2 =>
      (eg_al h p2).bind fun v4 =>
      if l1 < v4 then
        ((fX9_aheadOf_L20 eg_F h l0 l1 l2 (0 : Int32) (0 : Int32)).bind fun e =>
        match e with
        | .inl (v9, h10) =>
          some (v9, h10)
        | .inr (h12) =>
          some ((-1 : Int32), h12))
      else
        some ((-1 : Int32), h)) else none
theorem fX9_aheadOf_O {h : eg_H} {l0 : Nat} {l1 : Int32} {l2 : Int32} {rE : Int32} {hE : eg_H} (hF : fX9_aheadOf h l0 l1 l2 = some (rE, hE)) : eg_isO h 9 l0 := (eg_ifn hF).1
set_option maxRecDepth 20000 in
theorem mX9_aheadOf {h : eg_H} {l0 : Nat} {l1 : Int32} {l2 : Int32} {rE : Int32} {hE : eg_H} (hF : fX9_aheadOf h l0 l1 l2 = some (rE, hE)) : eg_Met yX9_aheadOf cX9_aheadOf 7 (some .int) 1 [.ref l0, .int l1, .int l2] h (some (.int rE)) hE := by
  refine eg_enter rfl (Nat.le_of_ble_eq_true rfl) ?_
  show eg_AW (RX9, cX9_aheadOf, 7, 1, none, "aheadOf", (some .int)) (eg_Zm (some (.int rE)) hE h) (eg_nc hE) (eg_ns hE) h 0 [(0, .ref l0), (1, .int l1), (2, .int l2)] [] h
  replace hF := (eg_ifn hF).2
  refine eg_iload_n (i := 1) 1 dX9_aheadOf_0 rfl rfl ?_
  refine eg_if_lt 13 dX9_aheadOf_1 rfl (fun c1 => ?_) (fun c1 => ?_)
  · replace hF := eg_it c1 hF
    refine eg_iconst (v := (-1 : Int32)) dX9_aheadOf_13 (by decide) ?_
    exact eg_iretE dX9_aheadOf_14 hF
  · replace hF := eg_if c1 hF
    refine eg_iload_n (i := 1) 1 dX9_aheadOf_4 rfl rfl ?_
    refine eg_aload_n (i := 0) 0 dX9_aheadOf_5 rfl rfl ?_
    replace hF := eg_bind hF; obtain ⟨p2, e3, hF⟩ := hF
    refine eg_getR dX9_aheadOf_6 e3 (Nat.le_of_ble_eq_true rfl) (Nat.le_of_ble_eq_true rfl) rfl ew_318 ?_
    replace hF := eg_bind hF; obtain ⟨v4, e5, hF⟩ := hF
    refine eg_alen dX9_aheadOf_9 e5 ?_
    refine eg_ic_lt 15 dX9_aheadOf_10 rfl (fun c6 => ?_) (fun c6 => ?_)
    · replace hF := eg_it c6 hF
      refine eg_iconst (v := (0 : Int32)) dX9_aheadOf_15 (by decide) ?_
      refine eg_istore_n (i := 3) [(3, .int (0 : Int32)), (0, .ref l0), (1, .int l1), (2, .int l2)] dX9_aheadOf_16 rfl (Nat.le_of_ble_eq_true rfl) rfl ?_
      refine eg_iconst (v := (0 : Int32)) dX9_aheadOf_17 (by decide) ?_
      refine eg_istore (i := 4) [(4, .int (0 : Int32)), (3, .int (0 : Int32)), (0, .ref l0), (1, .int l1), (2, .int l2)] dX9_aheadOf_18 (Nat.le_of_ble_eq_true rfl) rfl ?_
      replace hF := eg_bind hF; obtain ⟨x8, e7, hF⟩ := hF
      refine eg_sub [2, 3, 4, 1, 0] [(0, .ref l0), (1, .int l1), (2, .int l2), (3, .int (0 : Int32)), (4, .int (0 : Int32))] rfl (fX9_aheadOf_L20_ok eg_F h l0 l1 l2 (0 : Int32) (0 : Int32) x8 e7 ?_ ?_)
      · intro v9 h10 e11
        subst e11
        refine eg_iload_n (i := 3) 0 dX9_aheadOf_115 rfl rfl ?_
        exact eg_iretE dX9_aheadOf_116 hF
      · intro h12 e13
        subst e13
        refine eg_iconst (v := (-1 : Int32)) dX9_aheadOf_58 (by decide) ?_
        exact eg_iretE dX9_aheadOf_59 hF
    · replace hF := eg_if c6 hF
      refine eg_iconst (v := (-1 : Int32)) dX9_aheadOf_13 (by decide) ?_
      exact eg_iretE dX9_aheadOf_14 hF
theorem dX9_ranked_0 : decode cX9_ranked 0 = .ok (.iconst 0, 1) := by decide +kernel
theorem dX9_ranked_1 : decode cX9_ranked 1 = .ok (.istore_n 3, 1) := by decide +kernel
theorem dX9_ranked_2 : decode cX9_ranked 2 = .ok (.iload_n 3, 1) := by decide +kernel
theorem dX9_ranked_3 : decode cX9_ranked 3 = .ok (.iload_n 1, 1) := by decide +kernel
theorem dX9_ranked_4 : decode cX9_ranked 4 = .ok (.if_icmp .ge 50, 3) := by decide +kernel
theorem dX9_ranked_7 : decode cX9_ranked 7 = .ok (.iload_n 3, 1) := by decide +kernel
theorem dX9_ranked_8 : decode cX9_ranked 8 = .ok (.iconst 1, 1) := by decide +kernel
theorem dX9_ranked_9 : decode cX9_ranked 9 = .ok (.iadd, 1) := by decide +kernel
theorem dX9_ranked_10 : decode cX9_ranked 10 = .ok (.istore 4, 2) := by decide +kernel
theorem dX9_ranked_12 : decode cX9_ranked 12 = .ok (.iload 4, 2) := by decide +kernel
theorem dX9_ranked_14 : decode cX9_ranked 14 = .ok (.iload_n 1, 1) := by decide +kernel
theorem dX9_ranked_15 : decode cX9_ranked 15 = .ok (.if_icmp .ge 33, 3) := by decide +kernel
theorem dX9_ranked_18 : decode cX9_ranked 18 = .ok (.aload_n 0, 1) := by decide +kernel
theorem dX9_ranked_19 : decode cX9_ranked 19 = .ok (.iload_n 3, 1) := by decide +kernel
theorem dX9_ranked_20 : decode cX9_ranked 20 = .ok (.bipush 6, 2) := by decide +kernel
theorem dX9_ranked_22 : decode cX9_ranked 22 = .ok (.imul, 1) := by decide +kernel
theorem dX9_ranked_23 : decode cX9_ranked 23 = .ok (.iload 4, 2) := by decide +kernel
theorem dX9_ranked_25 : decode cX9_ranked 25 = .ok (.iadd, 1) := by decide +kernel
theorem dX9_ranked_26 : decode cX9_ranked 26 = .ok (.iload_n 1, 1) := by decide +kernel
theorem dX9_ranked_27 : decode cX9_ranked 27 = .ok (.invokevirtual 62, 3) := by decide +kernel
theorem dX9_ranked_30 : decode cX9_ranked 30 = .ok (.iload_n 2, 1) := by decide +kernel
theorem dX9_ranked_31 : decode cX9_ranked 31 = .ok (.if_icmp .ne 11, 3) := by decide +kernel
theorem dX9_ranked_34 : decode cX9_ranked 34 = .ok (.bipush 10, 2) := by decide +kernel
theorem dX9_ranked_36 : decode cX9_ranked 36 = .ok (.iload_n 3, 1) := by decide +kernel
theorem dX9_ranked_37 : decode cX9_ranked 37 = .ok (.imul, 1) := by decide +kernel
theorem dX9_ranked_38 : decode cX9_ranked 38 = .ok (.iload 4, 2) := by decide +kernel
theorem dX9_ranked_40 : decode cX9_ranked 40 = .ok (.iadd, 1) := by decide +kernel
theorem dX9_ranked_41 : decode cX9_ranked 41 = .ok (.ireturn, 1) := by decide +kernel
theorem dX9_ranked_42 : decode cX9_ranked 42 = .ok (.iinc 4 1, 3) := by decide +kernel
theorem dX9_ranked_45 : decode cX9_ranked 45 = .ok (.goto (-33), 3) := by decide +kernel
theorem dX9_ranked_48 : decode cX9_ranked 48 = .ok (.iinc 3 1, 3) := by decide +kernel
theorem dX9_ranked_51 : decode cX9_ranked 51 = .ok (.goto (-49), 3) := by decide +kernel
theorem dX9_ranked_54 : decode cX9_ranked 54 = .ok (.iconst (-1), 1) := by decide +kernel
theorem dX9_ranked_55 : decode cX9_ranked 55 = .ok (.ireturn, 1) := by decide +kernel
def fX9_ranked_L12 : Nat → eg_H → Nat → Int32 → Int32 → Int32 → Int32 → Option ((Nat × Int32 × Int32 × Int32 × eg_H) ⊕ (Int32 × Int32 × eg_H))
  | 0, _, _, _, _, _, _ => none
  | n + 1, h, l0, l1, l2, l3, l4 =>
    if l1 ≤ l4 then
      (some (.inl (l0, l1, l2, l3, h)))
    else
      (fX9_aheadOf h l0 ((l3 * (6 : Int32)) + l4) l1).bind fun ⟨v3, h2⟩ =>
      if v3 = l2 then
        (some (.inr (l3, l4, h2)))
      else
        fX9_ranked_L12 n h2 l0 l1 l2 l3 (l4 + (1 : Int32))
set_option maxRecDepth 20000 in
theorem fX9_ranked_L12_ok {h0 : eg_H} {Z : eg_C → State → Prop} {N S : Nat} : ∀ (n : Nat) (h : eg_H) (l0 : Nat) (l1 : Int32) (l2 : Int32) (l3 : Int32) (l4 : Int32) (eE : (Nat × Int32 × Int32 × Int32 × eg_H) ⊕ (Int32 × Int32 × eg_H)), fX9_ranked_L12 n h l0 l1 l2 l3 l4 = some eE → (hk0 : ∀ (l0 : Nat) (l1 : Int32) (l2 : Int32) (l3 : Int32) (h : eg_H), eE = (.inl (l0, l1, l2, l3, h)) → eg_AW (RX9, cX9_ranked, 5, 2, none, "ranked", (some .int)) Z N S h0 48 [(0, .ref l0), (1, .int l1), (2, .int l2), (3, .int l3)] [] h) → (hk1 : ∀ (l3 : Int32) (l4 : Int32) (h : eg_H), eE = (.inr (l3, l4, h)) → eg_AW (RX9, cX9_ranked, 5, 2, none, "ranked", (some .int)) Z N S h0 34 [(3, .int l3), (4, .int l4)] [] h) → eg_AW (RX9, cX9_ranked, 5, 2, none, "ranked", (some .int)) Z N S h0 12 [(0, .ref l0), (1, .int l1), (2, .int l2), (3, .int l3), (4, .int l4)] [] h := by
  intro n
  induction n with
  | zero => intro h l0 l1 l2 l3 l4 eE hF; exact absurd hF (by intro q; cases q)
  | succ n ih =>
    intro h l0 l1 l2 l3 l4 eE hF hk0 hk1
    have hrec := fun (h' : eg_H) (l0 : Nat) (l1 : Int32) (l2 : Int32) (l3 : Int32) (l4 : Int32) hq => ih h' l0 l1 l2 l3 l4 eE hq hk0 hk1
    refine eg_iload (i := 4) 4 dX9_ranked_12 rfl ?_
    refine eg_iload_n (i := 1) 1 dX9_ranked_14 rfl rfl ?_
    refine eg_ic_ge 48 dX9_ranked_15 rfl (fun c1 => ?_) (fun c1 => ?_)
    · replace hF := eg_it c1 hF
      exact eg_sub [0, 1, 2, 3] [(0, .ref l0), (1, .int l1), (2, .int l2), (3, .int l3)] rfl (hk0 l0 l1 l2 l3 h (Option.some.inj hF).symm)
    · replace hF := eg_if c1 hF
      refine eg_aload_n (i := 0) 0 dX9_ranked_18 rfl rfl ?_
      refine eg_iload_n (i := 3) 3 dX9_ranked_19 rfl rfl ?_
      refine eg_bipush (v := (6 : Int32)) dX9_ranked_20 (by decide) ?_
      refine eg_imul dX9_ranked_22 ?_
      refine eg_iload (i := 4) 4 dX9_ranked_23 rfl ?_
      refine eg_iadd dX9_ranked_25 ?_
      refine eg_iload_n (i := 1) 1 dX9_ranked_26 rfl rfl ?_
      replace hF := eg_bind hF; obtain ⟨⟨v3, h2⟩, e4, hF⟩ := hF
      refine eg_callV (c := 9) (n := 2) [.int ((l3 * (6 : Int32)) + l4), .int l1] dX9_ranked_27 (mX9_aheadOf e4) rfl (fX9_aheadOf_O e4) (Nat.le_of_ble_eq_true rfl) rfl ew_1106 ew_1108 ew_35 ew_109 ew_1109 hy_X9_aheadOf rfl (Nat.le_of_ble_eq_true rfl) (Nat.le_of_ble_eq_true rfl) (Nat.le_of_ble_eq_true rfl) ?_
      refine eg_iload_n (i := 2) 2 dX9_ranked_30 rfl rfl ?_
      refine eg_ic_ne 42 dX9_ranked_31 rfl (fun c5 => ?_) (fun c5 => ?_)
      · replace hF := eg_it c5 hF
        exact eg_sub [3, 4] [(3, .int l3), (4, .int l4)] rfl (hk1 l3 l4 h2 (Option.some.inj hF).symm)
      · replace hF := eg_if c5 hF
        refine eg_iinc (i := 4) (v := (l4 + (1 : Int32))) 4 [(4, .int (l4 + (1 : Int32))), (0, .ref l0), (1, .int l1), (2, .int l2), (3, .int l3)] dX9_ranked_42 rfl rfl (Nat.le_of_ble_eq_true rfl) rfl ?_
        refine eg_goto 12 dX9_ranked_45 rfl ?_
        exact eg_sub [1, 2, 3, 4, 0] [(0, .ref l0), (1, .int l1), (2, .int l2), (3, .int l3), (4, .int (l4 + (1 : Int32)))] rfl (hrec h2 l0 l1 l2 l3 (l4 + (1 : Int32)) hF)
def fX9_ranked_L2 : Nat → eg_H → Nat → Int32 → Int32 → Int32 → Option ((eg_H) ⊕ (Int32 × Int32 × eg_H))
  | 0, _, _, _, _, _ => none
  | n + 1, h, l0, l1, l2, l3 =>
    if l1 ≤ l3 then
      (some (.inl h))
    else
      (some ((l3 + (1 : Int32)))).bind fun v2 =>
      (fX9_ranked_L12 eg_F h l0 l1 l2 l3 v2).bind fun e =>
      match e with
      | .inl (p6, v7, v8, v9, h10) =>
        fX9_ranked_L2 n h10 p6 v7 v8 (v9 + (1 : Int32))
      | .inr (v12, v13, h14) =>
        some (.inr (v12, v13, h14))
set_option maxRecDepth 20000 in
theorem fX9_ranked_L2_ok {h0 : eg_H} {Z : eg_C → State → Prop} {N S : Nat} : ∀ (n : Nat) (h : eg_H) (l0 : Nat) (l1 : Int32) (l2 : Int32) (l3 : Int32) (eE : (eg_H) ⊕ (Int32 × Int32 × eg_H)), fX9_ranked_L2 n h l0 l1 l2 l3 = some eE → (hk0 : ∀  (h : eg_H), eE = (.inl h) → eg_AW (RX9, cX9_ranked, 5, 2, none, "ranked", (some .int)) Z N S h0 54 [] [] h) → (hk1 : ∀ (l3 : Int32) (l4 : Int32) (h : eg_H), eE = (.inr (l3, l4, h)) → eg_AW (RX9, cX9_ranked, 5, 2, none, "ranked", (some .int)) Z N S h0 34 [(3, .int l3), (4, .int l4)] [] h) → eg_AW (RX9, cX9_ranked, 5, 2, none, "ranked", (some .int)) Z N S h0 2 [(0, .ref l0), (1, .int l1), (2, .int l2), (3, .int l3)] [] h := by
  intro n
  induction n with
  | zero => intro h l0 l1 l2 l3 eE hF; exact absurd hF (by intro q; cases q)
  | succ n ih =>
    intro h l0 l1 l2 l3 eE hF hk0 hk1
    have hrec := fun (h' : eg_H) (l0 : Nat) (l1 : Int32) (l2 : Int32) (l3 : Int32) hq => ih h' l0 l1 l2 l3 eE hq hk0 hk1
    refine eg_iload_n (i := 3) 3 dX9_ranked_2 rfl rfl ?_
    refine eg_iload_n (i := 1) 1 dX9_ranked_3 rfl rfl ?_
    refine eg_ic_ge 54 dX9_ranked_4 rfl (fun c1 => ?_) (fun c1 => ?_)
    · replace hF := eg_it c1 hF
      exact eg_sub [] [] rfl (hk0 h (Option.some.inj hF).symm)
    · replace hF := eg_if c1 hF
      refine eg_iload_n (i := 3) 3 dX9_ranked_7 rfl rfl ?_
      refine eg_iconst (v := (1 : Int32)) dX9_ranked_8 (by decide) ?_
      refine eg_iadd dX9_ranked_9 ?_
      replace hF := eg_bind hF; obtain ⟨v2, e3, hF⟩ := hF
      replace e3 := Option.some.inj e3
      rw [e3]
      refine eg_istore (i := 4) [(4, .int v2), (0, .ref l0), (1, .int l1), (2, .int l2), (3, .int l3)] dX9_ranked_10 (Nat.le_of_ble_eq_true rfl) rfl ?_
      replace hF := eg_bind hF; obtain ⟨x5, e4, hF⟩ := hF
      refine eg_sub [1, 2, 3, 4, 0] [(0, .ref l0), (1, .int l1), (2, .int l2), (3, .int l3), (4, .int v2)] rfl (fX9_ranked_L12_ok eg_F h l0 l1 l2 l3 v2 x5 e4 ?_ ?_)
      · intro p6 v7 v8 v9 h10 e11
        subst e11
        refine eg_iinc (i := 3) (v := (v9 + (1 : Int32))) 3 [(3, .int (v9 + (1 : Int32))), (0, .ref p6), (1, .int v7), (2, .int v8)] dX9_ranked_48 rfl rfl (Nat.le_of_ble_eq_true rfl) rfl ?_
        refine eg_goto 2 dX9_ranked_51 rfl ?_
        exact eg_sub [1, 2, 3, 0] [(0, .ref p6), (1, .int v7), (2, .int v8), (3, .int (v9 + (1 : Int32)))] rfl (hrec h10 p6 v7 v8 (v9 + (1 : Int32)) hF)
      · intro v12 v13 h14 e15
        subst e15
        exact (hk1 v12 v13 h14 (Option.some.inj hF).symm)
def fX9_ranked (h : eg_H) (l0 : Nat) (l1 : Int32) (l2 : Int32) : Option (Int32 × eg_H) :=
  if eg_isO h 9 l0 then (
    (fX9_ranked_L2 eg_F h l0 l1 l2 (0 : Int32)).bind fun e =>
    match e with
    | .inl h3 =>
      some ((-1 : Int32), h3)
    | .inr (v5, v6, h7) =>
      some ((((10 : Int32) * v5) + v6), h7)) else none
theorem fX9_ranked_O {h : eg_H} {l0 : Nat} {l1 : Int32} {l2 : Int32} {rE : Int32} {hE : eg_H} (hF : fX9_ranked h l0 l1 l2 = some (rE, hE)) : eg_isO h 9 l0 := (eg_ifn hF).1
set_option maxRecDepth 20000 in
theorem mX9_ranked {h : eg_H} {l0 : Nat} {l1 : Int32} {l2 : Int32} {rE : Int32} {hE : eg_H} (hF : fX9_ranked h l0 l1 l2 = some (rE, hE)) : eg_Met yX9_ranked cX9_ranked 5 (some .int) 2 [.ref l0, .int l1, .int l2] h (some (.int rE)) hE := by
  refine eg_enter rfl (Nat.le_of_ble_eq_true rfl) ?_
  show eg_AW (RX9, cX9_ranked, 5, 2, none, "ranked", (some .int)) (eg_Zm (some (.int rE)) hE h) (eg_nc hE) (eg_ns hE) h 0 [(0, .ref l0), (1, .int l1), (2, .int l2)] [] h
  replace hF := (eg_ifn hF).2
  refine eg_iconst (v := (0 : Int32)) dX9_ranked_0 (by decide) ?_
  refine eg_istore_n (i := 3) [(3, .int (0 : Int32)), (0, .ref l0), (1, .int l1), (2, .int l2)] dX9_ranked_1 rfl (Nat.le_of_ble_eq_true rfl) rfl ?_
  replace hF := eg_bind hF; obtain ⟨x2, e1, hF⟩ := hF
  refine eg_sub [1, 2, 3, 0] [(0, .ref l0), (1, .int l1), (2, .int l2), (3, .int (0 : Int32))] rfl (fX9_ranked_L2_ok eg_F h l0 l1 l2 (0 : Int32) x2 e1 ?_ ?_)
  · intro h3 e4
    subst e4
    refine eg_iconst (v := (-1 : Int32)) dX9_ranked_54 (by decide) ?_
    exact eg_iretE dX9_ranked_55 hF
  · intro v5 v6 h7 e8
    subst e8
    refine eg_bipush (v := (10 : Int32)) dX9_ranked_34 (by decide) ?_
    refine eg_iload_n (i := 3) 0 dX9_ranked_36 rfl rfl ?_
    refine eg_imul dX9_ranked_37 ?_
    refine eg_iload (i := 4) 1 dX9_ranked_38 rfl ?_
    refine eg_iadd dX9_ranked_40 ?_
    exact eg_iretE dX9_ranked_41 hF
theorem dX9_readDigits_0 : decode cX9_readDigits 0 = .ok (.iload_n 1, 1) := by decide +kernel
theorem dX9_readDigits_1 : decode cX9_readDigits 1 = .ok (.istore 4, 2) := by decide +kernel
theorem dX9_readDigits_3 : decode cX9_readDigits 3 = .ok (.iload_n 3, 1) := by decide +kernel
theorem dX9_readDigits_4 : decode cX9_readDigits 4 = .ok (.iconst 1, 1) := by decide +kernel
theorem dX9_readDigits_5 : decode cX9_readDigits 5 = .ok (.isub, 1) := by decide +kernel
theorem dX9_readDigits_6 : decode cX9_readDigits 6 = .ok (.istore 5, 2) := by decide +kernel
theorem dX9_readDigits_8 : decode cX9_readDigits 8 = .ok (.iload 5, 2) := by decide +kernel
theorem dX9_readDigits_10 : decode cX9_readDigits 10 = .ok (.ifCond .lt 48, 3) := by decide +kernel
theorem dX9_readDigits_13 : decode cX9_readDigits 13 = .ok (.iload 5, 2) := by decide +kernel
theorem dX9_readDigits_15 : decode cX9_readDigits 15 = .ok (.aload_n 2, 1) := by decide +kernel
theorem dX9_readDigits_16 : decode cX9_readDigits 16 = .ok (.arraylength, 1) := by decide +kernel
theorem dX9_readDigits_17 : decode cX9_readDigits 17 = .ok (.if_icmp .ge 17, 3) := by decide +kernel
theorem dX9_readDigits_20 : decode cX9_readDigits 20 = .ok (.iload 4, 2) := by decide +kernel
theorem dX9_readDigits_22 : decode cX9_readDigits 22 = .ok (.ifCond .lt 12, 3) := by decide +kernel
theorem dX9_readDigits_25 : decode cX9_readDigits 25 = .ok (.iload 4, 2) := by decide +kernel
theorem dX9_readDigits_27 : decode cX9_readDigits 27 = .ok (.bipush 10, 2) := by decide +kernel
theorem dX9_readDigits_29 : decode cX9_readDigits 29 = .ok (.irem, 1) := by decide +kernel
theorem dX9_readDigits_30 : decode cX9_readDigits 30 = .ok (.iload_n 3, 1) := by decide +kernel
theorem dX9_readDigits_31 : decode cX9_readDigits 31 = .ok (.if_icmp .lt 5, 3) := by decide +kernel
theorem dX9_readDigits_34 : decode cX9_readDigits 34 = .ok (.iconst 0, 1) := by decide +kernel
theorem dX9_readDigits_35 : decode cX9_readDigits 35 = .ok (.ireturn, 1) := by decide +kernel
theorem dX9_readDigits_36 : decode cX9_readDigits 36 = .ok (.aload_n 2, 1) := by decide +kernel
theorem dX9_readDigits_37 : decode cX9_readDigits 37 = .ok (.iload 5, 2) := by decide +kernel
theorem dX9_readDigits_39 : decode cX9_readDigits 39 = .ok (.iload 4, 2) := by decide +kernel
theorem dX9_readDigits_41 : decode cX9_readDigits 41 = .ok (.bipush 10, 2) := by decide +kernel
theorem dX9_readDigits_43 : decode cX9_readDigits 43 = .ok (.irem, 1) := by decide +kernel
theorem dX9_readDigits_44 : decode cX9_readDigits 44 = .ok (.iastore, 1) := by decide +kernel
theorem dX9_readDigits_45 : decode cX9_readDigits 45 = .ok (.iload 4, 2) := by decide +kernel
theorem dX9_readDigits_47 : decode cX9_readDigits 47 = .ok (.bipush 10, 2) := by decide +kernel
theorem dX9_readDigits_49 : decode cX9_readDigits 49 = .ok (.idiv, 1) := by decide +kernel
theorem dX9_readDigits_50 : decode cX9_readDigits 50 = .ok (.istore 4, 2) := by decide +kernel
theorem dX9_readDigits_52 : decode cX9_readDigits 52 = .ok (.iinc 5 (-1), 3) := by decide +kernel
theorem dX9_readDigits_55 : decode cX9_readDigits 55 = .ok (.goto (-47), 3) := by decide +kernel
theorem dX9_readDigits_58 : decode cX9_readDigits 58 = .ok (.iload 4, 2) := by decide +kernel
theorem dX9_readDigits_60 : decode cX9_readDigits 60 = .ok (.ifCond .ne 7, 3) := by decide +kernel
theorem dX9_readDigits_63 : decode cX9_readDigits 63 = .ok (.iconst 1, 1) := by decide +kernel
theorem dX9_readDigits_64 : decode cX9_readDigits 64 = .ok (.goto 4, 3) := by decide +kernel
theorem dX9_readDigits_67 : decode cX9_readDigits 67 = .ok (.iconst 0, 1) := by decide +kernel
theorem dX9_readDigits_68 : decode cX9_readDigits 68 = .ok (.ireturn, 1) := by decide +kernel
def fX9_readDigits_L8 : Nat → eg_H → Nat → Int32 → Int32 → Int32 → Option ((Int32 × eg_H) ⊕ (eg_H))
  | 0, _, _, _, _, _ => none
  | n + 1, h, l2, l3, l4, l5 =>
    if l5 < 0 then
      (some (.inl (l4, h)))
    else
      (eg_al h l2).bind fun v2 =>
      if v2 ≤ l5 then
        (some (.inr (h)))
      else
        if l4 < 0 then
          (some (.inr (h)))
        else
          if (l4 % (10 : Int32)) < l3 then
            ((eg_wI h 100 l2 l5 (l4 % (10 : Int32))).bind fun h7 =>
            (some ((l4 / (10 : Int32)))).bind fun v9 =>
            fX9_readDigits_L8 n h7 l2 l3 v9 (l5 + (-1 : Int32)))
          else
            some (.inr (h))
set_option maxRecDepth 20000 in
theorem fX9_readDigits_L8_ok {h0 : eg_H} {Z : eg_C → State → Prop} {N S : Nat} : ∀ (n : Nat) (h : eg_H) (l2 : Nat) (l3 : Int32) (l4 : Int32) (l5 : Int32) (eE : (Int32 × eg_H) ⊕ (eg_H)), fX9_readDigits_L8 n h l2 l3 l4 l5 = some eE → (hk0 : ∀ (l4 : Int32) (h : eg_H), eE = (.inl (l4, h)) → eg_AW (RX9, cX9_readDigits, 6, 1, none, "readDigits", (some .boolean)) Z N S h0 58 [(4, .int l4)] [] h) → (hk1 : ∀  (h : eg_H), eE = (.inr (h)) → eg_AW (RX9, cX9_readDigits, 6, 1, none, "readDigits", (some .boolean)) Z N S h0 34 [] [] h) → eg_AW (RX9, cX9_readDigits, 6, 1, none, "readDigits", (some .boolean)) Z N S h0 8 [(2, .ref l2), (3, .int l3), (4, .int l4), (5, .int l5)] [] h := by
  intro n
  induction n with
  | zero => intro h l2 l3 l4 l5 eE hF; exact absurd hF (by intro q; cases q)
  | succ n ih =>
    intro h l2 l3 l4 l5 eE hF hk0 hk1
    have hrec := fun (h' : eg_H) (l2 : Nat) (l3 : Int32) (l4 : Int32) (l5 : Int32) hq => ih h' l2 l3 l4 l5 eE hq hk0 hk1
    refine eg_iload (i := 5) 3 dX9_readDigits_8 rfl ?_
    refine eg_if_lt 58 dX9_readDigits_10 rfl (fun c1 => ?_) (fun c1 => ?_)
    · replace hF := eg_it c1 hF
      exact eg_sub [2] [(4, .int l4)] rfl (hk0 l4 h (Option.some.inj hF).symm)
    · replace hF := eg_if c1 hF
      refine eg_iload (i := 5) 3 dX9_readDigits_13 rfl ?_
      refine eg_aload_n (i := 2) 0 dX9_readDigits_15 rfl rfl ?_
      replace hF := eg_bind hF; obtain ⟨v2, e3, hF⟩ := hF
      refine eg_alen dX9_readDigits_16 e3 ?_
      refine eg_ic_ge 34 dX9_readDigits_17 rfl (fun c4 => ?_) (fun c4 => ?_)
      · replace hF := eg_it c4 hF
        exact eg_sub [] [] rfl (hk1 h (Option.some.inj hF).symm)
      · replace hF := eg_if c4 hF
        refine eg_iload (i := 4) 2 dX9_readDigits_20 rfl ?_
        refine eg_if_lt 34 dX9_readDigits_22 rfl (fun c5 => ?_) (fun c5 => ?_)
        · replace hF := eg_it c5 hF
          exact eg_sub [] [] rfl (hk1 h (Option.some.inj hF).symm)
        · replace hF := eg_if c5 hF
          refine eg_iload (i := 4) 2 dX9_readDigits_25 rfl ?_
          refine eg_bipush (v := (10 : Int32)) dX9_readDigits_27 (by decide) ?_
          refine eg_irem dX9_readDigits_29 (by decide) ?_
          refine eg_iload_n (i := 3) 1 dX9_readDigits_30 rfl rfl ?_
          refine eg_ic_lt 36 dX9_readDigits_31 rfl (fun c6 => ?_) (fun c6 => ?_)
          · replace hF := eg_it c6 hF
            refine eg_aload_n (i := 2) 0 dX9_readDigits_36 rfl rfl ?_
            refine eg_iload (i := 5) 3 dX9_readDigits_37 rfl ?_
            refine eg_iload (i := 4) 2 dX9_readDigits_39 rfl ?_
            refine eg_bipush (v := (10 : Int32)) dX9_readDigits_41 (by decide) ?_
            refine eg_irem dX9_readDigits_43 (by decide) ?_
            replace hF := eg_bind hF; obtain ⟨h7, e8, hF⟩ := hF
            refine eg_iast dX9_readDigits_44 e8 ?_
            refine eg_iload (i := 4) 2 dX9_readDigits_45 rfl ?_
            refine eg_bipush (v := (10 : Int32)) dX9_readDigits_47 (by decide) ?_
            refine eg_idiv dX9_readDigits_49 (by decide) ?_
            replace hF := eg_bind hF; obtain ⟨v9, e10, hF⟩ := hF
            replace e10 := Option.some.inj e10
            rw [e10]
            refine eg_istore (i := 4) [(4, .int v9), (2, .ref l2), (3, .int l3), (5, .int l5)] dX9_readDigits_50 (Nat.le_of_ble_eq_true rfl) rfl ?_
            refine eg_iinc (i := 5) (v := (l5 + (-1 : Int32))) 3 [(5, .int (l5 + (-1 : Int32))), (4, .int v9), (2, .ref l2), (3, .int l3)] dX9_readDigits_52 rfl rfl (Nat.le_of_ble_eq_true rfl) rfl ?_
            refine eg_goto 8 dX9_readDigits_55 rfl ?_
            exact eg_sub [2, 3, 1, 0] [(2, .ref l2), (3, .int l3), (4, .int v9), (5, .int (l5 + (-1 : Int32)))] rfl (hrec h7 l2 l3 v9 (l5 + (-1 : Int32)) hF)
          · replace hF := eg_if c6 hF
            exact eg_sub [] [] rfl (hk1 h (Option.some.inj hF).symm)
def fX9_readDigits (h : eg_H) (l0 : Nat) (l1 : Int32) (l2 : Nat) (l3 : Int32) : Option (Int32 × eg_H) :=
  if eg_isO h 9 l0 then (
    (some ((l3 - (1 : Int32)))).bind fun v1 =>
    (fX9_readDigits_L8 eg_F h l2 l3 l1 v1).bind fun e =>
    match e with
    | .inl (v5, h6) =>
      if v5 = 0 then
        (some ((1 : Int32), h6))
      else
        some ((0 : Int32), h6)
    | .inr (h9) =>
      some ((0 : Int32), h9)) else none
theorem fX9_readDigits_O {h : eg_H} {l0 : Nat} {l1 : Int32} {l2 : Nat} {l3 : Int32} {rE : Int32} {hE : eg_H} (hF : fX9_readDigits h l0 l1 l2 l3 = some (rE, hE)) : eg_isO h 9 l0 := (eg_ifn hF).1
set_option maxRecDepth 20000 in
theorem mX9_readDigits {h : eg_H} {l0 : Nat} {l1 : Int32} {l2 : Nat} {l3 : Int32} {rE : Int32} {hE : eg_H} (hF : fX9_readDigits h l0 l1 l2 l3 = some (rE, hE)) : eg_Met yX9_readDigits cX9_readDigits 6 (some .boolean) 1 [.ref l0, .int l1, .ref l2, .int l3] h (some (.int rE)) hE := by
  refine eg_enter rfl (Nat.le_of_ble_eq_true rfl) ?_
  show eg_AW (RX9, cX9_readDigits, 6, 1, none, "readDigits", (some .boolean)) (eg_Zm (some (.int rE)) hE h) (eg_nc hE) (eg_ns hE) h 0 [(0, .ref l0), (1, .int l1), (2, .ref l2), (3, .int l3)] [] h
  replace hF := (eg_ifn hF).2
  refine eg_iload_n (i := 1) 1 dX9_readDigits_0 rfl rfl ?_
  refine eg_istore (i := 4) [(4, .int l1), (0, .ref l0), (1, .int l1), (2, .ref l2), (3, .int l3)] dX9_readDigits_1 (Nat.le_of_ble_eq_true rfl) rfl ?_
  refine eg_iload_n (i := 3) 4 dX9_readDigits_3 rfl rfl ?_
  refine eg_iconst (v := (1 : Int32)) dX9_readDigits_4 (by decide) ?_
  refine eg_isub dX9_readDigits_5 ?_
  replace hF := eg_bind hF; obtain ⟨v1, e2, hF⟩ := hF
  replace e2 := Option.some.inj e2
  rw [e2]
  refine eg_istore (i := 5) [(5, .int v1), (4, .int l1), (0, .ref l0), (1, .int l1), (2, .ref l2), (3, .int l3)] dX9_readDigits_6 (Nat.le_of_ble_eq_true rfl) rfl ?_
  replace hF := eg_bind hF; obtain ⟨x4, e3, hF⟩ := hF
  refine eg_sub [4, 5, 1, 0] [(2, .ref l2), (3, .int l3), (4, .int l1), (5, .int v1)] rfl (fX9_readDigits_L8_ok eg_F h l2 l3 l1 v1 x4 e3 ?_ ?_)
  · intro v5 h6 e8
    subst e8
    refine eg_iload (i := 4) 0 dX9_readDigits_58 rfl ?_
    refine eg_if_ne 67 dX9_readDigits_60 rfl (fun c7 => ?_) (fun c7 => ?_)
    · replace hF := eg_it c7 hF
      refine eg_iconst (v := (1 : Int32)) dX9_readDigits_63 (by decide) ?_
      refine eg_goto 68 dX9_readDigits_64 rfl ?_
      exact eg_zretE dX9_readDigits_68 (Or.inr rfl) hF
    · replace hF := eg_if c7 hF
      refine eg_iconst (v := (0 : Int32)) dX9_readDigits_67 (by decide) ?_
      exact eg_zretE dX9_readDigits_68 (Or.inl rfl) hF
  · intro h9 e10
    subst e10
    refine eg_iconst (v := (0 : Int32)) dX9_readDigits_34 (by decide) ?_
    exact eg_zretE dX9_readDigits_35 (Or.inl rfl) hF
theorem dX9_readPairs_0 : decode cX9_readPairs 0 = .ok (.iload_n 2, 1) := by decide +kernel
theorem dX9_readPairs_1 : decode cX9_readPairs 1 = .ok (.ifCond .le 25, 3) := by decide +kernel
theorem dX9_readPairs_4 : decode cX9_readPairs 4 = .ok (.iload_n 2, 1) := by decide +kernel
theorem dX9_readPairs_5 : decode cX9_readPairs 5 = .ok (.aload_n 0, 1) := by decide +kernel
theorem dX9_readPairs_6 : decode cX9_readPairs 6 = .ok (.getfield 15, 3) := by decide +kernel
theorem dX9_readPairs_9 : decode cX9_readPairs 9 = .ok (.arraylength, 1) := by decide +kernel
theorem dX9_readPairs_10 : decode cX9_readPairs 10 = .ok (.if_icmp .gt 16, 3) := by decide +kernel
theorem dX9_readPairs_13 : decode cX9_readPairs 13 = .ok (.aload_n 0, 1) := by decide +kernel
theorem dX9_readPairs_14 : decode cX9_readPairs 14 = .ok (.iload_n 1, 1) := by decide +kernel
theorem dX9_readPairs_15 : decode cX9_readPairs 15 = .ok (.aload_n 0, 1) := by decide +kernel
theorem dX9_readPairs_16 : decode cX9_readPairs 16 = .ok (.getfield 15, 3) := by decide +kernel
theorem dX9_readPairs_19 : decode cX9_readPairs 19 = .ok (.iload_n 2, 1) := by decide +kernel
theorem dX9_readPairs_20 : decode cX9_readPairs 20 = .ok (.invokevirtual 66, 3) := by decide +kernel
theorem dX9_readPairs_23 : decode cX9_readPairs 23 = .ok (.ifCond .ne 5, 3) := by decide +kernel
theorem dX9_readPairs_26 : decode cX9_readPairs 26 = .ok (.iconst 0, 1) := by decide +kernel
theorem dX9_readPairs_27 : decode cX9_readPairs 27 = .ok (.ireturn, 1) := by decide +kernel
theorem dX9_readPairs_28 : decode cX9_readPairs 28 = .ok (.iconst 0, 1) := by decide +kernel
theorem dX9_readPairs_29 : decode cX9_readPairs 29 = .ok (.istore_n 3, 1) := by decide +kernel
theorem dX9_readPairs_30 : decode cX9_readPairs 30 = .ok (.iconst 0, 1) := by decide +kernel
theorem dX9_readPairs_31 : decode cX9_readPairs 31 = .ok (.istore 4, 2) := by decide +kernel
theorem dX9_readPairs_33 : decode cX9_readPairs 33 = .ok (.iload 4, 2) := by decide +kernel
theorem dX9_readPairs_35 : decode cX9_readPairs 35 = .ok (.iload_n 2, 1) := by decide +kernel
theorem dX9_readPairs_36 : decode cX9_readPairs 36 = .ok (.if_icmp .ge 66, 3) := by decide +kernel
theorem dX9_readPairs_39 : decode cX9_readPairs 39 = .ok (.aload_n 0, 1) := by decide +kernel
theorem dX9_readPairs_40 : decode cX9_readPairs 40 = .ok (.getfield 15, 3) := by decide +kernel
theorem dX9_readPairs_43 : decode cX9_readPairs 43 = .ok (.iload 4, 2) := by decide +kernel
theorem dX9_readPairs_45 : decode cX9_readPairs 45 = .ok (.iaload, 1) := by decide +kernel
theorem dX9_readPairs_46 : decode cX9_readPairs 46 = .ok (.istore 5, 2) := by decide +kernel
theorem dX9_readPairs_48 : decode cX9_readPairs 48 = .ok (.iload 5, 2) := by decide +kernel
theorem dX9_readPairs_50 : decode cX9_readPairs 50 = .ok (.iload 4, 2) := by decide +kernel
theorem dX9_readPairs_52 : decode cX9_readPairs 52 = .ok (.if_icmp .eq 15, 3) := by decide +kernel
theorem dX9_readPairs_55 : decode cX9_readPairs 55 = .ok (.aload_n 0, 1) := by decide +kernel
theorem dX9_readPairs_56 : decode cX9_readPairs 56 = .ok (.getfield 15, 3) := by decide +kernel
theorem dX9_readPairs_59 : decode cX9_readPairs 59 = .ok (.iload 5, 2) := by decide +kernel
theorem dX9_readPairs_61 : decode cX9_readPairs 61 = .ok (.iaload, 1) := by decide +kernel
theorem dX9_readPairs_62 : decode cX9_readPairs 62 = .ok (.iload 4, 2) := by decide +kernel
theorem dX9_readPairs_64 : decode cX9_readPairs 64 = .ok (.if_icmp .eq 5, 3) := by decide +kernel
theorem dX9_readPairs_67 : decode cX9_readPairs 67 = .ok (.iconst 0, 1) := by decide +kernel
theorem dX9_readPairs_68 : decode cX9_readPairs 68 = .ok (.ireturn, 1) := by decide +kernel
theorem dX9_readPairs_69 : decode cX9_readPairs 69 = .ok (.iload 4, 2) := by decide +kernel
theorem dX9_readPairs_71 : decode cX9_readPairs 71 = .ok (.iload 5, 2) := by decide +kernel
theorem dX9_readPairs_73 : decode cX9_readPairs 73 = .ok (.if_icmp .ge 23, 3) := by decide +kernel
theorem dX9_readPairs_76 : decode cX9_readPairs 76 = .ok (.iload_n 3, 1) := by decide +kernel
theorem dX9_readPairs_77 : decode cX9_readPairs 77 = .ok (.aload_n 0, 1) := by decide +kernel
theorem dX9_readPairs_78 : decode cX9_readPairs 78 = .ok (.getfield 19, 3) := by decide +kernel
theorem dX9_readPairs_81 : decode cX9_readPairs 81 = .ok (.arraylength, 1) := by decide +kernel
theorem dX9_readPairs_82 : decode cX9_readPairs 82 = .ok (.if_icmp .ge 14, 3) := by decide +kernel
theorem dX9_readPairs_85 : decode cX9_readPairs 85 = .ok (.aload_n 0, 1) := by decide +kernel
theorem dX9_readPairs_86 : decode cX9_readPairs 86 = .ok (.getfield 19, 3) := by decide +kernel
theorem dX9_readPairs_89 : decode cX9_readPairs 89 = .ok (.iload_n 3, 1) := by decide +kernel
theorem dX9_readPairs_90 : decode cX9_readPairs 90 = .ok (.iload 4, 2) := by decide +kernel
theorem dX9_readPairs_92 : decode cX9_readPairs 92 = .ok (.iastore, 1) := by decide +kernel
theorem dX9_readPairs_93 : decode cX9_readPairs 93 = .ok (.iinc 3 1, 3) := by decide +kernel
theorem dX9_readPairs_96 : decode cX9_readPairs 96 = .ok (.iinc 4 1, 3) := by decide +kernel
theorem dX9_readPairs_99 : decode cX9_readPairs 99 = .ok (.goto (-66), 3) := by decide +kernel
theorem dX9_readPairs_102 : decode cX9_readPairs 102 = .ok (.iload_n 3, 1) := by decide +kernel
theorem dX9_readPairs_103 : decode cX9_readPairs 103 = .ok (.ireturn, 1) := by decide +kernel
def fX9_readPairs_L33 : Nat → eg_H → Nat → Int32 → Int32 → Int32 → Option ((Int32 × eg_H) ⊕ (eg_H))
  | 0, _, _, _, _, _ => none
  | n + 1, h, l0, l2, l3, l4 =>
    if l2 ≤ l4 then
      (some (.inl (l3, h)))
    else
      (eg_gR h 9 1 l0).bind fun p2 =>
      (eg_aI h 100 p2 l4).bind fun v4 =>
      if v4 = l4 then
        (some (.inr (h)))
      else
        (eg_gR h 9 1 l0).bind fun p7 =>
        (eg_aI h 100 p7 v4).bind fun v9 =>
        if v9 = l4 then
          (if v4 ≤ l4 then
            (fX9_readPairs_L33 n h l0 l2 l3 (l4 + (1 : Int32)))
          else
            (eg_gR h 9 2 l0).bind fun p13 =>
            (eg_al h p13).bind fun v15 =>
            if v15 ≤ l3 then
              (fX9_readPairs_L33 n h l0 l2 l3 (l4 + (1 : Int32)))
            else
              (eg_gR h 9 2 l0).bind fun p18 =>
              (eg_wI h 100 p18 l3 l4).bind fun h20 =>
              fX9_readPairs_L33 n h20 l0 l2 (l3 + (1 : Int32)) (l4 + (1 : Int32)))
        else
          some (.inr (h))
set_option maxRecDepth 20000 in
theorem fX9_readPairs_L33_ok {h0 : eg_H} {Z : eg_C → State → Prop} {N S : Nat} : ∀ (n : Nat) (h : eg_H) (l0 : Nat) (l2 : Int32) (l3 : Int32) (l4 : Int32) (eE : (Int32 × eg_H) ⊕ (eg_H)), fX9_readPairs_L33 n h l0 l2 l3 l4 = some eE → (hk0 : ∀ (l3 : Int32) (h : eg_H), eE = (.inl (l3, h)) → eg_AW (RX9, cX9_readPairs, 6, 2, none, "readPairs", (some .int)) Z N S h0 102 [(3, .int l3)] [] h) → (hk1 : ∀  (h : eg_H), eE = (.inr (h)) → eg_AW (RX9, cX9_readPairs, 6, 2, none, "readPairs", (some .int)) Z N S h0 67 [] [] h) → eg_AW (RX9, cX9_readPairs, 6, 2, none, "readPairs", (some .int)) Z N S h0 33 [(0, .ref l0), (2, .int l2), (3, .int l3), (4, .int l4)] [] h := by
  intro n
  induction n with
  | zero => intro h l0 l2 l3 l4 eE hF; exact absurd hF (by intro q; cases q)
  | succ n ih =>
    intro h l0 l2 l3 l4 eE hF hk0 hk1
    have hrec := fun (h' : eg_H) (l0 : Nat) (l2 : Int32) (l3 : Int32) (l4 : Int32) hq => ih h' l0 l2 l3 l4 eE hq hk0 hk1
    refine eg_iload (i := 4) 3 dX9_readPairs_33 rfl ?_
    refine eg_iload_n (i := 2) 1 dX9_readPairs_35 rfl rfl ?_
    refine eg_ic_ge 102 dX9_readPairs_36 rfl (fun c1 => ?_) (fun c1 => ?_)
    · replace hF := eg_it c1 hF
      exact eg_sub [2] [(3, .int l3)] rfl (hk0 l3 h (Option.some.inj hF).symm)
    · replace hF := eg_if c1 hF
      refine eg_aload_n (i := 0) 0 dX9_readPairs_39 rfl rfl ?_
      replace hF := eg_bind hF; obtain ⟨p2, e3, hF⟩ := hF
      refine eg_getR dX9_readPairs_40 e3 (Nat.le_of_ble_eq_true rfl) (Nat.le_of_ble_eq_true rfl) rfl ew_319 ?_
      refine eg_iload (i := 4) 3 dX9_readPairs_43 rfl ?_
      replace hF := eg_bind hF; obtain ⟨v4, e5, hF⟩ := hF
      refine eg_iald dX9_readPairs_45 e5 ?_
      refine eg_istore (i := 5) [(5, .int v4), (0, .ref l0), (2, .int l2), (3, .int l3), (4, .int l4)] dX9_readPairs_46 (Nat.le_of_ble_eq_true rfl) rfl ?_
      refine eg_iload (i := 5) 0 dX9_readPairs_48 rfl ?_
      refine eg_iload (i := 4) 4 dX9_readPairs_50 rfl ?_
      refine eg_ic_eq 67 dX9_readPairs_52 rfl (fun c6 => ?_) (fun c6 => ?_)
      · replace hF := eg_it c6 hF
        exact eg_sub [] [] rfl (hk1 h (Option.some.inj hF).symm)
      · replace hF := eg_if c6 hF
        refine eg_aload_n (i := 0) 1 dX9_readPairs_55 rfl rfl ?_
        replace hF := eg_bind hF; obtain ⟨p7, e8, hF⟩ := hF
        refine eg_getR dX9_readPairs_56 e8 (Nat.le_of_ble_eq_true rfl) (Nat.le_of_ble_eq_true rfl) rfl ew_319 ?_
        refine eg_iload (i := 5) 0 dX9_readPairs_59 rfl ?_
        replace hF := eg_bind hF; obtain ⟨v9, e10, hF⟩ := hF
        refine eg_iald dX9_readPairs_61 e10 ?_
        refine eg_iload (i := 4) 4 dX9_readPairs_62 rfl ?_
        refine eg_ic_eq 69 dX9_readPairs_64 rfl (fun c11 => ?_) (fun c11 => ?_)
        · replace hF := eg_it c11 hF
          refine eg_iload (i := 4) 4 dX9_readPairs_69 rfl ?_
          refine eg_iload (i := 5) 0 dX9_readPairs_71 rfl ?_
          refine eg_ic_ge 96 dX9_readPairs_73 rfl (fun c12 => ?_) (fun c12 => ?_)
          · replace hF := eg_it c12 hF
            refine eg_iinc (i := 4) (v := (l4 + (1 : Int32))) 4 [(4, .int (l4 + (1 : Int32))), (5, .int v4), (0, .ref l0), (2, .int l2), (3, .int l3)] dX9_readPairs_96 rfl rfl (Nat.le_of_ble_eq_true rfl) rfl ?_
            refine eg_goto 33 dX9_readPairs_99 rfl ?_
            exact eg_sub [2, 3, 4, 0] [(0, .ref l0), (2, .int l2), (3, .int l3), (4, .int (l4 + (1 : Int32)))] rfl (hrec h l0 l2 l3 (l4 + (1 : Int32)) hF)
          · replace hF := eg_if c12 hF
            refine eg_iload_n (i := 3) 3 dX9_readPairs_76 rfl rfl ?_
            refine eg_aload_n (i := 0) 1 dX9_readPairs_77 rfl rfl ?_
            replace hF := eg_bind hF; obtain ⟨p13, e14, hF⟩ := hF
            refine eg_getR dX9_readPairs_78 e14 (Nat.le_of_ble_eq_true rfl) (Nat.le_of_ble_eq_true rfl) rfl ew_320 ?_
            replace hF := eg_bind hF; obtain ⟨v15, e16, hF⟩ := hF
            refine eg_alen dX9_readPairs_81 e16 ?_
            refine eg_ic_ge 96 dX9_readPairs_82 rfl (fun c17 => ?_) (fun c17 => ?_)
            · replace hF := eg_it c17 hF
              refine eg_iinc (i := 4) (v := (l4 + (1 : Int32))) 4 [(4, .int (l4 + (1 : Int32))), (5, .int v4), (0, .ref l0), (2, .int l2), (3, .int l3)] dX9_readPairs_96 rfl rfl (Nat.le_of_ble_eq_true rfl) rfl ?_
              refine eg_goto 33 dX9_readPairs_99 rfl ?_
              exact eg_sub [2, 3, 4, 0] [(0, .ref l0), (2, .int l2), (3, .int l3), (4, .int (l4 + (1 : Int32)))] rfl (hrec h l0 l2 l3 (l4 + (1 : Int32)) hF)
            · replace hF := eg_if c17 hF
              refine eg_aload_n (i := 0) 1 dX9_readPairs_85 rfl rfl ?_
              replace hF := eg_bind hF; obtain ⟨p18, e19, hF⟩ := hF
              refine eg_getR dX9_readPairs_86 e19 (Nat.le_of_ble_eq_true rfl) (Nat.le_of_ble_eq_true rfl) rfl ew_320 ?_
              refine eg_iload_n (i := 3) 3 dX9_readPairs_89 rfl rfl ?_
              refine eg_iload (i := 4) 4 dX9_readPairs_90 rfl ?_
              replace hF := eg_bind hF; obtain ⟨h20, e21, hF⟩ := hF
              refine eg_iast dX9_readPairs_92 e21 ?_
              refine eg_iinc (i := 3) (v := (l3 + (1 : Int32))) 3 [(3, .int (l3 + (1 : Int32))), (5, .int v4), (0, .ref l0), (2, .int l2), (4, .int l4)] dX9_readPairs_93 rfl rfl (Nat.le_of_ble_eq_true rfl) rfl ?_
              refine eg_iinc (i := 4) (v := (l4 + (1 : Int32))) 4 [(4, .int (l4 + (1 : Int32))), (3, .int (l3 + (1 : Int32))), (5, .int v4), (0, .ref l0), (2, .int l2)] dX9_readPairs_96 rfl rfl (Nat.le_of_ble_eq_true rfl) rfl ?_
              refine eg_goto 33 dX9_readPairs_99 rfl ?_
              exact eg_sub [3, 4, 1, 0] [(0, .ref l0), (2, .int l2), (3, .int (l3 + (1 : Int32))), (4, .int (l4 + (1 : Int32)))] rfl (hrec h20 l0 l2 (l3 + (1 : Int32)) (l4 + (1 : Int32)) hF)
        · replace hF := eg_if c11 hF
          exact eg_sub [] [] rfl (hk1 h (Option.some.inj hF).symm)
def fX9_readPairs (h : eg_H) (l0 : Nat) (l1 : Int32) (l2 : Int32) : Option (Int32 × eg_H) :=
  if eg_isO h 9 l0 then (
    if l2 ≤ 0 then
      (some ((0 : Int32), h))
    else
      (eg_gR h 9 1 l0).bind fun p2 =>
      (eg_al h p2).bind fun v4 =>
      if v4 < l2 then
        (some ((0 : Int32), h))
      else
        (eg_gR h 9 1 l0).bind fun p7 =>
        (fX9_readDigits h l0 l1 p7 l2).bind fun ⟨v10, h9⟩ =>
        if v10 = 0 then
          (some ((0 : Int32), h9))
        else
          (fX9_readPairs_L33 eg_F h9 l0 l2 (0 : Int32) (0 : Int32)).bind fun e =>
          match e with
          | .inl (v15, h16) =>
            some (v15, h16)
          | .inr (h18) =>
            some ((0 : Int32), h18)) else none
theorem fX9_readPairs_O {h : eg_H} {l0 : Nat} {l1 : Int32} {l2 : Int32} {rE : Int32} {hE : eg_H} (hF : fX9_readPairs h l0 l1 l2 = some (rE, hE)) : eg_isO h 9 l0 := (eg_ifn hF).1
set_option maxRecDepth 20000 in
theorem mX9_readPairs {h : eg_H} {l0 : Nat} {l1 : Int32} {l2 : Int32} {rE : Int32} {hE : eg_H} (hF : fX9_readPairs h l0 l1 l2 = some (rE, hE)) : eg_Met yX9_readPairs cX9_readPairs 6 (some .int) 2 [.ref l0, .int l1, .int l2] h (some (.int rE)) hE := by
  refine eg_enter rfl (Nat.le_of_ble_eq_true rfl) ?_
  show eg_AW (RX9, cX9_readPairs, 6, 2, none, "readPairs", (some .int)) (eg_Zm (some (.int rE)) hE h) (eg_nc hE) (eg_ns hE) h 0 [(0, .ref l0), (1, .int l1), (2, .int l2)] [] h
  replace hF := (eg_ifn hF).2
  refine eg_iload_n (i := 2) 2 dX9_readPairs_0 rfl rfl ?_
  refine eg_if_le 26 dX9_readPairs_1 rfl (fun c1 => ?_) (fun c1 => ?_)
  · replace hF := eg_it c1 hF
    refine eg_iconst (v := (0 : Int32)) dX9_readPairs_26 (by decide) ?_
    exact eg_iretE dX9_readPairs_27 hF
  · replace hF := eg_if c1 hF
    refine eg_iload_n (i := 2) 2 dX9_readPairs_4 rfl rfl ?_
    refine eg_aload_n (i := 0) 0 dX9_readPairs_5 rfl rfl ?_
    replace hF := eg_bind hF; obtain ⟨p2, e3, hF⟩ := hF
    refine eg_getR dX9_readPairs_6 e3 (Nat.le_of_ble_eq_true rfl) (Nat.le_of_ble_eq_true rfl) rfl ew_319 ?_
    replace hF := eg_bind hF; obtain ⟨v4, e5, hF⟩ := hF
    refine eg_alen dX9_readPairs_9 e5 ?_
    refine eg_ic_gt 26 dX9_readPairs_10 rfl (fun c6 => ?_) (fun c6 => ?_)
    · replace hF := eg_it c6 hF
      refine eg_iconst (v := (0 : Int32)) dX9_readPairs_26 (by decide) ?_
      exact eg_iretE dX9_readPairs_27 hF
    · replace hF := eg_if c6 hF
      refine eg_aload_n (i := 0) 0 dX9_readPairs_13 rfl rfl ?_
      refine eg_iload_n (i := 1) 1 dX9_readPairs_14 rfl rfl ?_
      refine eg_aload_n (i := 0) 0 dX9_readPairs_15 rfl rfl ?_
      replace hF := eg_bind hF; obtain ⟨p7, e8, hF⟩ := hF
      refine eg_getR dX9_readPairs_16 e8 (Nat.le_of_ble_eq_true rfl) (Nat.le_of_ble_eq_true rfl) rfl ew_319 ?_
      refine eg_iload_n (i := 2) 2 dX9_readPairs_19 rfl rfl ?_
      replace hF := eg_bind hF; obtain ⟨⟨v10, h9⟩, e11, hF⟩ := hF
      refine eg_callV (c := 9) (n := 3) [.int l1, .ref p7, .int l2] dX9_readPairs_20 (mX9_readDigits e11) rfl (fX9_readDigits_O e11) (Nat.le_of_ble_eq_true rfl) rfl ew_1144 ew_1146 ew_38 ew_109 ew_1147 hy_X9_readDigits rfl (Nat.le_of_ble_eq_true rfl) (Nat.le_of_ble_eq_true rfl) (Nat.le_of_ble_eq_true rfl) ?_
      refine eg_if_ne 28 dX9_readPairs_23 rfl (fun c12 => ?_) (fun c12 => ?_)
      · replace hF := eg_it c12 hF
        refine eg_iconst (v := (0 : Int32)) dX9_readPairs_26 (by decide) ?_
        exact eg_iretE dX9_readPairs_27 hF
      · replace hF := eg_if c12 hF
        refine eg_iconst (v := (0 : Int32)) dX9_readPairs_28 (by decide) ?_
        refine eg_istore_n (i := 3) [(3, .int (0 : Int32)), (0, .ref l0), (1, .int l1), (2, .int l2)] dX9_readPairs_29 rfl (Nat.le_of_ble_eq_true rfl) rfl ?_
        refine eg_iconst (v := (0 : Int32)) dX9_readPairs_30 (by decide) ?_
        refine eg_istore (i := 4) [(4, .int (0 : Int32)), (3, .int (0 : Int32)), (0, .ref l0), (1, .int l1), (2, .int l2)] dX9_readPairs_31 (Nat.le_of_ble_eq_true rfl) rfl ?_
        replace hF := eg_bind hF; obtain ⟨x14, e13, hF⟩ := hF
        refine eg_sub [2, 4, 1, 0] [(0, .ref l0), (2, .int l2), (3, .int (0 : Int32)), (4, .int (0 : Int32))] rfl (fX9_readPairs_L33_ok eg_F h9 l0 l2 (0 : Int32) (0 : Int32) x14 e13 ?_ ?_)
        · intro v15 h16 e17
          subst e17
          refine eg_iload_n (i := 3) 0 dX9_readPairs_102 rfl rfl ?_
          exact eg_iretE dX9_readPairs_103 hF
        · intro h18 e19
          subst e19
          refine eg_iconst (v := (0 : Int32)) dX9_readPairs_67 (by decide) ?_
          exact eg_iretE dX9_readPairs_68 hF
