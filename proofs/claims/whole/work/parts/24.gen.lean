theorem dX6_readClause_0 : decode cX6_readClause 0 = .ok (.aload_n 0, 1) := by decide +kernel
theorem dX6_readClause_1 : decode cX6_readClause 1 = .ok (.getfield 19, 3) := by decide +kernel
theorem dX6_readClause_4 : decode cX6_readClause 4 = .ok (.bipush 121, 2) := by decide +kernel
theorem dX6_readClause_6 : decode cX6_readClause 6 = .ok (.invokevirtual 50, 3) := by decide +kernel
theorem dX6_readClause_9 : decode cX6_readClause 9 = .ok (.aload_n 0, 1) := by decide +kernel
theorem dX6_readClause_10 : decode cX6_readClause 10 = .ok (.getfield 19, 3) := by decide +kernel
theorem dX6_readClause_13 : decode cX6_readClause 13 = .ok (.bipush 58, 2) := by decide +kernel
theorem dX6_readClause_15 : decode cX6_readClause 15 = .ok (.invokevirtual 50, 3) := by decide +kernel
theorem dX6_readClause_18 : decode cX6_readClause 18 = .ok (.aload_n 0, 1) := by decide +kernel
theorem dX6_readClause_19 : decode cX6_readClause 19 = .ok (.getfield 19, 3) := by decide +kernel
theorem dX6_readClause_22 : decode cX6_readClause 22 = .ok (.invokevirtual 35, 3) := by decide +kernel
theorem dX6_readClause_25 : decode cX6_readClause 25 = .ok (.bipush 33, 2) := by decide +kernel
theorem dX6_readClause_27 : decode cX6_readClause 27 = .ok (.if_icmp .eq 19, 3) := by decide +kernel
theorem dX6_readClause_30 : decode cX6_readClause 30 = .ok (.aload_n 0, 1) := by decide +kernel
theorem dX6_readClause_31 : decode cX6_readClause 31 = .ok (.getfield 19, 3) := by decide +kernel
theorem dX6_readClause_34 : decode cX6_readClause 34 = .ok (.invokevirtual 35, 3) := by decide +kernel
theorem dX6_readClause_37 : decode cX6_readClause 37 = .ok (.bipush 40, 2) := by decide +kernel
theorem dX6_readClause_39 : decode cX6_readClause 39 = .ok (.if_icmp .eq 7, 3) := by decide +kernel
theorem dX6_readClause_42 : decode cX6_readClause 42 = .ok (.iconst 1, 1) := by decide +kernel
theorem dX6_readClause_43 : decode cX6_readClause 43 = .ok (.goto 4, 3) := by decide +kernel
theorem dX6_readClause_46 : decode cX6_readClause 46 = .ok (.iconst 0, 1) := by decide +kernel
theorem dX6_readClause_47 : decode cX6_readClause 47 = .ok (.istore_n 1, 1) := by decide +kernel
theorem dX6_readClause_48 : decode cX6_readClause 48 = .ok (.iload_n 1, 1) := by decide +kernel
theorem dX6_readClause_49 : decode cX6_readClause 49 = .ok (.ifCond .eq 8, 3) := by decide +kernel
theorem dX6_readClause_52 : decode cX6_readClause 52 = .ok (.aload_n 0, 1) := by decide +kernel
theorem dX6_readClause_53 : decode cX6_readClause 53 = .ok (.iconst 0, 1) := by decide +kernel
theorem dX6_readClause_54 : decode cX6_readClause 54 = .ok (.invokevirtual 54, 3) := by decide +kernel
theorem dX6_readClause_57 : decode cX6_readClause 57 = .ok (.iload_n 1, 1) := by decide +kernel
theorem dX6_readClause_58 : decode cX6_readClause 58 = .ok (.ifCond .eq 10, 3) := by decide +kernel
theorem dX6_readClause_61 : decode cX6_readClause 61 = .ok (.aload_n 0, 1) := by decide +kernel
theorem dX6_readClause_62 : decode cX6_readClause 62 = .ok (.invokevirtual 57, 3) := by decide +kernel
theorem dX6_readClause_65 : decode cX6_readClause 65 = .ok (.ifCond .eq 29, 3) := by decide +kernel
theorem dX6_readClause_68 : decode cX6_readClause 68 = .ok (.aload_n 0, 1) := by decide +kernel
theorem dX6_readClause_69 : decode cX6_readClause 69 = .ok (.iconst 0, 1) := by decide +kernel
theorem dX6_readClause_70 : decode cX6_readClause 70 = .ok (.iload_n 1, 1) := by decide +kernel
theorem dX6_readClause_71 : decode cX6_readClause 71 = .ok (.invokevirtual 60, 3) := by decide +kernel
theorem dX6_readClause_74 : decode cX6_readClause 74 = .ok (.aload_n 0, 1) := by decide +kernel
theorem dX6_readClause_75 : decode cX6_readClause 75 = .ok (.getfield 19, 3) := by decide +kernel
theorem dX6_readClause_78 : decode cX6_readClause 78 = .ok (.bipush 63, 2) := by decide +kernel
theorem dX6_readClause_80 : decode cX6_readClause 80 = .ok (.invokevirtual 50, 3) := by decide +kernel
theorem dX6_readClause_83 : decode cX6_readClause 83 = .ok (.aload_n 0, 1) := by decide +kernel
theorem dX6_readClause_84 : decode cX6_readClause 84 = .ok (.bipush (-16), 2) := by decide +kernel
theorem dX6_readClause_86 : decode cX6_readClause 86 = .ok (.invokevirtual 64, 3) := by decide +kernel
theorem dX6_readClause_89 : decode cX6_readClause 89 = .ok (.aload_n 0, 1) := by decide +kernel
theorem dX6_readClause_90 : decode cX6_readClause 90 = .ok (.iconst 0, 1) := by decide +kernel
theorem dX6_readClause_91 : decode cX6_readClause 91 = .ok (.invokevirtual 54, 3) := by decide +kernel
theorem dX6_readClause_94 : decode cX6_readClause 94 = .ok (.aload_n 0, 1) := by decide +kernel
theorem dX6_readClause_95 : decode cX6_readClause 95 = .ok (.bipush (-17), 2) := by decide +kernel
theorem dX6_readClause_97 : decode cX6_readClause 97 = .ok (.invokevirtual 64, 3) := by decide +kernel
theorem dX6_readClause_100 : decode cX6_readClause 100 = .ok (.return_, 1) := by decide +kernel
def fX6_readClause_j68 (h : eg_H) (l0 : Nat) (l1 : Int32) : Option (eg_H) :=
  (fX6_readCondition (fX6_readUnit eg_D) h l0 (0 : Int32) l1).bind fun h1 =>
  (eg_gR h1 6 0 l0).bind fun p3 =>
  (fX10_need h1 p3 (63 : Int32)).bind fun h5 =>
  (fX6_emit h5 l0 (-16 : Int32)).bind fun h7 =>
  (fX6_readSum eg_D h7 l0 (0 : Int32)).bind fun h9 =>
  (fX6_emit h9 l0 (-17 : Int32)).bind fun h11 =>
  some h11
set_option maxRecDepth 20000 in
theorem fX6_readClause_j68_ok {h0 : eg_H} (h : eg_H) (l0 : Nat) (l1 : Int32) {hE : eg_H} (hF : fX6_readClause_j68 h l0 l1 = some hE) : eg_AW (RX6, cX6_readClause, 2, 453, none, "readClause", none) (eg_Zm none hE h0) (eg_nc hE) (eg_ns hE) h0 68 [(0, .ref l0), (1, .int l1)] [] h := by
  refine eg_aload_n (i := 0) 0 dX6_readClause_68 rfl rfl ?_
  refine eg_iconst (v := (0 : Int32)) dX6_readClause_69 (by decide) ?_
  refine eg_iload_n (i := 1) 1 dX6_readClause_70 rfl rfl ?_
  replace hF := eg_bind hF; obtain ⟨h1, e2, hF⟩ := hF
  refine eg_callV (c := 6) (n := 2) [.int (0 : Int32), .int l1] dX6_readClause_71 (mX6_readCondition (dr := 194 + 4 * eg_D) (Nat.le_add_right _ _) (mX6_readUnit_x eg_D) e2) rfl (fX6_readCondition_O e2) (Nat.le_of_ble_eq_true rfl) rfl ew_560 ew_562 ew_14 ew_103 ew_563 hy_X6_readCondition rfl (Nat.le_of_ble_eq_true rfl) (Nat.le_of_ble_eq_true rfl) (Nat.le_of_ble_eq_true rfl) ?_
  refine eg_aload_n (i := 0) 0 dX6_readClause_74 rfl rfl ?_
  replace hF := eg_bind hF; obtain ⟨p3, e4, hF⟩ := hF
  refine eg_getR dX6_readClause_75 e4 (Nat.le_of_ble_eq_true rfl) (Nat.le_of_ble_eq_true rfl) rfl ew_185 ?_
  refine eg_bipush (v := (63 : Int32)) dX6_readClause_78 (by decide) ?_
  replace hF := eg_bind hF; obtain ⟨h5, e6, hF⟩ := hF
  refine eg_callV (c := 10) (n := 1) [.int (63 : Int32)] dX6_readClause_80 (mX10_need e6) rfl (fX10_need_O e6) (Nat.le_of_ble_eq_true rfl) rfl ew_523 ew_524 ew_525 ew_101 ew_526 hy_X10_need rfl (Nat.le_of_ble_eq_true rfl) (Nat.le_of_ble_eq_true rfl) (Nat.le_of_ble_eq_true rfl) ?_
  refine eg_aload_n (i := 0) 0 dX6_readClause_83 rfl rfl ?_
  refine eg_bipush (v := (-16 : Int32)) dX6_readClause_84 (by decide) ?_
  replace hF := eg_bind hF; obtain ⟨h7, e8, hF⟩ := hF
  refine eg_callV (c := 6) (n := 1) [.int (-16 : Int32)] dX6_readClause_86 (mX6_emit e8) rfl (fX6_emit_O e8) (Nat.le_of_ble_eq_true rfl) rfl ew_546 ew_548 ew_11 ew_103 ew_549 hy_X6_emit rfl (Nat.le_of_ble_eq_true rfl) (Nat.le_of_ble_eq_true rfl) (Nat.le_of_ble_eq_true rfl) ?_
  refine eg_aload_n (i := 0) 0 dX6_readClause_89 rfl rfl ?_
  refine eg_iconst (v := (0 : Int32)) dX6_readClause_90 (by decide) ?_
  replace hF := eg_bind hF; obtain ⟨h9, e10, hF⟩ := hF
  refine eg_callV (c := 6) (n := 1) [.int (0 : Int32)] dX6_readClause_91 (mX6_readSum eg_D e10) rfl (fX6_readSum_O e10) (Nat.le_of_ble_eq_true rfl) rfl ew_528 ew_530 ew_8 ew_103 ew_531 hy_X6_readSum rfl (Nat.le_of_ble_eq_true rfl) (Nat.le_of_ble_eq_true rfl) (Nat.le_of_ble_eq_true rfl) ?_
  refine eg_aload_n (i := 0) 0 dX6_readClause_94 rfl rfl ?_
  refine eg_bipush (v := (-17 : Int32)) dX6_readClause_95 (by decide) ?_
  replace hF := eg_bind hF; obtain ⟨h11, e12, hF⟩ := hF
  refine eg_callV (c := 6) (n := 1) [.int (-17 : Int32)] dX6_readClause_97 (mX6_emit e12) rfl (fX6_emit_O e12) (Nat.le_of_ble_eq_true rfl) rfl ew_546 ew_548 ew_11 ew_103 ew_549 hy_X6_emit rfl (Nat.le_of_ble_eq_true rfl) (Nat.le_of_ble_eq_true rfl) (Nat.le_of_ble_eq_true rfl) ?_
  exact eg_vretE dX6_readClause_100 hF
def fX6_readClause_j57 (h : eg_H) (l0 : Nat) (l1 : Int32) : Option (eg_H) :=
  if l1 = 0 then
    (fX6_readClause_j68 h l0 l1)
  else
    (fX6_comparison h l0).bind fun ⟨v3, h2⟩ =>
    if v3 = 0 then
      ((fX6_emit h2 l0 (-17 : Int32)).bind fun h6 =>
      some h6)
    else
      fX6_readClause_j68 h2 l0 l1
set_option maxRecDepth 20000 in
theorem fX6_readClause_j57_ok {h0 : eg_H} (h : eg_H) (l0 : Nat) (l1 : Int32) {hE : eg_H} (hF : fX6_readClause_j57 h l0 l1 = some hE) : eg_AW (RX6, cX6_readClause, 2, 453, none, "readClause", none) (eg_Zm none hE h0) (eg_nc hE) (eg_ns hE) h0 57 [(0, .ref l0), (1, .int l1)] [] h := by
  refine eg_iload_n (i := 1) 1 dX6_readClause_57 rfl rfl ?_
  refine eg_if_eq 68 dX6_readClause_58 rfl (fun c1 => ?_) (fun c1 => ?_)
  · replace hF := eg_it c1 hF
    exact (fX6_readClause_j68_ok h l0 l1 hF)
  · replace hF := eg_if c1 hF
    refine eg_aload_n (i := 0) 0 dX6_readClause_61 rfl rfl ?_
    replace hF := eg_bind hF; obtain ⟨⟨v3, h2⟩, e4, hF⟩ := hF
    refine eg_callV (c := 6) (n := 0) [] dX6_readClause_62 (mX6_comparison e4) rfl (fX6_comparison_O e4) (Nat.le_of_ble_eq_true rfl) rfl ew_556 ew_558 ew_13 ew_103 ew_559 hy_X6_comparison rfl (Nat.le_of_ble_eq_true rfl) (Nat.le_of_ble_eq_true rfl) (Nat.le_of_ble_eq_true rfl) ?_
    refine eg_if_eq 94 dX6_readClause_65 rfl (fun c5 => ?_) (fun c5 => ?_)
    · replace hF := eg_it c5 hF
      refine eg_aload_n (i := 0) 0 dX6_readClause_94 rfl rfl ?_
      refine eg_bipush (v := (-17 : Int32)) dX6_readClause_95 (by decide) ?_
      replace hF := eg_bind hF; obtain ⟨h6, e7, hF⟩ := hF
      refine eg_callV (c := 6) (n := 1) [.int (-17 : Int32)] dX6_readClause_97 (mX6_emit e7) rfl (fX6_emit_O e7) (Nat.le_of_ble_eq_true rfl) rfl ew_546 ew_548 ew_11 ew_103 ew_549 hy_X6_emit rfl (Nat.le_of_ble_eq_true rfl) (Nat.le_of_ble_eq_true rfl) (Nat.le_of_ble_eq_true rfl) ?_
      exact eg_vretE dX6_readClause_100 hF
    · replace hF := eg_if c5 hF
      exact (fX6_readClause_j68_ok h2 l0 l1 hF)
def fX6_readClause_j47 (h : eg_H) (l0 : Nat) (s0 : Int32) : Option (eg_H) :=
  if s0 = 0 then
    (fX6_readClause_j57 h l0 s0)
  else
    (fX6_readSum eg_D h l0 (0 : Int32)).bind fun h2 =>
    fX6_readClause_j57 h2 l0 s0
set_option maxRecDepth 20000 in
theorem fX6_readClause_j47_ok {h0 : eg_H} (h : eg_H) (l0 : Nat) (s0 : Int32) {hE : eg_H} (hF : fX6_readClause_j47 h l0 s0 = some hE) : eg_AW (RX6, cX6_readClause, 2, 453, none, "readClause", none) (eg_Zm none hE h0) (eg_nc hE) (eg_ns hE) h0 47 [(0, .ref l0)] [.int s0] h := by
  refine eg_istore_n (i := 1) [(1, .int s0), (0, .ref l0)] dX6_readClause_47 rfl (Nat.le_of_ble_eq_true rfl) rfl ?_
  refine eg_iload_n (i := 1) 0 dX6_readClause_48 rfl rfl ?_
  refine eg_if_eq 57 dX6_readClause_49 rfl (fun c1 => ?_) (fun c1 => ?_)
  · replace hF := eg_it c1 hF
    exact eg_sub [1, 0] [(0, .ref l0), (1, .int s0)] rfl (fX6_readClause_j57_ok h l0 s0 hF)
  · replace hF := eg_if c1 hF
    refine eg_aload_n (i := 0) 1 dX6_readClause_52 rfl rfl ?_
    refine eg_iconst (v := (0 : Int32)) dX6_readClause_53 (by decide) ?_
    replace hF := eg_bind hF; obtain ⟨h2, e3, hF⟩ := hF
    refine eg_callV (c := 6) (n := 1) [.int (0 : Int32)] dX6_readClause_54 (mX6_readSum eg_D e3) rfl (fX6_readSum_O e3) (Nat.le_of_ble_eq_true rfl) rfl ew_528 ew_530 ew_8 ew_103 ew_531 hy_X6_readSum rfl (Nat.le_of_ble_eq_true rfl) (Nat.le_of_ble_eq_true rfl) (Nat.le_of_ble_eq_true rfl) ?_
    exact eg_sub [1, 0] [(0, .ref l0), (1, .int s0)] rfl (fX6_readClause_j57_ok h2 l0 s0 hF)
def fX6_readClause_j46 (h : eg_H) (l0 : Nat) : Option (eg_H) :=
  fX6_readClause_j47 h l0 (0 : Int32)
set_option maxRecDepth 20000 in
theorem fX6_readClause_j46_ok {h0 : eg_H} (h : eg_H) (l0 : Nat) {hE : eg_H} (hF : fX6_readClause_j46 h l0 = some hE) : eg_AW (RX6, cX6_readClause, 2, 453, none, "readClause", none) (eg_Zm none hE h0) (eg_nc hE) (eg_ns hE) h0 46 [(0, .ref l0)] [] h := by
  refine eg_iconst (v := (0 : Int32)) dX6_readClause_46 (by decide) ?_
  exact (fX6_readClause_j47_ok h l0 (0 : Int32) hF)
def fX6_readClause (h : eg_H) (l0 : Nat) : Option (eg_H) :=
  if eg_isO h 6 l0 then (
    (eg_gR h 6 0 l0).bind fun p1 =>
    (fX10_need h p1 (121 : Int32)).bind fun h3 =>
    (eg_gR h3 6 0 l0).bind fun p5 =>
    (fX10_need h3 p5 (58 : Int32)).bind fun h7 =>
    (eg_gR h7 6 0 l0).bind fun p9 =>
    (fX10_sign h7 p9).bind fun ⟨v12, h11⟩ =>
    if v12 = (33 : Int32) then
      (fX6_readClause_j46 h11 l0)
    else
      (eg_gR h11 6 0 l0).bind fun p15 =>
      (fX10_sign h11 p15).bind fun ⟨v18, h17⟩ =>
      if v18 = (40 : Int32) then
        (fX6_readClause_j46 h17 l0)
      else
        fX6_readClause_j47 h17 l0 (1 : Int32)) else none
theorem fX6_readClause_O {h : eg_H} {l0 : Nat} {hE : eg_H} (hF : fX6_readClause h l0 = some hE) : eg_isO h 6 l0 := (eg_ifn hF).1
set_option maxRecDepth 20000 in
theorem mX6_readClause {h : eg_H} {l0 : Nat} {hE : eg_H} (hF : fX6_readClause h l0 = some hE) : eg_Met yX6_readClause cX6_readClause 2 none 453 [.ref l0] h none hE := by
  refine eg_enter rfl (Nat.le_of_ble_eq_true rfl) ?_
  show eg_AW (RX6, cX6_readClause, 2, 453, none, "readClause", none) (eg_Zm none hE h) (eg_nc hE) (eg_ns hE) h 0 [(0, .ref l0)] [] h
  replace hF := (eg_ifn hF).2
  refine eg_aload_n (i := 0) 0 dX6_readClause_0 rfl rfl ?_
  replace hF := eg_bind hF; obtain ⟨p1, e2, hF⟩ := hF
  refine eg_getR dX6_readClause_1 e2 (Nat.le_of_ble_eq_true rfl) (Nat.le_of_ble_eq_true rfl) rfl ew_185 ?_
  refine eg_bipush (v := (121 : Int32)) dX6_readClause_4 (by decide) ?_
  replace hF := eg_bind hF; obtain ⟨h3, e4, hF⟩ := hF
  refine eg_callV (c := 10) (n := 1) [.int (121 : Int32)] dX6_readClause_6 (mX10_need e4) rfl (fX10_need_O e4) (Nat.le_of_ble_eq_true rfl) rfl ew_523 ew_524 ew_525 ew_101 ew_526 hy_X10_need rfl (Nat.le_of_ble_eq_true rfl) (Nat.le_of_ble_eq_true rfl) (Nat.le_of_ble_eq_true rfl) ?_
  refine eg_aload_n (i := 0) 0 dX6_readClause_9 rfl rfl ?_
  replace hF := eg_bind hF; obtain ⟨p5, e6, hF⟩ := hF
  refine eg_getR dX6_readClause_10 e6 (Nat.le_of_ble_eq_true rfl) (Nat.le_of_ble_eq_true rfl) rfl ew_185 ?_
  refine eg_bipush (v := (58 : Int32)) dX6_readClause_13 (by decide) ?_
  replace hF := eg_bind hF; obtain ⟨h7, e8, hF⟩ := hF
  refine eg_callV (c := 10) (n := 1) [.int (58 : Int32)] dX6_readClause_15 (mX10_need e8) rfl (fX10_need_O e8) (Nat.le_of_ble_eq_true rfl) rfl ew_523 ew_524 ew_525 ew_101 ew_526 hy_X10_need rfl (Nat.le_of_ble_eq_true rfl) (Nat.le_of_ble_eq_true rfl) (Nat.le_of_ble_eq_true rfl) ?_
  refine eg_aload_n (i := 0) 0 dX6_readClause_18 rfl rfl ?_
  replace hF := eg_bind hF; obtain ⟨p9, e10, hF⟩ := hF
  refine eg_getR dX6_readClause_19 e10 (Nat.le_of_ble_eq_true rfl) (Nat.le_of_ble_eq_true rfl) rfl ew_185 ?_
  replace hF := eg_bind hF; obtain ⟨⟨v12, h11⟩, e13, hF⟩ := hF
  refine eg_callV (c := 10) (n := 0) [] dX6_readClause_22 (mX10_sign e13) rfl (fX10_sign_O e13) (Nat.le_of_ble_eq_true rfl) rfl ew_527 ew_469 ew_470 ew_101 ew_471 hy_X10_sign rfl (Nat.le_of_ble_eq_true rfl) (Nat.le_of_ble_eq_true rfl) (Nat.le_of_ble_eq_true rfl) ?_
  refine eg_bipush (v := (33 : Int32)) dX6_readClause_25 (by decide) ?_
  refine eg_ic_eq 46 dX6_readClause_27 rfl (fun c14 => ?_) (fun c14 => ?_)
  · replace hF := eg_it c14 hF
    exact (fX6_readClause_j46_ok h11 l0 hF)
  · replace hF := eg_if c14 hF
    refine eg_aload_n (i := 0) 0 dX6_readClause_30 rfl rfl ?_
    replace hF := eg_bind hF; obtain ⟨p15, e16, hF⟩ := hF
    refine eg_getR dX6_readClause_31 e16 (Nat.le_of_ble_eq_true rfl) (Nat.le_of_ble_eq_true rfl) rfl ew_185 ?_
    replace hF := eg_bind hF; obtain ⟨⟨v18, h17⟩, e19, hF⟩ := hF
    refine eg_callV (c := 10) (n := 0) [] dX6_readClause_34 (mX10_sign e19) rfl (fX10_sign_O e19) (Nat.le_of_ble_eq_true rfl) rfl ew_527 ew_469 ew_470 ew_101 ew_471 hy_X10_sign rfl (Nat.le_of_ble_eq_true rfl) (Nat.le_of_ble_eq_true rfl) (Nat.le_of_ble_eq_true rfl) ?_
    refine eg_bipush (v := (40 : Int32)) dX6_readClause_37 (by decide) ?_
    refine eg_ic_eq 46 dX6_readClause_39 rfl (fun c20 => ?_) (fun c20 => ?_)
    · replace hF := eg_it c20 hF
      exact (fX6_readClause_j46_ok h17 l0 hF)
    · replace hF := eg_if c20 hF
      refine eg_iconst (v := (1 : Int32)) dX6_readClause_42 (by decide) ?_
      refine eg_goto 47 dX6_readClause_43 rfl ?_
      exact (fX6_readClause_j47_ok h17 l0 (1 : Int32) hF)
theorem dX10_wrongAt_0 : decode cX10_wrongAt 0 = .ok (.aload_n 0, 1) := by decide +kernel
theorem dX10_wrongAt_1 : decode cX10_wrongAt 1 = .ok (.getfield 25, 3) := by decide +kernel
theorem dX10_wrongAt_4 : decode cX10_wrongAt 4 = .ok (.ireturn, 1) := by decide +kernel
def fX10_wrongAt (h : eg_H) (l0 : Nat) : Option (Int32 × eg_H) :=
  if eg_isO h 10 l0 then (
    (eg_gI h 10 4 l0).bind fun v1 =>
    some (v1, h)) else none
theorem fX10_wrongAt_O {h : eg_H} {l0 : Nat} {rE : Int32} {hE : eg_H} (hF : fX10_wrongAt h l0 = some (rE, hE)) : eg_isO h 10 l0 := (eg_ifn hF).1
set_option maxRecDepth 20000 in
theorem mX10_wrongAt {h : eg_H} {l0 : Nat} {rE : Int32} {hE : eg_H} (hF : fX10_wrongAt h l0 = some (rE, hE)) : eg_Met yX10_wrongAt cX10_wrongAt 1 (some .int) 1 [.ref l0] h (some (.int rE)) hE := by
  refine eg_enter rfl (Nat.le_of_ble_eq_true rfl) ?_
  show eg_AW (RX10, cX10_wrongAt, 1, 1, none, "wrongAt", (some .int)) (eg_Zm (some (.int rE)) hE h) (eg_nc hE) (eg_ns hE) h 0 [(0, .ref l0)] [] h
  replace hF := (eg_ifn hF).2
  refine eg_aload_n (i := 0) 0 dX10_wrongAt_0 rfl rfl ?_
  replace hF := eg_bind hF; obtain ⟨v1, e2, hF⟩ := hF
  refine eg_getI dX10_wrongAt_1 e2 (Nat.le_of_ble_eq_true rfl) (Nat.le_of_ble_eq_true rfl) rfl ew_144 ?_
  exact eg_iretE dX10_wrongAt_4 hF
theorem dX6_read_0 : decode cX6_read 0 = .ok (.aload_n 0, 1) := by decide +kernel
theorem dX6_read_1 : decode cX6_read 1 = .ok (.iconst 0, 1) := by decide +kernel
theorem dX6_read_2 : decode cX6_read 2 = .ok (.putfield 15, 3) := by decide +kernel
theorem dX6_read_5 : decode cX6_read 5 = .ok (.aload_n 0, 1) := by decide +kernel
theorem dX6_read_6 : decode cX6_read 6 = .ok (.getfield 19, 3) := by decide +kernel
theorem dX6_read_9 : decode cX6_read 9 = .ok (.invokevirtual 23, 3) := by decide +kernel
theorem dX6_read_12 : decode cX6_read 12 = .ok (.aload_n 0, 1) := by decide +kernel
theorem dX6_read_13 : decode cX6_read 13 = .ok (.invokevirtual 28, 3) := by decide +kernel
theorem dX6_read_16 : decode cX6_read 16 = .ok (.iconst 0, 1) := by decide +kernel
theorem dX6_read_17 : decode cX6_read 17 = .ok (.istore_n 1, 1) := by decide +kernel
theorem dX6_read_18 : decode cX6_read 18 = .ok (.iload_n 1, 1) := by decide +kernel
theorem dX6_read_19 : decode cX6_read 19 = .ok (.sipush 160, 3) := by decide +kernel
theorem dX6_read_22 : decode cX6_read 22 = .ok (.if_icmp .ge 25, 3) := by decide +kernel
theorem dX6_read_25 : decode cX6_read 25 = .ok (.aload_n 0, 1) := by decide +kernel
theorem dX6_read_26 : decode cX6_read 26 = .ok (.getfield 19, 3) := by decide +kernel
theorem dX6_read_29 : decode cX6_read 29 = .ok (.bipush 59, 2) := by decide +kernel
theorem dX6_read_31 : decode cX6_read 31 = .ok (.invokevirtual 31, 3) := by decide +kernel
theorem dX6_read_34 : decode cX6_read 34 = .ok (.ifCond .eq 13, 3) := by decide +kernel
theorem dX6_read_37 : decode cX6_read 37 = .ok (.aload_n 0, 1) := by decide +kernel
theorem dX6_read_38 : decode cX6_read 38 = .ok (.invokevirtual 28, 3) := by decide +kernel
theorem dX6_read_41 : decode cX6_read 41 = .ok (.iinc 1 1, 3) := by decide +kernel
theorem dX6_read_44 : decode cX6_read 44 = .ok (.goto (-26), 3) := by decide +kernel
theorem dX6_read_47 : decode cX6_read 47 = .ok (.aload_n 0, 1) := by decide +kernel
theorem dX6_read_48 : decode cX6_read 48 = .ok (.getfield 19, 3) := by decide +kernel
theorem dX6_read_51 : decode cX6_read 51 = .ok (.invokevirtual 35, 3) := by decide +kernel
theorem dX6_read_54 : decode cX6_read 54 = .ok (.ifCond .eq 10, 3) := by decide +kernel
theorem dX6_read_57 : decode cX6_read 57 = .ok (.aload_n 0, 1) := by decide +kernel
theorem dX6_read_58 : decode cX6_read 58 = .ok (.getfield 19, 3) := by decide +kernel
theorem dX6_read_61 : decode cX6_read 61 = .ok (.invokevirtual 39, 3) := by decide +kernel
theorem dX6_read_64 : decode cX6_read 64 = .ok (.aload_n 0, 1) := by decide +kernel
theorem dX6_read_65 : decode cX6_read 65 = .ok (.getfield 19, 3) := by decide +kernel
theorem dX6_read_68 : decode cX6_read 68 = .ok (.invokevirtual 42, 3) := by decide +kernel
theorem dX6_read_71 : decode cX6_read 71 = .ok (.ireturn, 1) := by decide +kernel
def fX6_read_L18 : Nat → eg_H → Nat → Int32 → Option (Nat × eg_H)
  | 0, _, _, _ => none
  | n + 1, h, l0, l1 =>
    if (160 : Int32) ≤ l1 then
      (some (l0, h))
    else
      (eg_gR h 6 0 l0).bind fun p2 =>
      (fX10_takes h p2 (59 : Int32)).bind fun ⟨v5, h4⟩ =>
      if v5 = 0 then
        (some (l0, h4))
      else
        (fX6_readClause h4 l0).bind fun h8 =>
        fX6_read_L18 n h8 l0 (l1 + (1 : Int32))
set_option maxRecDepth 20000 in
theorem fX6_read_L18_ok {h0 : eg_H} {Z : eg_C → State → Prop} {N S : Nat} : ∀ (n : Nat) (h : eg_H) (l0 : Nat) (l1 : Int32) (eE : Nat × eg_H), fX6_read_L18 n h l0 l1 = some eE → (hk0 : ∀ (l0 : Nat) (h : eg_H), eE = (l0, h) → eg_AW (RX6, cX6_read, 2, 454, none, "read", (some .int)) Z N S h0 47 [(0, .ref l0)] [] h) → eg_AW (RX6, cX6_read, 2, 454, none, "read", (some .int)) Z N S h0 18 [(0, .ref l0), (1, .int l1)] [] h := by
  intro n
  induction n with
  | zero => intro h l0 l1 eE hF; exact absurd hF (by intro q; cases q)
  | succ n ih =>
    intro h l0 l1 eE hF hk0
    have hrec := fun (h' : eg_H) (l0 : Nat) (l1 : Int32) hq => ih h' l0 l1 eE hq hk0
    refine eg_iload_n (i := 1) 1 dX6_read_18 rfl rfl ?_
    refine eg_sipush (v := (160 : Int32)) dX6_read_19 (by decide) ?_
    refine eg_ic_ge 47 dX6_read_22 rfl (fun c1 => ?_) (fun c1 => ?_)
    · replace hF := eg_it c1 hF
      exact eg_sub [0] [(0, .ref l0)] rfl (hk0 l0 h (Option.some.inj hF).symm)
    · replace hF := eg_if c1 hF
      refine eg_aload_n (i := 0) 0 dX6_read_25 rfl rfl ?_
      replace hF := eg_bind hF; obtain ⟨p2, e3, hF⟩ := hF
      refine eg_getR dX6_read_26 e3 (Nat.le_of_ble_eq_true rfl) (Nat.le_of_ble_eq_true rfl) rfl ew_185 ?_
      refine eg_bipush (v := (59 : Int32)) dX6_read_29 (by decide) ?_
      replace hF := eg_bind hF; obtain ⟨⟨v5, h4⟩, e6, hF⟩ := hF
      refine eg_callV (c := 10) (n := 1) [.int (59 : Int32)] dX6_read_31 (mX10_takes e6) rfl (fX10_takes_O e6) (Nat.le_of_ble_eq_true rfl) rfl ew_576 ew_507 ew_508 ew_101 ew_509 hy_X10_takes rfl (Nat.le_of_ble_eq_true rfl) (Nat.le_of_ble_eq_true rfl) (Nat.le_of_ble_eq_true rfl) ?_
      refine eg_if_eq 47 dX6_read_34 rfl (fun c7 => ?_) (fun c7 => ?_)
      · replace hF := eg_it c7 hF
        exact eg_sub [0] [(0, .ref l0)] rfl (hk0 l0 h4 (Option.some.inj hF).symm)
      · replace hF := eg_if c7 hF
        refine eg_aload_n (i := 0) 0 dX6_read_37 rfl rfl ?_
        replace hF := eg_bind hF; obtain ⟨h8, e9, hF⟩ := hF
        refine eg_callV (c := 6) (n := 0) [] dX6_read_38 (mX6_readClause e9) rfl (fX6_readClause_O e9) (Nat.le_of_ble_eq_true rfl) rfl ew_519 ew_521 ew_7 ew_103 ew_522 hy_X6_readClause rfl (Nat.le_of_ble_eq_true rfl) (Nat.le_of_ble_eq_true rfl) (Nat.le_of_ble_eq_true rfl) ?_
        refine eg_iinc (i := 1) (v := (l1 + (1 : Int32))) 1 [(1, .int (l1 + (1 : Int32))), (0, .ref l0)] dX6_read_41 rfl rfl (Nat.le_of_ble_eq_true rfl) rfl ?_
        refine eg_goto 18 dX6_read_44 rfl ?_
        exact eg_sub [1, 0] [(0, .ref l0), (1, .int (l1 + (1 : Int32)))] rfl (hrec h8 l0 (l1 + (1 : Int32)) hF)
def fX6_read_j47 (h : eg_H) (l0 : Nat) : Option (Int32 × eg_H) :=
  (eg_gR h 6 0 l0).bind fun p1 =>
  (fX10_sign h p1).bind fun ⟨v4, h3⟩ =>
  if v4 = 0 then
    ((eg_gR h3 6 0 l0).bind fun p7 =>
    (fX10_wrongAt h3 p7).bind fun ⟨v10, h9⟩ =>
    some (v10, h9))
  else
    (eg_gR h3 6 0 l0).bind fun p12 =>
    (fX10_markWrongHere h3 p12).bind fun h14 =>
    (eg_gR h14 6 0 l0).bind fun p16 =>
    (fX10_wrongAt h14 p16).bind fun ⟨v19, h18⟩ =>
    some (v19, h18)
set_option maxRecDepth 20000 in
theorem fX6_read_j47_ok {h0 : eg_H} (h : eg_H) (l0 : Nat) {rE : Int32} {hE : eg_H} (hF : fX6_read_j47 h l0 = some (rE, hE)) : eg_AW (RX6, cX6_read, 2, 454, none, "read", (some .int)) (eg_Zm (some (.int rE)) hE h0) (eg_nc hE) (eg_ns hE) h0 47 [(0, .ref l0)] [] h := by
  refine eg_aload_n (i := 0) 0 dX6_read_47 rfl rfl ?_
  replace hF := eg_bind hF; obtain ⟨p1, e2, hF⟩ := hF
  refine eg_getR dX6_read_48 e2 (Nat.le_of_ble_eq_true rfl) (Nat.le_of_ble_eq_true rfl) rfl ew_185 ?_
  replace hF := eg_bind hF; obtain ⟨⟨v4, h3⟩, e5, hF⟩ := hF
  refine eg_callV (c := 10) (n := 0) [] dX6_read_51 (mX10_sign e5) rfl (fX10_sign_O e5) (Nat.le_of_ble_eq_true rfl) rfl ew_527 ew_469 ew_470 ew_101 ew_471 hy_X10_sign rfl (Nat.le_of_ble_eq_true rfl) (Nat.le_of_ble_eq_true rfl) (Nat.le_of_ble_eq_true rfl) ?_
  refine eg_if_eq 64 dX6_read_54 rfl (fun c6 => ?_) (fun c6 => ?_)
  · replace hF := eg_it c6 hF
    refine eg_aload_n (i := 0) 0 dX6_read_64 rfl rfl ?_
    replace hF := eg_bind hF; obtain ⟨p7, e8, hF⟩ := hF
    refine eg_getR dX6_read_65 e8 (Nat.le_of_ble_eq_true rfl) (Nat.le_of_ble_eq_true rfl) rfl ew_185 ?_
    replace hF := eg_bind hF; obtain ⟨⟨v10, h9⟩, e11, hF⟩ := hF
    refine eg_callV (c := 10) (n := 0) [] dX6_read_68 (mX10_wrongAt e11) rfl (fX10_wrongAt_O e11) (Nat.le_of_ble_eq_true rfl) rfl ew_577 ew_511 ew_512 ew_101 ew_513 hy_X10_wrongAt rfl (Nat.le_of_ble_eq_true rfl) (Nat.le_of_ble_eq_true rfl) (Nat.le_of_ble_eq_true rfl) ?_
    exact eg_iretE dX6_read_71 hF
  · replace hF := eg_if c6 hF
    refine eg_aload_n (i := 0) 0 dX6_read_57 rfl rfl ?_
    replace hF := eg_bind hF; obtain ⟨p12, e13, hF⟩ := hF
    refine eg_getR dX6_read_58 e13 (Nat.le_of_ble_eq_true rfl) (Nat.le_of_ble_eq_true rfl) rfl ew_185 ?_
    replace hF := eg_bind hF; obtain ⟨h14, e15, hF⟩ := hF
    refine eg_callV (c := 10) (n := 0) [] dX6_read_61 (mX10_markWrongHere e15) rfl (fX10_markWrongHere_O e15) (Nat.le_of_ble_eq_true rfl) rfl ew_555 ew_503 ew_504 ew_101 ew_505 hy_X10_markWrongHere rfl (Nat.le_of_ble_eq_true rfl) (Nat.le_of_ble_eq_true rfl) (Nat.le_of_ble_eq_true rfl) ?_
    refine eg_aload_n (i := 0) 0 dX6_read_64 rfl rfl ?_
    replace hF := eg_bind hF; obtain ⟨p16, e17, hF⟩ := hF
    refine eg_getR dX6_read_65 e17 (Nat.le_of_ble_eq_true rfl) (Nat.le_of_ble_eq_true rfl) rfl ew_185 ?_
    replace hF := eg_bind hF; obtain ⟨⟨v19, h18⟩, e20, hF⟩ := hF
    refine eg_callV (c := 10) (n := 0) [] dX6_read_68 (mX10_wrongAt e20) rfl (fX10_wrongAt_O e20) (Nat.le_of_ble_eq_true rfl) rfl ew_577 ew_511 ew_512 ew_101 ew_513 hy_X10_wrongAt rfl (Nat.le_of_ble_eq_true rfl) (Nat.le_of_ble_eq_true rfl) (Nat.le_of_ble_eq_true rfl) ?_
    exact eg_iretE dX6_read_71 hF
def fX6_read (h : eg_H) (l0 : Nat) : Option (Int32 × eg_H) :=
  if eg_isO h 6 l0 then (
    (eg_pI h 6 2 l0 (0 : Int32)).bind fun h1 =>
    (eg_gR h1 6 0 l0).bind fun p3 =>
    (fX10_rewind h1 p3).bind fun h5 =>
    (fX6_readClause h5 l0).bind fun h7 =>
    (fX6_read_L18 eg_F h7 l0 (0 : Int32)).bind fun e =>
    match e with
    | (p11, h12) =>
      fX6_read_j47 h12 p11) else none
theorem fX6_read_O {h : eg_H} {l0 : Nat} {rE : Int32} {hE : eg_H} (hF : fX6_read h l0 = some (rE, hE)) : eg_isO h 6 l0 := (eg_ifn hF).1
set_option maxRecDepth 20000 in
theorem mX6_read {h : eg_H} {l0 : Nat} {rE : Int32} {hE : eg_H} (hF : fX6_read h l0 = some (rE, hE)) : eg_Met yX6_read cX6_read 2 (some .int) 454 [.ref l0] h (some (.int rE)) hE := by
  refine eg_enter rfl (Nat.le_of_ble_eq_true rfl) ?_
  show eg_AW (RX6, cX6_read, 2, 454, none, "read", (some .int)) (eg_Zm (some (.int rE)) hE h) (eg_nc hE) (eg_ns hE) h 0 [(0, .ref l0)] [] h
  replace hF := (eg_ifn hF).2
  refine eg_aload_n (i := 0) 0 dX6_read_0 rfl rfl ?_
  refine eg_iconst (v := (0 : Int32)) dX6_read_1 (by decide) ?_
  replace hF := eg_bind hF; obtain ⟨h1, e2, hF⟩ := hF
  refine eg_putI dX6_read_2 e2 (Nat.le_of_ble_eq_true rfl) (Nat.le_of_ble_eq_true rfl) rfl ew_187 (Or.inl rfl) ?_
  refine eg_aload_n (i := 0) 0 dX6_read_5 rfl rfl ?_
  replace hF := eg_bind hF; obtain ⟨p3, e4, hF⟩ := hF
  refine eg_getR dX6_read_6 e4 (Nat.le_of_ble_eq_true rfl) (Nat.le_of_ble_eq_true rfl) rfl ew_185 ?_
  replace hF := eg_bind hF; obtain ⟨h5, e6, hF⟩ := hF
  refine eg_callV (c := 10) (n := 0) [] dX6_read_9 (mX10_rewind e6) rfl (fX10_rewind_O e6) (Nat.le_of_ble_eq_true rfl) rfl ew_518 ew_457 ew_458 ew_101 ew_459 hy_X10_rewind rfl (Nat.le_of_ble_eq_true rfl) (Nat.le_of_ble_eq_true rfl) (Nat.le_of_ble_eq_true rfl) ?_
  refine eg_aload_n (i := 0) 0 dX6_read_12 rfl rfl ?_
  replace hF := eg_bind hF; obtain ⟨h7, e8, hF⟩ := hF
  refine eg_callV (c := 6) (n := 0) [] dX6_read_13 (mX6_readClause e8) rfl (fX6_readClause_O e8) (Nat.le_of_ble_eq_true rfl) rfl ew_519 ew_521 ew_7 ew_103 ew_522 hy_X6_readClause rfl (Nat.le_of_ble_eq_true rfl) (Nat.le_of_ble_eq_true rfl) (Nat.le_of_ble_eq_true rfl) ?_
  refine eg_iconst (v := (0 : Int32)) dX6_read_16 (by decide) ?_
  refine eg_istore_n (i := 1) [(1, .int (0 : Int32)), (0, .ref l0)] dX6_read_17 rfl (Nat.le_of_ble_eq_true rfl) rfl ?_
  replace hF := eg_bind hF; obtain ⟨x10, e9, hF⟩ := hF
  refine eg_sub [1, 0] [(0, .ref l0), (1, .int (0 : Int32))] rfl (fX6_read_L18_ok eg_F h7 l0 (0 : Int32) x10 e9 ?_)
  · intro p11 h12 e13
    subst e13
    exact (fX6_read_j47_ok h12 p11 hF)
theorem dX6_made_0 : decode cX6_made 0 = .ok (.new 45, 3) := by decide +kernel
theorem dX6_made_3 : decode cX6_made 3 = .ok (.dup, 1) := by decide +kernel
theorem dX6_made_4 : decode cX6_made 4 = .ok (.aload_n 0, 1) := by decide +kernel
theorem dX6_made_5 : decode cX6_made 5 = .ok (.getfield 9, 3) := by decide +kernel
theorem dX6_made_8 : decode cX6_made 8 = .ok (.aload_n 0, 1) := by decide +kernel
theorem dX6_made_9 : decode cX6_made 9 = .ok (.getfield 15, 3) := by decide +kernel
theorem dX6_made_12 : decode cX6_made 12 = .ok (.invokespecial 47, 3) := by decide +kernel
theorem dX6_made_15 : decode cX6_made 15 = .ok (.areturn, 1) := by decide +kernel
def fX6_made (h : eg_H) (l0 : Nat) : Option (Nat × eg_H) :=
  if eg_isO h 6 l0 then (
    (some (eg_nc h, eg_new h 5 (eg_nf 5))).bind fun ⟨p1, h2⟩ =>
    (eg_gR h2 6 1 l0).bind fun p4 =>
    (eg_gI h2 6 2 l0).bind fun v6 =>
    (fX5_init h2 p1 p4 v6).bind fun h8 =>
    some (p1, h8)) else none
theorem fX6_made_O {h : eg_H} {l0 : Nat} {rE : Nat} {hE : eg_H} (hF : fX6_made h l0 = some (rE, hE)) : eg_isO h 6 l0 := (eg_ifn hF).1
set_option maxRecDepth 20000 in
theorem mX6_made {h : eg_H} {l0 : Nat} {rE : Nat} {hE : eg_H} (hF : fX6_made h l0 = some (rE, hE)) : eg_Met yX6_made cX6_made 1 (some (.object "EggThrow$Law")) 3 [.ref l0] h (some (.ref rE)) hE := by
  refine eg_enter rfl (Nat.le_of_ble_eq_true rfl) ?_
  show eg_AW (RX6, cX6_made, 1, 3, none, "made", (some (.object "EggThrow$Law"))) (eg_Zm (some (.ref rE)) hE h) (eg_nc hE) (eg_ns hE) h 0 [(0, .ref l0)] [] h
  replace hF := (eg_ifn hF).2
  replace hF := eg_bind hF; obtain ⟨⟨p1, h2⟩, e3, hF⟩ := hF
  refine eg_newO (c := 5) dX6_made_0 (Nat.le_of_ble_eq_true rfl) ew_641 ew_642 ew_116 ?_
  replace e3 := Prod.mk.inj (Option.some.inj e3)
  rw [e3.2, e3.1]
  refine eg_dup dX6_made_3 rfl ?_
  refine eg_aload_n (i := 0) 0 dX6_made_4 rfl rfl ?_
  replace hF := eg_bind hF; obtain ⟨p4, e5, hF⟩ := hF
  refine eg_getR dX6_made_5 e5 (Nat.le_of_ble_eq_true rfl) (Nat.le_of_ble_eq_true rfl) rfl ew_186 ?_
  refine eg_aload_n (i := 0) 0 dX6_made_8 rfl rfl ?_
  replace hF := eg_bind hF; obtain ⟨v6, e7, hF⟩ := hF
  refine eg_getI dX6_made_9 e7 (Nat.le_of_ble_eq_true rfl) (Nat.le_of_ble_eq_true rfl) rfl ew_187 ?_
  replace hF := eg_bind hF; obtain ⟨h8, e9, hF⟩ := hF
  refine eg_callI (n := 2) [.ref p4, .int v6] dX6_made_12 (mX5_init e9) rfl ew_643 ew_644 ew_116 ew_645 rfl hy_X5_init.2 rfl (Nat.le_of_ble_eq_true rfl) (Nat.le_of_ble_eq_true rfl) (Nat.le_of_ble_eq_true rfl) ?_
  exact eg_aretR dX6_made_15 (Or.inl ⟨_, rfl⟩) hF
theorem dX7_init_0 : decode cX7_init 0 = .ok (.aload_n 0, 1) := by decide +kernel
theorem dX7_init_1 : decode cX7_init 1 = .ok (.invokespecial 3, 3) := by decide +kernel
theorem dX7_init_4 : decode cX7_init 4 = .ok (.aload_n 0, 1) := by decide +kernel
theorem dX7_init_5 : decode cX7_init 5 = .ok (.bipush 40, 2) := by decide +kernel
theorem dX7_init_7 : decode cX7_init 7 = .ok (.newarray .int, 2) := by decide +kernel
theorem dX7_init_9 : decode cX7_init 9 = .ok (.putfield 9, 3) := by decide +kernel
theorem dX7_init_12 : decode cX7_init 12 = .ok (.aload_n 0, 1) := by decide +kernel
theorem dX7_init_13 : decode cX7_init 13 = .ok (.iconst 0, 1) := by decide +kernel
theorem dX7_init_14 : decode cX7_init 14 = .ok (.putfield 15, 3) := by decide +kernel
theorem dX7_init_17 : decode cX7_init 17 = .ok (.aload_n 0, 1) := by decide +kernel
theorem dX7_init_18 : decode cX7_init 18 = .ok (.iconst 0, 1) := by decide +kernel
theorem dX7_init_19 : decode cX7_init 19 = .ok (.putfield 19, 3) := by decide +kernel
theorem dX7_init_22 : decode cX7_init 22 = .ok (.return_, 1) := by decide +kernel
def fX7_init (h : eg_H) (l0 : Nat) : Option (eg_H) :=
  (eg_na h 100 (40 : Int32)).bind fun h2 =>
  (some (eg_nc h)).bind fun p1 =>
  (eg_pP h2 7 0 l0 (some p1)).bind fun h5 =>
  (eg_pI h5 7 1 l0 (0 : Int32)).bind fun h7 =>
  (eg_pI h7 7 2 l0 (0 : Int32)).bind fun h9 =>
  some h9
set_option maxRecDepth 20000 in
theorem mX7_init {h : eg_H} {l0 : Nat} {hE : eg_H} (hF : fX7_init h l0 = some hE) : eg_Met yX7_init cX7_init 1 none 1 [.ref l0] h none hE := by
  refine eg_enter rfl (Nat.le_of_ble_eq_true rfl) ?_
  show eg_AW (RX7, cX7_init, 1, 1, none, "<init>", none) (eg_Zm none hE h) (eg_nc hE) (eg_ns hE) h 0 [(0, .ref l0)] [] h
  refine eg_aload_n (i := 0) 0 dX7_init_0 rfl rfl ?_
  refine eg_objInit dX7_init_1 ew_200 (Nat.le_of_ble_eq_true rfl) (Nat.le_of_ble_eq_true rfl) ?_
  refine eg_aload_n (i := 0) 0 dX7_init_4 rfl rfl ?_
  refine eg_bipush (v := (40 : Int32)) dX7_init_5 (by decide) ?_
  replace hF := eg_bind hF; obtain ⟨h2, e3, hF⟩ := hF
  replace hF := eg_bind hF; obtain ⟨p1, e4, hF⟩ := hF
  refine eg_newa .int dX7_init_7 e3 0 (Nat.le_of_ble_eq_true rfl) (Nat.le_of_ble_eq_true rfl) (Nat.le_of_ble_eq_true rfl) (fun _ => rfl) (by decide) rfl ew_156 ?_
  replace e4 := Option.some.inj e4
  rw [e4]
  replace hF := eg_bind hF; obtain ⟨h5, e6, hF⟩ := hF
  refine eg_putR dX7_init_9 e6 (Nat.le_of_ble_eq_true rfl) (Nat.le_of_ble_eq_true rfl) rfl ew_201 (Or.inr ⟨rfl, rfl, rfl⟩) ?_
  refine eg_aload_n (i := 0) 0 dX7_init_12 rfl rfl ?_
  refine eg_iconst (v := (0 : Int32)) dX7_init_13 (by decide) ?_
  replace hF := eg_bind hF; obtain ⟨h7, e8, hF⟩ := hF
  refine eg_putI dX7_init_14 e8 (Nat.le_of_ble_eq_true rfl) (Nat.le_of_ble_eq_true rfl) rfl ew_202 (Or.inl rfl) ?_
  refine eg_aload_n (i := 0) 0 dX7_init_17 rfl rfl ?_
  refine eg_iconst (v := (0 : Int32)) dX7_init_18 (by decide) ?_
  replace hF := eg_bind hF; obtain ⟨h9, e10, hF⟩ := hF
  refine eg_putI dX7_init_19 e10 (Nat.le_of_ble_eq_true rfl) (Nat.le_of_ble_eq_true rfl) rfl ew_203 (Or.inl rfl) ?_
  exact eg_vretE dX7_init_22 hF
theorem dX8_value_0 : decode cX8_value 0 = .ok (.iload_n 1, 1) := by decide +kernel
theorem dX8_value_1 : decode cX8_value 1 = .ok (.ifCond .lt 12, 3) := by decide +kernel
theorem dX8_value_4 : decode cX8_value 4 = .ok (.iload_n 1, 1) := by decide +kernel
theorem dX8_value_5 : decode cX8_value 5 = .ok (.aload_n 0, 1) := by decide +kernel
theorem dX8_value_6 : decode cX8_value 6 = .ok (.getfield 9, 3) := by decide +kernel
theorem dX8_value_9 : decode cX8_value 9 = .ok (.arraylength, 1) := by decide +kernel
theorem dX8_value_10 : decode cX8_value 10 = .ok (.if_icmp .lt 7, 3) := by decide +kernel
theorem dX8_value_13 : decode cX8_value 13 = .ok (.iconst 0, 1) := by decide +kernel
theorem dX8_value_14 : decode cX8_value 14 = .ok (.goto 9, 3) := by decide +kernel
theorem dX8_value_17 : decode cX8_value 17 = .ok (.aload_n 0, 1) := by decide +kernel
theorem dX8_value_18 : decode cX8_value 18 = .ok (.getfield 9, 3) := by decide +kernel
theorem dX8_value_21 : decode cX8_value 21 = .ok (.iload_n 1, 1) := by decide +kernel
theorem dX8_value_22 : decode cX8_value 22 = .ok (.iaload, 1) := by decide +kernel
theorem dX8_value_23 : decode cX8_value 23 = .ok (.ireturn, 1) := by decide +kernel
def fX8_value (h : eg_H) (l0 : Nat) (l1 : Int32) : Option (Int32 × eg_H) :=
  if eg_isO h 8 l0 then (
    if l1 < 0 then
      (some ((0 : Int32), h))
    else
      (eg_gR h 8 1 l0).bind fun p2 =>
      (eg_al h p2).bind fun v4 =>
      if l1 < v4 then
        ((eg_gR h 8 1 l0).bind fun p7 =>
        (eg_aI h 100 p7 l1).bind fun v9 =>
        some (v9, h))
      else
        some ((0 : Int32), h)) else none
theorem fX8_value_O {h : eg_H} {l0 : Nat} {l1 : Int32} {rE : Int32} {hE : eg_H} (hF : fX8_value h l0 l1 = some (rE, hE)) : eg_isO h 8 l0 := (eg_ifn hF).1
set_option maxRecDepth 20000 in
theorem mX8_value {h : eg_H} {l0 : Nat} {l1 : Int32} {rE : Int32} {hE : eg_H} (hF : fX8_value h l0 l1 = some (rE, hE)) : eg_Met yX8_value cX8_value 2 (some .int) 1 [.ref l0, .int l1] h (some (.int rE)) hE := by
  refine eg_enter rfl (Nat.le_of_ble_eq_true rfl) ?_
  show eg_AW (RX8, cX8_value, 2, 1, none, "value", (some .int)) (eg_Zm (some (.int rE)) hE h) (eg_nc hE) (eg_ns hE) h 0 [(0, .ref l0), (1, .int l1)] [] h
  replace hF := (eg_ifn hF).2
  refine eg_iload_n (i := 1) 1 dX8_value_0 rfl rfl ?_
  refine eg_if_lt 13 dX8_value_1 rfl (fun c1 => ?_) (fun c1 => ?_)
  · replace hF := eg_it c1 hF
    refine eg_iconst (v := (0 : Int32)) dX8_value_13 (by decide) ?_
    refine eg_goto 23 dX8_value_14 rfl ?_
    exact eg_iretE dX8_value_23 hF
  · replace hF := eg_if c1 hF
    refine eg_iload_n (i := 1) 1 dX8_value_4 rfl rfl ?_
    refine eg_aload_n (i := 0) 0 dX8_value_5 rfl rfl ?_
    replace hF := eg_bind hF; obtain ⟨p2, e3, hF⟩ := hF
    refine eg_getR dX8_value_6 e3 (Nat.le_of_ble_eq_true rfl) (Nat.le_of_ble_eq_true rfl) rfl ew_164 ?_
    replace hF := eg_bind hF; obtain ⟨v4, e5, hF⟩ := hF
    refine eg_alen dX8_value_9 e5 ?_
    refine eg_ic_lt 17 dX8_value_10 rfl (fun c6 => ?_) (fun c6 => ?_)
    · replace hF := eg_it c6 hF
      refine eg_aload_n (i := 0) 0 dX8_value_17 rfl rfl ?_
      replace hF := eg_bind hF; obtain ⟨p7, e8, hF⟩ := hF
      refine eg_getR dX8_value_18 e8 (Nat.le_of_ble_eq_true rfl) (Nat.le_of_ble_eq_true rfl) rfl ew_164 ?_
      refine eg_iload_n (i := 1) 1 dX8_value_21 rfl rfl ?_
      replace hF := eg_bind hF; obtain ⟨v9, e10, hF⟩ := hF
      refine eg_iald dX8_value_22 e10 ?_
      exact eg_iretE dX8_value_23 hF
    · replace hF := eg_if c6 hF
      refine eg_iconst (v := (0 : Int32)) dX8_value_13 (by decide) ?_
      refine eg_goto 23 dX8_value_14 rfl ?_
      exact eg_iretE dX8_value_23 hF
theorem dX8_persons_0 : decode cX8_persons 0 = .ok (.aload_n 0, 1) := by decide +kernel
theorem dX8_persons_1 : decode cX8_persons 1 = .ok (.getfield 15, 3) := by decide +kernel
theorem dX8_persons_4 : decode cX8_persons 4 = .ok (.ireturn, 1) := by decide +kernel
def fX8_persons (h : eg_H) (l0 : Nat) : Option (Int32 × eg_H) :=
  if eg_isO h 8 l0 then (
    (eg_gI h 8 2 l0).bind fun v1 =>
    some (v1, h)) else none
theorem fX8_persons_O {h : eg_H} {l0 : Nat} {rE : Int32} {hE : eg_H} (hF : fX8_persons h l0 = some (rE, hE)) : eg_isO h 8 l0 := (eg_ifn hF).1
set_option maxRecDepth 20000 in
theorem mX8_persons {h : eg_H} {l0 : Nat} {rE : Int32} {hE : eg_H} (hF : fX8_persons h l0 = some (rE, hE)) : eg_Met yX8_persons cX8_persons 1 (some .int) 1 [.ref l0] h (some (.int rE)) hE := by
  refine eg_enter rfl (Nat.le_of_ble_eq_true rfl) ?_
  show eg_AW (RX8, cX8_persons, 1, 1, none, "persons", (some .int)) (eg_Zm (some (.int rE)) hE h) (eg_nc hE) (eg_ns hE) h 0 [(0, .ref l0)] [] h
  replace hF := (eg_ifn hF).2
  refine eg_aload_n (i := 0) 0 dX8_persons_0 rfl rfl ?_
  replace hF := eg_bind hF; obtain ⟨v1, e2, hF⟩ := hF
  refine eg_getI dX8_persons_1 e2 (Nat.le_of_ble_eq_true rfl) (Nat.le_of_ble_eq_true rfl) rfl ew_165 ?_
  exact eg_iretE dX8_persons_4 hF
theorem dX8_eggs_0 : decode cX8_eggs 0 = .ok (.aload_n 0, 1) := by decide +kernel
theorem dX8_eggs_1 : decode cX8_eggs 1 = .ok (.getfield 19, 3) := by decide +kernel
theorem dX8_eggs_4 : decode cX8_eggs 4 = .ok (.ireturn, 1) := by decide +kernel
def fX8_eggs (h : eg_H) (l0 : Nat) : Option (Int32 × eg_H) :=
  if eg_isO h 8 l0 then (
    (eg_gI h 8 3 l0).bind fun v1 =>
    some (v1, h)) else none
theorem fX8_eggs_O {h : eg_H} {l0 : Nat} {rE : Int32} {hE : eg_H} (hF : fX8_eggs h l0 = some (rE, hE)) : eg_isO h 8 l0 := (eg_ifn hF).1
set_option maxRecDepth 20000 in
theorem mX8_eggs {h : eg_H} {l0 : Nat} {rE : Int32} {hE : eg_H} (hF : fX8_eggs h l0 = some (rE, hE)) : eg_Met yX8_eggs cX8_eggs 1 (some .int) 1 [.ref l0] h (some (.int rE)) hE := by
  refine eg_enter rfl (Nat.le_of_ble_eq_true rfl) ?_
  show eg_AW (RX8, cX8_eggs, 1, 1, none, "eggs", (some .int)) (eg_Zm (some (.int rE)) hE h) (eg_nc hE) (eg_ns hE) h 0 [(0, .ref l0)] [] h
  replace hF := (eg_ifn hF).2
  refine eg_aload_n (i := 0) 0 dX8_eggs_0 rfl rfl ?_
  replace hF := eg_bind hF; obtain ⟨v1, e2, hF⟩ := hF
  refine eg_getI dX8_eggs_1 e2 (Nat.le_of_ble_eq_true rfl) (Nat.le_of_ble_eq_true rfl) rfl ew_166 ?_
  exact eg_iretE dX8_eggs_4 hF
theorem dX7_take_0 : decode cX7_take 0 = .ok (.iconst 0, 1) := by decide +kernel
theorem dX7_take_1 : decode cX7_take 1 = .ok (.istore_n 2, 1) := by decide +kernel
theorem dX7_take_2 : decode cX7_take 2 = .ok (.iload_n 2, 1) := by decide +kernel
theorem dX7_take_3 : decode cX7_take 3 = .ok (.aload_n 0, 1) := by decide +kernel
theorem dX7_take_4 : decode cX7_take 4 = .ok (.getfield 9, 3) := by decide +kernel
theorem dX7_take_7 : decode cX7_take 7 = .ok (.arraylength, 1) := by decide +kernel
theorem dX7_take_8 : decode cX7_take 8 = .ok (.if_icmp .ge 20, 3) := by decide +kernel
theorem dX7_take_11 : decode cX7_take 11 = .ok (.aload_n 0, 1) := by decide +kernel
theorem dX7_take_12 : decode cX7_take 12 = .ok (.getfield 9, 3) := by decide +kernel
theorem dX7_take_15 : decode cX7_take 15 = .ok (.iload_n 2, 1) := by decide +kernel
theorem dX7_take_16 : decode cX7_take 16 = .ok (.aload_n 1, 1) := by decide +kernel
theorem dX7_take_17 : decode cX7_take 17 = .ok (.iload_n 2, 1) := by decide +kernel
theorem dX7_take_18 : decode cX7_take 18 = .ok (.invokevirtual 22, 3) := by decide +kernel
theorem dX7_take_21 : decode cX7_take 21 = .ok (.iastore, 1) := by decide +kernel
theorem dX7_take_22 : decode cX7_take 22 = .ok (.iinc 2 1, 3) := by decide +kernel
theorem dX7_take_25 : decode cX7_take 25 = .ok (.goto (-23), 3) := by decide +kernel
theorem dX7_take_28 : decode cX7_take 28 = .ok (.aload_n 0, 1) := by decide +kernel
theorem dX7_take_29 : decode cX7_take 29 = .ok (.aload_n 1, 1) := by decide +kernel
theorem dX7_take_30 : decode cX7_take 30 = .ok (.invokevirtual 28, 3) := by decide +kernel
theorem dX7_take_33 : decode cX7_take 33 = .ok (.putfield 15, 3) := by decide +kernel
theorem dX7_take_36 : decode cX7_take 36 = .ok (.aload_n 0, 1) := by decide +kernel
theorem dX7_take_37 : decode cX7_take 37 = .ok (.aload_n 1, 1) := by decide +kernel
theorem dX7_take_38 : decode cX7_take 38 = .ok (.invokevirtual 31, 3) := by decide +kernel
theorem dX7_take_41 : decode cX7_take 41 = .ok (.putfield 19, 3) := by decide +kernel
theorem dX7_take_44 : decode cX7_take 44 = .ok (.return_, 1) := by decide +kernel
def fX7_take_L2 : Nat → eg_H → Nat → Nat → Int32 → Option (Nat × Nat × eg_H)
  | 0, _, _, _, _ => none
  | n + 1, h, l0, l1, l2 =>
    (eg_gR h 7 0 l0).bind fun p1 =>
    (eg_al h p1).bind fun v3 =>
    if v3 ≤ l2 then
      (some (l0, l1, h))
    else
      (eg_gR h 7 0 l0).bind fun p6 =>
      (fX8_value h l1 l2).bind fun ⟨v9, h8⟩ =>
      (eg_wI h8 100 p6 l2 v9).bind fun h11 =>
      fX7_take_L2 n h11 l0 l1 (l2 + (1 : Int32))
set_option maxRecDepth 20000 in
theorem fX7_take_L2_ok {h0 : eg_H} {Z : eg_C → State → Prop} {N S : Nat} : ∀ (n : Nat) (h : eg_H) (l0 : Nat) (l1 : Nat) (l2 : Int32) (eE : Nat × Nat × eg_H), fX7_take_L2 n h l0 l1 l2 = some eE → (hk0 : ∀ (l0 : Nat) (l1 : Nat) (h : eg_H), eE = (l0, l1, h) → eg_AW (RX7, cX7_take, 3, 2, none, "take", none) Z N S h0 28 [(0, .ref l0), (1, .ref l1)] [] h) → eg_AW (RX7, cX7_take, 3, 2, none, "take", none) Z N S h0 2 [(0, .ref l0), (1, .ref l1), (2, .int l2)] [] h := by
  intro n
  induction n with
  | zero => intro h l0 l1 l2 eE hF; exact absurd hF (by intro q; cases q)
  | succ n ih =>
    intro h l0 l1 l2 eE hF hk0
    have hrec := fun (h' : eg_H) (l0 : Nat) (l1 : Nat) (l2 : Int32) hq => ih h' l0 l1 l2 eE hq hk0
    refine eg_iload_n (i := 2) 2 dX7_take_2 rfl rfl ?_
    refine eg_aload_n (i := 0) 0 dX7_take_3 rfl rfl ?_
    replace hF := eg_bind hF; obtain ⟨p1, e2, hF⟩ := hF
    refine eg_getR dX7_take_4 e2 (Nat.le_of_ble_eq_true rfl) (Nat.le_of_ble_eq_true rfl) rfl ew_201 ?_
    replace hF := eg_bind hF; obtain ⟨v3, e4, hF⟩ := hF
    refine eg_alen dX7_take_7 e4 ?_
    refine eg_ic_ge 28 dX7_take_8 rfl (fun c5 => ?_) (fun c5 => ?_)
    · replace hF := eg_it c5 hF
      exact eg_sub [0, 1] [(0, .ref l0), (1, .ref l1)] rfl (hk0 l0 l1 h (Option.some.inj hF).symm)
    · replace hF := eg_if c5 hF
      refine eg_aload_n (i := 0) 0 dX7_take_11 rfl rfl ?_
      replace hF := eg_bind hF; obtain ⟨p6, e7, hF⟩ := hF
      refine eg_getR dX7_take_12 e7 (Nat.le_of_ble_eq_true rfl) (Nat.le_of_ble_eq_true rfl) rfl ew_201 ?_
      refine eg_iload_n (i := 2) 2 dX7_take_15 rfl rfl ?_
      refine eg_aload_n (i := 1) 1 dX7_take_16 rfl rfl ?_
      refine eg_iload_n (i := 2) 2 dX7_take_17 rfl rfl ?_
      replace hF := eg_bind hF; obtain ⟨⟨v9, h8⟩, e10, hF⟩ := hF
      refine eg_callV (c := 8) (n := 1) [.int l2] dX7_take_18 (mX8_value e10) rfl (fX8_value_O e10) (Nat.le_of_ble_eq_true rfl) rfl ew_597 ew_598 ew_599 ew_102 ew_600 hy_X8_value rfl (Nat.le_of_ble_eq_true rfl) (Nat.le_of_ble_eq_true rfl) (Nat.le_of_ble_eq_true rfl) ?_
      replace hF := eg_bind hF; obtain ⟨h11, e12, hF⟩ := hF
      refine eg_iast dX7_take_21 e12 ?_
      refine eg_iinc (i := 2) (v := (l2 + (1 : Int32))) 2 [(2, .int (l2 + (1 : Int32))), (0, .ref l0), (1, .ref l1)] dX7_take_22 rfl rfl (Nat.le_of_ble_eq_true rfl) rfl ?_
      refine eg_goto 2 dX7_take_25 rfl ?_
      exact eg_sub [1, 2, 0] [(0, .ref l0), (1, .ref l1), (2, .int (l2 + (1 : Int32)))] rfl (hrec h11 l0 l1 (l2 + (1 : Int32)) hF)
def fX7_take (h : eg_H) (l0 : Nat) (l1 : Nat) : Option (eg_H) :=
  if eg_isO h 7 l0 then (
    (fX7_take_L2 eg_F h l0 l1 (0 : Int32)).bind fun e =>
    match e with
    | (p3, p4, h5) =>
      (fX8_persons h5 p4).bind fun ⟨v7, h6⟩ =>
      (eg_pI h6 7 1 p3 v7).bind fun h9 =>
      (fX8_eggs h9 p4).bind fun ⟨v12, h11⟩ =>
      (eg_pI h11 7 2 p3 v12).bind fun h14 =>
      some h14) else none
theorem fX7_take_O {h : eg_H} {l0 : Nat} {l1 : Nat} {hE : eg_H} (hF : fX7_take h l0 l1 = some hE) : eg_isO h 7 l0 := (eg_ifn hF).1
set_option maxRecDepth 20000 in
theorem mX7_take {h : eg_H} {l0 : Nat} {l1 : Nat} {hE : eg_H} (hF : fX7_take h l0 l1 = some hE) : eg_Met yX7_take cX7_take 3 none 2 [.ref l0, .ref l1] h none hE := by
  refine eg_enter rfl (Nat.le_of_ble_eq_true rfl) ?_
  show eg_AW (RX7, cX7_take, 3, 2, none, "take", none) (eg_Zm none hE h) (eg_nc hE) (eg_ns hE) h 0 [(0, .ref l0), (1, .ref l1)] [] h
  replace hF := (eg_ifn hF).2
  refine eg_iconst (v := (0 : Int32)) dX7_take_0 (by decide) ?_
  refine eg_istore_n (i := 2) [(2, .int (0 : Int32)), (0, .ref l0), (1, .ref l1)] dX7_take_1 rfl (Nat.le_of_ble_eq_true rfl) rfl ?_
  replace hF := eg_bind hF; obtain ⟨x2, e1, hF⟩ := hF
  refine eg_sub [1, 2, 0] [(0, .ref l0), (1, .ref l1), (2, .int (0 : Int32))] rfl (fX7_take_L2_ok eg_F h l0 l1 (0 : Int32) x2 e1 ?_)
  · intro p3 p4 h5 e16
    subst e16
    refine eg_aload_n (i := 0) 0 dX7_take_28 rfl rfl ?_
    refine eg_aload_n (i := 1) 1 dX7_take_29 rfl rfl ?_
    replace hF := eg_bind hF; obtain ⟨⟨v7, h6⟩, e8, hF⟩ := hF
    refine eg_callV (c := 8) (n := 0) [] dX7_take_30 (mX8_persons e8) rfl (fX8_persons_O e8) (Nat.le_of_ble_eq_true rfl) rfl ew_601 ew_602 ew_603 ew_102 ew_604 hy_X8_persons rfl (Nat.le_of_ble_eq_true rfl) (Nat.le_of_ble_eq_true rfl) (Nat.le_of_ble_eq_true rfl) ?_
    replace hF := eg_bind hF; obtain ⟨h9, e10, hF⟩ := hF
    refine eg_putI dX7_take_33 e10 (Nat.le_of_ble_eq_true rfl) (Nat.le_of_ble_eq_true rfl) rfl ew_202 (Or.inl rfl) ?_
    refine eg_aload_n (i := 0) 0 dX7_take_36 rfl rfl ?_
    refine eg_aload_n (i := 1) 1 dX7_take_37 rfl rfl ?_
    replace hF := eg_bind hF; obtain ⟨⟨v12, h11⟩, e13, hF⟩ := hF
    refine eg_callV (c := 8) (n := 0) [] dX7_take_38 (mX8_eggs e13) rfl (fX8_eggs_O e13) (Nat.le_of_ble_eq_true rfl) rfl ew_605 ew_606 ew_607 ew_102 ew_608 hy_X8_eggs rfl (Nat.le_of_ble_eq_true rfl) (Nat.le_of_ble_eq_true rfl) (Nat.le_of_ble_eq_true rfl) ?_
    replace hF := eg_bind hF; obtain ⟨h14, e15, hF⟩ := hF
    refine eg_putI dX7_take_41 e15 (Nat.le_of_ble_eq_true rfl) (Nat.le_of_ble_eq_true rfl) rfl ew_203 (Or.inl rfl) ?_
    exact eg_vretE dX7_take_44 hF
theorem dX7_isTold_0 : decode cX7_isTold 0 = .ok (.aload_n 0, 1) := by decide +kernel
theorem dX7_isTold_1 : decode cX7_isTold 1 = .ok (.getfield 15, 3) := by decide +kernel
theorem dX7_isTold_4 : decode cX7_isTold 4 = .ok (.ifCond .le 7, 3) := by decide +kernel
theorem dX7_isTold_7 : decode cX7_isTold 7 = .ok (.iconst 1, 1) := by decide +kernel
theorem dX7_isTold_8 : decode cX7_isTold 8 = .ok (.goto 4, 3) := by decide +kernel
theorem dX7_isTold_11 : decode cX7_isTold 11 = .ok (.iconst 0, 1) := by decide +kernel
theorem dX7_isTold_12 : decode cX7_isTold 12 = .ok (.ireturn, 1) := by decide +kernel
def fX7_isTold (h : eg_H) (l0 : Nat) : Option (Int32 × eg_H) :=
  if eg_isO h 7 l0 then (
    (eg_gI h 7 1 l0).bind fun v1 =>
    if v1 ≤ 0 then
      (some ((0 : Int32), h))
    else
      some ((1 : Int32), h)) else none
theorem fX7_isTold_O {h : eg_H} {l0 : Nat} {rE : Int32} {hE : eg_H} (hF : fX7_isTold h l0 = some (rE, hE)) : eg_isO h 7 l0 := (eg_ifn hF).1
set_option maxRecDepth 20000 in
theorem mX7_isTold {h : eg_H} {l0 : Nat} {rE : Int32} {hE : eg_H} (hF : fX7_isTold h l0 = some (rE, hE)) : eg_Met yX7_isTold cX7_isTold 1 (some .boolean) 1 [.ref l0] h (some (.int rE)) hE := by
  refine eg_enter rfl (Nat.le_of_ble_eq_true rfl) ?_
  show eg_AW (RX7, cX7_isTold, 1, 1, none, "isTold", (some .boolean)) (eg_Zm (some (.int rE)) hE h) (eg_nc hE) (eg_ns hE) h 0 [(0, .ref l0)] [] h
  replace hF := (eg_ifn hF).2
  refine eg_aload_n (i := 0) 0 dX7_isTold_0 rfl rfl ?_
  replace hF := eg_bind hF; obtain ⟨v1, e2, hF⟩ := hF
  refine eg_getI dX7_isTold_1 e2 (Nat.le_of_ble_eq_true rfl) (Nat.le_of_ble_eq_true rfl) rfl ew_202 ?_
  refine eg_if_le 11 dX7_isTold_4 rfl (fun c3 => ?_) (fun c3 => ?_)
  · replace hF := eg_it c3 hF
    refine eg_iconst (v := (0 : Int32)) dX7_isTold_11 (by decide) ?_
    exact eg_zretE dX7_isTold_12 (Or.inl rfl) hF
  · replace hF := eg_if c3 hF
    refine eg_iconst (v := (1 : Int32)) dX7_isTold_7 (by decide) ?_
    refine eg_goto 12 dX7_isTold_8 rfl ?_
    exact eg_zretE dX7_isTold_12 (Or.inr rfl) hF
theorem dX7_persons_0 : decode cX7_persons 0 = .ok (.aload_n 0, 1) := by decide +kernel
theorem dX7_persons_1 : decode cX7_persons 1 = .ok (.getfield 15, 3) := by decide +kernel
theorem dX7_persons_4 : decode cX7_persons 4 = .ok (.ireturn, 1) := by decide +kernel
def fX7_persons (h : eg_H) (l0 : Nat) : Option (Int32 × eg_H) :=
  if eg_isO h 7 l0 then (
    (eg_gI h 7 1 l0).bind fun v1 =>
    some (v1, h)) else none
theorem fX7_persons_O {h : eg_H} {l0 : Nat} {rE : Int32} {hE : eg_H} (hF : fX7_persons h l0 = some (rE, hE)) : eg_isO h 7 l0 := (eg_ifn hF).1
set_option maxRecDepth 20000 in
theorem mX7_persons {h : eg_H} {l0 : Nat} {rE : Int32} {hE : eg_H} (hF : fX7_persons h l0 = some (rE, hE)) : eg_Met yX7_persons cX7_persons 1 (some .int) 1 [.ref l0] h (some (.int rE)) hE := by
  refine eg_enter rfl (Nat.le_of_ble_eq_true rfl) ?_
  show eg_AW (RX7, cX7_persons, 1, 1, none, "persons", (some .int)) (eg_Zm (some (.int rE)) hE h) (eg_nc hE) (eg_ns hE) h 0 [(0, .ref l0)] [] h
  replace hF := (eg_ifn hF).2
  refine eg_aload_n (i := 0) 0 dX7_persons_0 rfl rfl ?_
  replace hF := eg_bind hF; obtain ⟨v1, e2, hF⟩ := hF
  refine eg_getI dX7_persons_1 e2 (Nat.le_of_ble_eq_true rfl) (Nat.le_of_ble_eq_true rfl) rfl ew_202 ?_
  exact eg_iretE dX7_persons_4 hF
theorem dX7_eggs_0 : decode cX7_eggs 0 = .ok (.aload_n 0, 1) := by decide +kernel
theorem dX7_eggs_1 : decode cX7_eggs 1 = .ok (.getfield 19, 3) := by decide +kernel
theorem dX7_eggs_4 : decode cX7_eggs 4 = .ok (.ireturn, 1) := by decide +kernel
def fX7_eggs (h : eg_H) (l0 : Nat) : Option (Int32 × eg_H) :=
  if eg_isO h 7 l0 then (
    (eg_gI h 7 2 l0).bind fun v1 =>
    some (v1, h)) else none
theorem fX7_eggs_O {h : eg_H} {l0 : Nat} {rE : Int32} {hE : eg_H} (hF : fX7_eggs h l0 = some (rE, hE)) : eg_isO h 7 l0 := (eg_ifn hF).1
set_option maxRecDepth 20000 in
theorem mX7_eggs {h : eg_H} {l0 : Nat} {rE : Int32} {hE : eg_H} (hF : fX7_eggs h l0 = some (rE, hE)) : eg_Met yX7_eggs cX7_eggs 1 (some .int) 1 [.ref l0] h (some (.int rE)) hE := by
  refine eg_enter rfl (Nat.le_of_ble_eq_true rfl) ?_
  show eg_AW (RX7, cX7_eggs, 1, 1, none, "eggs", (some .int)) (eg_Zm (some (.int rE)) hE h) (eg_nc hE) (eg_ns hE) h 0 [(0, .ref l0)] [] h
  replace hF := (eg_ifn hF).2
  refine eg_aload_n (i := 0) 0 dX7_eggs_0 rfl rfl ?_
  replace hF := eg_bind hF; obtain ⟨v1, e2, hF⟩ := hF
  refine eg_getI dX7_eggs_1 e2 (Nat.le_of_ble_eq_true rfl) (Nat.le_of_ble_eq_true rfl) rfl ew_203 ?_
  exact eg_iretE dX7_eggs_4 hF
theorem dX7_tell_0 : decode cX7_tell 0 = .ok (.iload_n 1, 1) := by decide +kernel
theorem dX7_tell_1 : decode cX7_tell 1 = .ok (.ifCond .lt 15, 3) := by decide +kernel
theorem dX7_tell_4 : decode cX7_tell 4 = .ok (.iload_n 1, 1) := by decide +kernel
theorem dX7_tell_5 : decode cX7_tell 5 = .ok (.iconst 4, 1) := by decide +kernel
theorem dX7_tell_6 : decode cX7_tell 6 = .ok (.if_icmp .ge 10, 3) := by decide +kernel
theorem dX7_tell_9 : decode cX7_tell 9 = .ok (.aload_n 0, 1) := by decide +kernel
theorem dX7_tell_10 : decode cX7_tell 10 = .ok (.getfield 9, 3) := by decide +kernel
theorem dX7_tell_13 : decode cX7_tell 13 = .ok (.iload_n 1, 1) := by decide +kernel
theorem dX7_tell_14 : decode cX7_tell 14 = .ok (.iload_n 2, 1) := by decide +kernel
theorem dX7_tell_15 : decode cX7_tell 15 = .ok (.iastore, 1) := by decide +kernel
theorem dX7_tell_16 : decode cX7_tell 16 = .ok (.return_, 1) := by decide +kernel
def fX7_tell (h : eg_H) (l0 : Nat) (l1 : Int32) (l2 : Int32) : Option (eg_H) :=
  if eg_isO h 7 l0 then (
    if l1 < 0 then
      (some h)
    else
      if (4 : Int32) ≤ l1 then
        (some h)
      else
        (eg_gR h 7 0 l0).bind fun p3 =>
        (eg_wI h 100 p3 l1 l2).bind fun h5 =>
        some h5) else none
theorem fX7_tell_O {h : eg_H} {l0 : Nat} {l1 : Int32} {l2 : Int32} {hE : eg_H} (hF : fX7_tell h l0 l1 l2 = some hE) : eg_isO h 7 l0 := (eg_ifn hF).1
set_option maxRecDepth 20000 in
theorem mX7_tell {h : eg_H} {l0 : Nat} {l1 : Int32} {l2 : Int32} {hE : eg_H} (hF : fX7_tell h l0 l1 l2 = some hE) : eg_Met yX7_tell cX7_tell 3 none 1 [.ref l0, .int l1, .int l2] h none hE := by
  refine eg_enter rfl (Nat.le_of_ble_eq_true rfl) ?_
  show eg_AW (RX7, cX7_tell, 3, 1, none, "tell", none) (eg_Zm none hE h) (eg_nc hE) (eg_ns hE) h 0 [(0, .ref l0), (1, .int l1), (2, .int l2)] [] h
  replace hF := (eg_ifn hF).2
  refine eg_iload_n (i := 1) 1 dX7_tell_0 rfl rfl ?_
  refine eg_if_lt 16 dX7_tell_1 rfl (fun c1 => ?_) (fun c1 => ?_)
  · replace hF := eg_it c1 hF
    exact eg_vretE dX7_tell_16 hF
  · replace hF := eg_if c1 hF
    refine eg_iload_n (i := 1) 1 dX7_tell_4 rfl rfl ?_
    refine eg_iconst (v := (4 : Int32)) dX7_tell_5 (by decide) ?_
    refine eg_ic_ge 16 dX7_tell_6 rfl (fun c2 => ?_) (fun c2 => ?_)
    · replace hF := eg_it c2 hF
      exact eg_vretE dX7_tell_16 hF
    · replace hF := eg_if c2 hF
      refine eg_aload_n (i := 0) 0 dX7_tell_9 rfl rfl ?_
      replace hF := eg_bind hF; obtain ⟨p3, e4, hF⟩ := hF
      refine eg_getR dX7_tell_10 e4 (Nat.le_of_ble_eq_true rfl) (Nat.le_of_ble_eq_true rfl) rfl ew_201 ?_
      refine eg_iload_n (i := 1) 1 dX7_tell_13 rfl rfl ?_
      refine eg_iload_n (i := 2) 2 dX7_tell_14 rfl rfl ?_
      replace hF := eg_bind hF; obtain ⟨h5, e6, hF⟩ := hF
      refine eg_iast dX7_tell_15 e6 ?_
      exact eg_vretE dX7_tell_16 hF
theorem dX7_isPerson_0 : decode cX7_isPerson 0 = .ok (.iload_n 1, 1) := by decide +kernel
theorem dX7_isPerson_1 : decode cX7_isPerson 1 = .ok (.ifCond .lt 15, 3) := by decide +kernel
theorem dX7_isPerson_4 : decode cX7_isPerson 4 = .ok (.iload_n 1, 1) := by decide +kernel
theorem dX7_isPerson_5 : decode cX7_isPerson 5 = .ok (.aload_n 0, 1) := by decide +kernel
theorem dX7_isPerson_6 : decode cX7_isPerson 6 = .ok (.getfield 15, 3) := by decide +kernel
theorem dX7_isPerson_9 : decode cX7_isPerson 9 = .ok (.if_icmp .ge 7, 3) := by decide +kernel
theorem dX7_isPerson_12 : decode cX7_isPerson 12 = .ok (.iconst 1, 1) := by decide +kernel
theorem dX7_isPerson_13 : decode cX7_isPerson 13 = .ok (.goto 4, 3) := by decide +kernel
theorem dX7_isPerson_16 : decode cX7_isPerson 16 = .ok (.iconst 0, 1) := by decide +kernel
theorem dX7_isPerson_17 : decode cX7_isPerson 17 = .ok (.ireturn, 1) := by decide +kernel
def fX7_isPerson (h : eg_H) (l0 : Nat) (l1 : Int32) : Option (Int32 × eg_H) :=
  if eg_isO h 7 l0 then (
    if l1 < 0 then
      (some ((0 : Int32), h))
    else
      (eg_gI h 7 1 l0).bind fun v2 =>
      if v2 ≤ l1 then
        (some ((0 : Int32), h))
      else
        some ((1 : Int32), h)) else none
theorem fX7_isPerson_O {h : eg_H} {l0 : Nat} {l1 : Int32} {rE : Int32} {hE : eg_H} (hF : fX7_isPerson h l0 l1 = some (rE, hE)) : eg_isO h 7 l0 := (eg_ifn hF).1
set_option maxRecDepth 20000 in
theorem mX7_isPerson {h : eg_H} {l0 : Nat} {l1 : Int32} {rE : Int32} {hE : eg_H} (hF : fX7_isPerson h l0 l1 = some (rE, hE)) : eg_Met yX7_isPerson cX7_isPerson 2 (some .boolean) 1 [.ref l0, .int l1] h (some (.int rE)) hE := by
  refine eg_enter rfl (Nat.le_of_ble_eq_true rfl) ?_
  show eg_AW (RX7, cX7_isPerson, 2, 1, none, "isPerson", (some .boolean)) (eg_Zm (some (.int rE)) hE h) (eg_nc hE) (eg_ns hE) h 0 [(0, .ref l0), (1, .int l1)] [] h
  replace hF := (eg_ifn hF).2
  refine eg_iload_n (i := 1) 1 dX7_isPerson_0 rfl rfl ?_
  refine eg_if_lt 16 dX7_isPerson_1 rfl (fun c1 => ?_) (fun c1 => ?_)
  · replace hF := eg_it c1 hF
    refine eg_iconst (v := (0 : Int32)) dX7_isPerson_16 (by decide) ?_
    exact eg_zretE dX7_isPerson_17 (Or.inl rfl) hF
  · replace hF := eg_if c1 hF
    refine eg_iload_n (i := 1) 1 dX7_isPerson_4 rfl rfl ?_
    refine eg_aload_n (i := 0) 0 dX7_isPerson_5 rfl rfl ?_
    replace hF := eg_bind hF; obtain ⟨v2, e3, hF⟩ := hF
    refine eg_getI dX7_isPerson_6 e3 (Nat.le_of_ble_eq_true rfl) (Nat.le_of_ble_eq_true rfl) rfl ew_202 ?_
    refine eg_ic_ge 16 dX7_isPerson_9 rfl (fun c4 => ?_) (fun c4 => ?_)
    · replace hF := eg_it c4 hF
      refine eg_iconst (v := (0 : Int32)) dX7_isPerson_16 (by decide) ?_
      exact eg_zretE dX7_isPerson_17 (Or.inl rfl) hF
    · replace hF := eg_if c4 hF
      refine eg_iconst (v := (1 : Int32)) dX7_isPerson_12 (by decide) ?_
      refine eg_goto 17 dX7_isPerson_13 rfl ?_
      exact eg_zretE dX7_isPerson_17 (Or.inr rfl) hF
theorem dX7_isEgg_0 : decode cX7_isEgg 0 = .ok (.iload_n 1, 1) := by decide +kernel
theorem dX7_isEgg_1 : decode cX7_isEgg 1 = .ok (.ifCond .lt 15, 3) := by decide +kernel
theorem dX7_isEgg_4 : decode cX7_isEgg 4 = .ok (.iload_n 1, 1) := by decide +kernel
theorem dX7_isEgg_5 : decode cX7_isEgg 5 = .ok (.aload_n 0, 1) := by decide +kernel
theorem dX7_isEgg_6 : decode cX7_isEgg 6 = .ok (.getfield 19, 3) := by decide +kernel
theorem dX7_isEgg_9 : decode cX7_isEgg 9 = .ok (.if_icmp .ge 7, 3) := by decide +kernel
theorem dX7_isEgg_12 : decode cX7_isEgg 12 = .ok (.iconst 1, 1) := by decide +kernel
theorem dX7_isEgg_13 : decode cX7_isEgg 13 = .ok (.goto 4, 3) := by decide +kernel
theorem dX7_isEgg_16 : decode cX7_isEgg 16 = .ok (.iconst 0, 1) := by decide +kernel
theorem dX7_isEgg_17 : decode cX7_isEgg 17 = .ok (.ireturn, 1) := by decide +kernel
def fX7_isEgg (h : eg_H) (l0 : Nat) (l1 : Int32) : Option (Int32 × eg_H) :=
  if eg_isO h 7 l0 then (
    if l1 < 0 then
      (some ((0 : Int32), h))
    else
      (eg_gI h 7 2 l0).bind fun v2 =>
      if v2 ≤ l1 then
        (some ((0 : Int32), h))
      else
        some ((1 : Int32), h)) else none
theorem fX7_isEgg_O {h : eg_H} {l0 : Nat} {l1 : Int32} {rE : Int32} {hE : eg_H} (hF : fX7_isEgg h l0 l1 = some (rE, hE)) : eg_isO h 7 l0 := (eg_ifn hF).1
set_option maxRecDepth 20000 in
theorem mX7_isEgg {h : eg_H} {l0 : Nat} {l1 : Int32} {rE : Int32} {hE : eg_H} (hF : fX7_isEgg h l0 l1 = some (rE, hE)) : eg_Met yX7_isEgg cX7_isEgg 2 (some .boolean) 1 [.ref l0, .int l1] h (some (.int rE)) hE := by
  refine eg_enter rfl (Nat.le_of_ble_eq_true rfl) ?_
  show eg_AW (RX7, cX7_isEgg, 2, 1, none, "isEgg", (some .boolean)) (eg_Zm (some (.int rE)) hE h) (eg_nc hE) (eg_ns hE) h 0 [(0, .ref l0), (1, .int l1)] [] h
  replace hF := (eg_ifn hF).2
  refine eg_iload_n (i := 1) 1 dX7_isEgg_0 rfl rfl ?_
  refine eg_if_lt 16 dX7_isEgg_1 rfl (fun c1 => ?_) (fun c1 => ?_)
  · replace hF := eg_it c1 hF
    refine eg_iconst (v := (0 : Int32)) dX7_isEgg_16 (by decide) ?_
    exact eg_zretE dX7_isEgg_17 (Or.inl rfl) hF
  · replace hF := eg_if c1 hF
    refine eg_iload_n (i := 1) 1 dX7_isEgg_4 rfl rfl ?_
    refine eg_aload_n (i := 0) 0 dX7_isEgg_5 rfl rfl ?_
    replace hF := eg_bind hF; obtain ⟨v2, e3, hF⟩ := hF
    refine eg_getI dX7_isEgg_6 e3 (Nat.le_of_ble_eq_true rfl) (Nat.le_of_ble_eq_true rfl) rfl ew_203 ?_
    refine eg_ic_ge 16 dX7_isEgg_9 rfl (fun c4 => ?_) (fun c4 => ?_)
    · replace hF := eg_it c4 hF
      refine eg_iconst (v := (0 : Int32)) dX7_isEgg_16 (by decide) ?_
      exact eg_zretE dX7_isEgg_17 (Or.inl rfl) hF
    · replace hF := eg_if c4 hF
      refine eg_iconst (v := (1 : Int32)) dX7_isEgg_12 (by decide) ?_
      refine eg_goto 17 dX7_isEgg_13 rfl ?_
      exact eg_zretE dX7_isEgg_17 (Or.inr rfl) hF
theorem dX7_isPair_0 : decode cX7_isPair 0 = .ok (.iload_n 1, 1) := by decide +kernel
theorem dX7_isPair_1 : decode cX7_isPair 1 = .ok (.ifCond .lt 40, 3) := by decide +kernel
theorem dX7_isPair_4 : decode cX7_isPair 4 = .ok (.iload_n 1, 1) := by decide +kernel
theorem dX7_isPair_5 : decode cX7_isPair 5 = .ok (.bipush 10, 2) := by decide +kernel
theorem dX7_isPair_7 : decode cX7_isPair 7 = .ok (.idiv, 1) := by decide +kernel
theorem dX7_isPair_8 : decode cX7_isPair 8 = .ok (.aload_n 0, 1) := by decide +kernel
theorem dX7_isPair_9 : decode cX7_isPair 9 = .ok (.getfield 15, 3) := by decide +kernel
theorem dX7_isPair_12 : decode cX7_isPair 12 = .ok (.if_icmp .ge 29, 3) := by decide +kernel
theorem dX7_isPair_15 : decode cX7_isPair 15 = .ok (.iload_n 1, 1) := by decide +kernel
theorem dX7_isPair_16 : decode cX7_isPair 16 = .ok (.bipush 10, 2) := by decide +kernel
theorem dX7_isPair_18 : decode cX7_isPair 18 = .ok (.irem, 1) := by decide +kernel
theorem dX7_isPair_19 : decode cX7_isPair 19 = .ok (.aload_n 0, 1) := by decide +kernel
theorem dX7_isPair_20 : decode cX7_isPair 20 = .ok (.getfield 15, 3) := by decide +kernel
theorem dX7_isPair_23 : decode cX7_isPair 23 = .ok (.if_icmp .ge 18, 3) := by decide +kernel
theorem dX7_isPair_26 : decode cX7_isPair 26 = .ok (.iload_n 1, 1) := by decide +kernel
theorem dX7_isPair_27 : decode cX7_isPair 27 = .ok (.bipush 10, 2) := by decide +kernel
theorem dX7_isPair_29 : decode cX7_isPair 29 = .ok (.idiv, 1) := by decide +kernel
theorem dX7_isPair_30 : decode cX7_isPair 30 = .ok (.iload_n 1, 1) := by decide +kernel
theorem dX7_isPair_31 : decode cX7_isPair 31 = .ok (.bipush 10, 2) := by decide +kernel
theorem dX7_isPair_33 : decode cX7_isPair 33 = .ok (.irem, 1) := by decide +kernel
theorem dX7_isPair_34 : decode cX7_isPair 34 = .ok (.if_icmp .eq 7, 3) := by decide +kernel
theorem dX7_isPair_37 : decode cX7_isPair 37 = .ok (.iconst 1, 1) := by decide +kernel
theorem dX7_isPair_38 : decode cX7_isPair 38 = .ok (.goto 4, 3) := by decide +kernel
theorem dX7_isPair_41 : decode cX7_isPair 41 = .ok (.iconst 0, 1) := by decide +kernel
theorem dX7_isPair_42 : decode cX7_isPair 42 = .ok (.ireturn, 1) := by decide +kernel
def fX7_isPair (h : eg_H) (l0 : Nat) (l1 : Int32) : Option (Int32 × eg_H) :=
  if eg_isO h 7 l0 then (
    if l1 < 0 then
      (some ((0 : Int32), h))
    else
      (eg_gI h 7 1 l0).bind fun v2 =>
      if v2 ≤ (l1 / (10 : Int32)) then
        (some ((0 : Int32), h))
      else
        (eg_gI h 7 1 l0).bind fun v5 =>
        if v5 ≤ (l1 % (10 : Int32)) then
          (some ((0 : Int32), h))
        else
          if (l1 / (10 : Int32)) = (l1 % (10 : Int32)) then
            (some ((0 : Int32), h))
          else
            some ((1 : Int32), h)) else none
theorem fX7_isPair_O {h : eg_H} {l0 : Nat} {l1 : Int32} {rE : Int32} {hE : eg_H} (hF : fX7_isPair h l0 l1 = some (rE, hE)) : eg_isO h 7 l0 := (eg_ifn hF).1
set_option maxRecDepth 20000 in
theorem mX7_isPair {h : eg_H} {l0 : Nat} {l1 : Int32} {rE : Int32} {hE : eg_H} (hF : fX7_isPair h l0 l1 = some (rE, hE)) : eg_Met yX7_isPair cX7_isPair 2 (some .boolean) 1 [.ref l0, .int l1] h (some (.int rE)) hE := by
  refine eg_enter rfl (Nat.le_of_ble_eq_true rfl) ?_
  show eg_AW (RX7, cX7_isPair, 2, 1, none, "isPair", (some .boolean)) (eg_Zm (some (.int rE)) hE h) (eg_nc hE) (eg_ns hE) h 0 [(0, .ref l0), (1, .int l1)] [] h
  replace hF := (eg_ifn hF).2
  refine eg_iload_n (i := 1) 1 dX7_isPair_0 rfl rfl ?_
  refine eg_if_lt 41 dX7_isPair_1 rfl (fun c1 => ?_) (fun c1 => ?_)
  · replace hF := eg_it c1 hF
    refine eg_iconst (v := (0 : Int32)) dX7_isPair_41 (by decide) ?_
    exact eg_zretE dX7_isPair_42 (Or.inl rfl) hF
  · replace hF := eg_if c1 hF
    refine eg_iload_n (i := 1) 1 dX7_isPair_4 rfl rfl ?_
    refine eg_bipush (v := (10 : Int32)) dX7_isPair_5 (by decide) ?_
    refine eg_idiv dX7_isPair_7 (by decide) ?_
    refine eg_aload_n (i := 0) 0 dX7_isPair_8 rfl rfl ?_
    replace hF := eg_bind hF; obtain ⟨v2, e3, hF⟩ := hF
    refine eg_getI dX7_isPair_9 e3 (Nat.le_of_ble_eq_true rfl) (Nat.le_of_ble_eq_true rfl) rfl ew_202 ?_
    refine eg_ic_ge 41 dX7_isPair_12 rfl (fun c4 => ?_) (fun c4 => ?_)
    · replace hF := eg_it c4 hF
      refine eg_iconst (v := (0 : Int32)) dX7_isPair_41 (by decide) ?_
      exact eg_zretE dX7_isPair_42 (Or.inl rfl) hF
    · replace hF := eg_if c4 hF
      refine eg_iload_n (i := 1) 1 dX7_isPair_15 rfl rfl ?_
      refine eg_bipush (v := (10 : Int32)) dX7_isPair_16 (by decide) ?_
      refine eg_irem dX7_isPair_18 (by decide) ?_
      refine eg_aload_n (i := 0) 0 dX7_isPair_19 rfl rfl ?_
      replace hF := eg_bind hF; obtain ⟨v5, e6, hF⟩ := hF
      refine eg_getI dX7_isPair_20 e6 (Nat.le_of_ble_eq_true rfl) (Nat.le_of_ble_eq_true rfl) rfl ew_202 ?_
      refine eg_ic_ge 41 dX7_isPair_23 rfl (fun c7 => ?_) (fun c7 => ?_)
      · replace hF := eg_it c7 hF
        refine eg_iconst (v := (0 : Int32)) dX7_isPair_41 (by decide) ?_
        exact eg_zretE dX7_isPair_42 (Or.inl rfl) hF
      · replace hF := eg_if c7 hF
        refine eg_iload_n (i := 1) 1 dX7_isPair_26 rfl rfl ?_
        refine eg_bipush (v := (10 : Int32)) dX7_isPair_27 (by decide) ?_
        refine eg_idiv dX7_isPair_29 (by decide) ?_
        refine eg_iload_n (i := 1) 1 dX7_isPair_30 rfl rfl ?_
        refine eg_bipush (v := (10 : Int32)) dX7_isPair_31 (by decide) ?_
        refine eg_irem dX7_isPair_33 (by decide) ?_
        refine eg_ic_eq 41 dX7_isPair_34 rfl (fun c8 => ?_) (fun c8 => ?_)
        · replace hF := eg_it c8 hF
          refine eg_iconst (v := (0 : Int32)) dX7_isPair_41 (by decide) ?_
          exact eg_zretE dX7_isPair_42 (Or.inl rfl) hF
        · replace hF := eg_if c8 hF
          refine eg_iconst (v := (1 : Int32)) dX7_isPair_37 (by decide) ?_
          refine eg_goto 42 dX7_isPair_38 rfl ?_
          exact eg_zretE dX7_isPair_42 (Or.inr rfl) hF
theorem dX7_isEggEnd_0 : decode cX7_isEggEnd 0 = .ok (.iload_n 1, 1) := by decide +kernel
theorem dX7_isEggEnd_1 : decode cX7_isEggEnd 1 = .ok (.ifCond .lt 26, 3) := by decide +kernel
theorem dX7_isEggEnd_4 : decode cX7_isEggEnd 4 = .ok (.iload_n 1, 1) := by decide +kernel
theorem dX7_isEggEnd_5 : decode cX7_isEggEnd 5 = .ok (.bipush 10, 2) := by decide +kernel
theorem dX7_isEggEnd_7 : decode cX7_isEggEnd 7 = .ok (.idiv, 1) := by decide +kernel
theorem dX7_isEggEnd_8 : decode cX7_isEggEnd 8 = .ok (.aload_n 0, 1) := by decide +kernel
theorem dX7_isEggEnd_9 : decode cX7_isEggEnd 9 = .ok (.getfield 19, 3) := by decide +kernel
theorem dX7_isEggEnd_12 : decode cX7_isEggEnd 12 = .ok (.if_icmp .ge 15, 3) := by decide +kernel
theorem dX7_isEggEnd_15 : decode cX7_isEggEnd 15 = .ok (.iload_n 1, 1) := by decide +kernel
theorem dX7_isEggEnd_16 : decode cX7_isEggEnd 16 = .ok (.bipush 10, 2) := by decide +kernel
theorem dX7_isEggEnd_18 : decode cX7_isEggEnd 18 = .ok (.irem, 1) := by decide +kernel
theorem dX7_isEggEnd_19 : decode cX7_isEggEnd 19 = .ok (.iconst 1, 1) := by decide +kernel
theorem dX7_isEggEnd_20 : decode cX7_isEggEnd 20 = .ok (.if_icmp .gt 7, 3) := by decide +kernel
theorem dX7_isEggEnd_23 : decode cX7_isEggEnd 23 = .ok (.iconst 1, 1) := by decide +kernel
theorem dX7_isEggEnd_24 : decode cX7_isEggEnd 24 = .ok (.goto 4, 3) := by decide +kernel
theorem dX7_isEggEnd_27 : decode cX7_isEggEnd 27 = .ok (.iconst 0, 1) := by decide +kernel
theorem dX7_isEggEnd_28 : decode cX7_isEggEnd 28 = .ok (.ireturn, 1) := by decide +kernel
def fX7_isEggEnd (h : eg_H) (l0 : Nat) (l1 : Int32) : Option (Int32 × eg_H) :=
  if eg_isO h 7 l0 then (
    if l1 < 0 then
      (some ((0 : Int32), h))
    else
      (eg_gI h 7 2 l0).bind fun v2 =>
      if v2 ≤ (l1 / (10 : Int32)) then
        (some ((0 : Int32), h))
      else
        if (1 : Int32) < (l1 % (10 : Int32)) then
          (some ((0 : Int32), h))
        else
          some ((1 : Int32), h)) else none
theorem fX7_isEggEnd_O {h : eg_H} {l0 : Nat} {l1 : Int32} {rE : Int32} {hE : eg_H} (hF : fX7_isEggEnd h l0 l1 = some (rE, hE)) : eg_isO h 7 l0 := (eg_ifn hF).1
set_option maxRecDepth 20000 in
theorem mX7_isEggEnd {h : eg_H} {l0 : Nat} {l1 : Int32} {rE : Int32} {hE : eg_H} (hF : fX7_isEggEnd h l0 l1 = some (rE, hE)) : eg_Met yX7_isEggEnd cX7_isEggEnd 2 (some .boolean) 1 [.ref l0, .int l1] h (some (.int rE)) hE := by
  refine eg_enter rfl (Nat.le_of_ble_eq_true rfl) ?_
  show eg_AW (RX7, cX7_isEggEnd, 2, 1, none, "isEggEnd", (some .boolean)) (eg_Zm (some (.int rE)) hE h) (eg_nc hE) (eg_ns hE) h 0 [(0, .ref l0), (1, .int l1)] [] h
  replace hF := (eg_ifn hF).2
  refine eg_iload_n (i := 1) 1 dX7_isEggEnd_0 rfl rfl ?_
  refine eg_if_lt 27 dX7_isEggEnd_1 rfl (fun c1 => ?_) (fun c1 => ?_)
  · replace hF := eg_it c1 hF
    refine eg_iconst (v := (0 : Int32)) dX7_isEggEnd_27 (by decide) ?_
    exact eg_zretE dX7_isEggEnd_28 (Or.inl rfl) hF
  · replace hF := eg_if c1 hF
    refine eg_iload_n (i := 1) 1 dX7_isEggEnd_4 rfl rfl ?_
    refine eg_bipush (v := (10 : Int32)) dX7_isEggEnd_5 (by decide) ?_
    refine eg_idiv dX7_isEggEnd_7 (by decide) ?_
    refine eg_aload_n (i := 0) 0 dX7_isEggEnd_8 rfl rfl ?_
    replace hF := eg_bind hF; obtain ⟨v2, e3, hF⟩ := hF
    refine eg_getI dX7_isEggEnd_9 e3 (Nat.le_of_ble_eq_true rfl) (Nat.le_of_ble_eq_true rfl) rfl ew_203 ?_
    refine eg_ic_ge 27 dX7_isEggEnd_12 rfl (fun c4 => ?_) (fun c4 => ?_)
    · replace hF := eg_it c4 hF
      refine eg_iconst (v := (0 : Int32)) dX7_isEggEnd_27 (by decide) ?_
      exact eg_zretE dX7_isEggEnd_28 (Or.inl rfl) hF
    · replace hF := eg_if c4 hF
      refine eg_iload_n (i := 1) 1 dX7_isEggEnd_15 rfl rfl ?_
      refine eg_bipush (v := (10 : Int32)) dX7_isEggEnd_16 (by decide) ?_
      refine eg_irem dX7_isEggEnd_18 (by decide) ?_
      refine eg_iconst (v := (1 : Int32)) dX7_isEggEnd_19 (by decide) ?_
      refine eg_ic_gt 27 dX7_isEggEnd_20 rfl (fun c5 => ?_) (fun c5 => ?_)
      · replace hF := eg_it c5 hF
        refine eg_iconst (v := (0 : Int32)) dX7_isEggEnd_27 (by decide) ?_
        exact eg_zretE dX7_isEggEnd_28 (Or.inl rfl) hF
      · replace hF := eg_if c5 hF
        refine eg_iconst (v := (1 : Int32)) dX7_isEggEnd_23 (by decide) ?_
        refine eg_goto 28 dX7_isEggEnd_24 rfl ?_
        exact eg_zretE dX7_isEggEnd_28 (Or.inr rfl) hF
theorem dX8_init_0 : decode cX8_init 0 = .ok (.aload_n 0, 1) := by decide +kernel
theorem dX8_init_1 : decode cX8_init 1 = .ok (.invokespecial 3, 3) := by decide +kernel
theorem dX8_init_4 : decode cX8_init 4 = .ok (.aload_n 0, 1) := by decide +kernel
theorem dX8_init_5 : decode cX8_init 5 = .ok (.bipush 40, 2) := by decide +kernel
theorem dX8_init_7 : decode cX8_init 7 = .ok (.newarray .int, 2) := by decide +kernel
theorem dX8_init_9 : decode cX8_init 9 = .ok (.putfield 9, 3) := by decide +kernel
theorem dX8_init_12 : decode cX8_init 12 = .ok (.aload_n 0, 1) := by decide +kernel
theorem dX8_init_13 : decode cX8_init 13 = .ok (.iconst 0, 1) := by decide +kernel
theorem dX8_init_14 : decode cX8_init 14 = .ok (.putfield 15, 3) := by decide +kernel
theorem dX8_init_17 : decode cX8_init 17 = .ok (.aload_n 0, 1) := by decide +kernel
theorem dX8_init_18 : decode cX8_init 18 = .ok (.iconst 0, 1) := by decide +kernel
theorem dX8_init_19 : decode cX8_init 19 = .ok (.putfield 19, 3) := by decide +kernel
theorem dX8_init_22 : decode cX8_init 22 = .ok (.aload_n 0, 1) := by decide +kernel
theorem dX8_init_23 : decode cX8_init 23 = .ok (.iconst 0, 1) := by decide +kernel
theorem dX8_init_24 : decode cX8_init 24 = .ok (.putfield 22, 3) := by decide +kernel
theorem dX8_init_27 : decode cX8_init 27 = .ok (.aload_n 0, 1) := by decide +kernel
theorem dX8_init_28 : decode cX8_init 28 = .ok (.aload_n 1, 1) := by decide +kernel
theorem dX8_init_29 : decode cX8_init 29 = .ok (.putfield 26, 3) := by decide +kernel
theorem dX8_init_32 : decode cX8_init 32 = .ok (.return_, 1) := by decide +kernel
def fX8_init (h : eg_H) (l0 : Nat) (l1 : Nat) : Option (eg_H) :=
  (eg_na h 100 (40 : Int32)).bind fun h2 =>
  (some (eg_nc h)).bind fun p1 =>
  (eg_pP h2 8 1 l0 (some p1)).bind fun h5 =>
  (eg_pI h5 8 2 l0 (0 : Int32)).bind fun h7 =>
  (eg_pI h7 8 3 l0 (0 : Int32)).bind fun h9 =>
  (eg_pZ h9 8 4 l0 (0 : Int32)).bind fun h11 =>
  (eg_pP h11 8 0 l0 (some l1)).bind fun h13 =>
  some h13
set_option maxRecDepth 20000 in
theorem mX8_init {h : eg_H} {l0 : Nat} {l1 : Nat} {hE : eg_H} (hF : fX8_init h l0 l1 = some hE) : eg_Met yX8_init cX8_init 2 none 1 [.ref l0, .ref l1] h none hE := by
  refine eg_enter rfl (Nat.le_of_ble_eq_true rfl) ?_
  show eg_AW (RX8, cX8_init, 2, 1, none, "<init>", none) (eg_Zm none hE h) (eg_nc hE) (eg_ns hE) h 0 [(0, .ref l0), (1, .ref l1)] [] h
  refine eg_aload_n (i := 0) 0 dX8_init_0 rfl rfl ?_
  refine eg_objInit dX8_init_1 ew_162 (Nat.le_of_ble_eq_true rfl) (Nat.le_of_ble_eq_true rfl) ?_
  refine eg_aload_n (i := 0) 0 dX8_init_4 rfl rfl ?_
  refine eg_bipush (v := (40 : Int32)) dX8_init_5 (by decide) ?_
  replace hF := eg_bind hF; obtain ⟨h2, e3, hF⟩ := hF
  replace hF := eg_bind hF; obtain ⟨p1, e4, hF⟩ := hF
  refine eg_newa .int dX8_init_7 e3 0 (Nat.le_of_ble_eq_true rfl) (Nat.le_of_ble_eq_true rfl) (Nat.le_of_ble_eq_true rfl) (fun _ => rfl) (by decide) rfl ew_156 ?_
  replace e4 := Option.some.inj e4
  rw [e4]
  replace hF := eg_bind hF; obtain ⟨h5, e6, hF⟩ := hF
  refine eg_putR dX8_init_9 e6 (Nat.le_of_ble_eq_true rfl) (Nat.le_of_ble_eq_true rfl) rfl ew_164 (Or.inr ⟨rfl, rfl, rfl⟩) ?_
  refine eg_aload_n (i := 0) 0 dX8_init_12 rfl rfl ?_
  refine eg_iconst (v := (0 : Int32)) dX8_init_13 (by decide) ?_
  replace hF := eg_bind hF; obtain ⟨h7, e8, hF⟩ := hF
  refine eg_putI dX8_init_14 e8 (Nat.le_of_ble_eq_true rfl) (Nat.le_of_ble_eq_true rfl) rfl ew_165 (Or.inl rfl) ?_
  refine eg_aload_n (i := 0) 0 dX8_init_17 rfl rfl ?_
  refine eg_iconst (v := (0 : Int32)) dX8_init_18 (by decide) ?_
  replace hF := eg_bind hF; obtain ⟨h9, e10, hF⟩ := hF
  refine eg_putI dX8_init_19 e10 (Nat.le_of_ble_eq_true rfl) (Nat.le_of_ble_eq_true rfl) rfl ew_166 (Or.inl rfl) ?_
  refine eg_aload_n (i := 0) 0 dX8_init_22 rfl rfl ?_
  refine eg_iconst (v := (0 : Int32)) dX8_init_23 (by decide) ?_
  replace hF := eg_bind hF; obtain ⟨h11, e12, hF⟩ := hF
  refine eg_putZ dX8_init_24 e12 (Nat.le_of_ble_eq_true rfl) (Nat.le_of_ble_eq_true rfl) rfl ew_167 rfl ?_
  refine eg_aload_n (i := 0) 0 dX8_init_27 rfl rfl ?_
  refine eg_aload_n (i := 1) 1 dX8_init_28 rfl rfl ?_
  replace hF := eg_bind hF; obtain ⟨h13, e14, hF⟩ := hF
  refine eg_putR dX8_init_29 e14 (Nat.le_of_ble_eq_true rfl) (Nat.le_of_ble_eq_true rfl) rfl ew_163 (Or.inr ⟨rfl, rfl, rfl⟩) ?_
  exact eg_vretE dX8_init_32 hF
theorem dX8_keep_0 : decode cX8_keep 0 = .ok (.iload_n 1, 1) := by decide +kernel
theorem dX8_keep_1 : decode cX8_keep 1 = .ok (.ifCond .lt 19, 3) := by decide +kernel
theorem dX8_keep_4 : decode cX8_keep 4 = .ok (.iload_n 1, 1) := by decide +kernel
theorem dX8_keep_5 : decode cX8_keep 5 = .ok (.aload_n 0, 1) := by decide +kernel
theorem dX8_keep_6 : decode cX8_keep 6 = .ok (.getfield 9, 3) := by decide +kernel
theorem dX8_keep_9 : decode cX8_keep 9 = .ok (.arraylength, 1) := by decide +kernel
theorem dX8_keep_10 : decode cX8_keep 10 = .ok (.if_icmp .ge 10, 3) := by decide +kernel
theorem dX8_keep_13 : decode cX8_keep 13 = .ok (.aload_n 0, 1) := by decide +kernel
theorem dX8_keep_14 : decode cX8_keep 14 = .ok (.getfield 9, 3) := by decide +kernel
theorem dX8_keep_17 : decode cX8_keep 17 = .ok (.iload_n 1, 1) := by decide +kernel
theorem dX8_keep_18 : decode cX8_keep 18 = .ok (.iload_n 2, 1) := by decide +kernel
theorem dX8_keep_19 : decode cX8_keep 19 = .ok (.iastore, 1) := by decide +kernel
theorem dX8_keep_20 : decode cX8_keep 20 = .ok (.return_, 1) := by decide +kernel
def fX8_keep (h : eg_H) (l0 : Nat) (l1 : Int32) (l2 : Int32) : Option (eg_H) :=
  if eg_isO h 8 l0 then (
    if l1 < 0 then
      (some h)
    else
      (eg_gR h 8 1 l0).bind fun p2 =>
      (eg_al h p2).bind fun v4 =>
      if v4 ≤ l1 then
        (some h)
      else
        (eg_gR h 8 1 l0).bind fun p7 =>
        (eg_wI h 100 p7 l1 l2).bind fun h9 =>
        some h9) else none
theorem fX8_keep_O {h : eg_H} {l0 : Nat} {l1 : Int32} {l2 : Int32} {hE : eg_H} (hF : fX8_keep h l0 l1 l2 = some hE) : eg_isO h 8 l0 := (eg_ifn hF).1
set_option maxRecDepth 20000 in
theorem mX8_keep {h : eg_H} {l0 : Nat} {l1 : Int32} {l2 : Int32} {hE : eg_H} (hF : fX8_keep h l0 l1 l2 = some hE) : eg_Met yX8_keep cX8_keep 3 none 1 [.ref l0, .int l1, .int l2] h none hE := by
  refine eg_enter rfl (Nat.le_of_ble_eq_true rfl) ?_
  show eg_AW (RX8, cX8_keep, 3, 1, none, "keep", none) (eg_Zm none hE h) (eg_nc hE) (eg_ns hE) h 0 [(0, .ref l0), (1, .int l1), (2, .int l2)] [] h
  replace hF := (eg_ifn hF).2
  refine eg_iload_n (i := 1) 1 dX8_keep_0 rfl rfl ?_
  refine eg_if_lt 20 dX8_keep_1 rfl (fun c1 => ?_) (fun c1 => ?_)
  · replace hF := eg_it c1 hF
    exact eg_vretE dX8_keep_20 hF
  · replace hF := eg_if c1 hF
    refine eg_iload_n (i := 1) 1 dX8_keep_4 rfl rfl ?_
    refine eg_aload_n (i := 0) 0 dX8_keep_5 rfl rfl ?_
    replace hF := eg_bind hF; obtain ⟨p2, e3, hF⟩ := hF
    refine eg_getR dX8_keep_6 e3 (Nat.le_of_ble_eq_true rfl) (Nat.le_of_ble_eq_true rfl) rfl ew_164 ?_
    replace hF := eg_bind hF; obtain ⟨v4, e5, hF⟩ := hF
    refine eg_alen dX8_keep_9 e5 ?_
    refine eg_ic_ge 20 dX8_keep_10 rfl (fun c6 => ?_) (fun c6 => ?_)
    · replace hF := eg_it c6 hF
      exact eg_vretE dX8_keep_20 hF
    · replace hF := eg_if c6 hF
      refine eg_aload_n (i := 0) 0 dX8_keep_13 rfl rfl ?_
      replace hF := eg_bind hF; obtain ⟨p7, e8, hF⟩ := hF
      refine eg_getR dX8_keep_14 e8 (Nat.le_of_ble_eq_true rfl) (Nat.le_of_ble_eq_true rfl) rfl ew_164 ?_
      refine eg_iload_n (i := 1) 1 dX8_keep_17 rfl rfl ?_
      refine eg_iload_n (i := 2) 2 dX8_keep_18 rfl rfl ?_
      replace hF := eg_bind hF; obtain ⟨h9, e10, hF⟩ := hF
      refine eg_iast dX8_keep_19 e10 ?_
      exact eg_vretE dX8_keep_20 hF
theorem dX8_putUsual_0 : decode cX8_putUsual 0 = .ok (.iconst 0, 1) := by decide +kernel
theorem dX8_putUsual_1 : decode cX8_putUsual 1 = .ok (.istore 4, 2) := by decide +kernel
theorem dX8_putUsual_3 : decode cX8_putUsual 3 = .ok (.iload 4, 2) := by decide +kernel
theorem dX8_putUsual_5 : decode cX8_putUsual 5 = .ok (.iload_n 3, 1) := by decide +kernel
theorem dX8_putUsual_6 : decode cX8_putUsual 6 = .ok (.if_icmp .ge 36, 3) := by decide +kernel
theorem dX8_putUsual_9 : decode cX8_putUsual 9 = .ok (.iload_n 2, 1) := by decide +kernel
theorem dX8_putUsual_10 : decode cX8_putUsual 10 = .ok (.iload 4, 2) := by decide +kernel
theorem dX8_putUsual_12 : decode cX8_putUsual 12 = .ok (.iadd, 1) := by decide +kernel
theorem dX8_putUsual_13 : decode cX8_putUsual 13 = .ok (.getstatic 83, 3) := by decide +kernel
theorem dX8_putUsual_16 : decode cX8_putUsual 16 = .ok (.arraylength, 1) := by decide +kernel
theorem dX8_putUsual_17 : decode cX8_putUsual 17 = .ok (.if_icmp .ge 25, 3) := by decide +kernel
theorem dX8_putUsual_20 : decode cX8_putUsual 20 = .ok (.aload_n 0, 1) := by decide +kernel
theorem dX8_putUsual_21 : decode cX8_putUsual 21 = .ok (.iload_n 1, 1) := by decide +kernel
theorem dX8_putUsual_22 : decode cX8_putUsual 22 = .ok (.iload 4, 2) := by decide +kernel
theorem dX8_putUsual_24 : decode cX8_putUsual 24 = .ok (.iadd, 1) := by decide +kernel
theorem dX8_putUsual_25 : decode cX8_putUsual 25 = .ok (.getstatic 83, 3) := by decide +kernel
theorem dX8_putUsual_28 : decode cX8_putUsual 28 = .ok (.iload_n 2, 1) := by decide +kernel
theorem dX8_putUsual_29 : decode cX8_putUsual 29 = .ok (.iload 4, 2) := by decide +kernel
theorem dX8_putUsual_31 : decode cX8_putUsual 31 = .ok (.iadd, 1) := by decide +kernel
theorem dX8_putUsual_32 : decode cX8_putUsual 32 = .ok (.iaload, 1) := by decide +kernel
theorem dX8_putUsual_33 : decode cX8_putUsual 33 = .ok (.invokevirtual 76, 3) := by decide +kernel
theorem dX8_putUsual_36 : decode cX8_putUsual 36 = .ok (.iinc 4 1, 3) := by decide +kernel
theorem dX8_putUsual_39 : decode cX8_putUsual 39 = .ok (.goto (-36), 3) := by decide +kernel
theorem dX8_putUsual_42 : decode cX8_putUsual 42 = .ok (.return_, 1) := by decide +kernel
def fX8_putUsual_L3 : Nat → eg_H → Nat → Int32 → Int32 → Int32 → Int32 → Option (eg_H)
  | 0, _, _, _, _, _, _ => none
  | n + 1, h, l0, l1, l2, l3, l4 =>
    if l3 ≤ l4 then
      (some h)
    else
      if (10 : Int32) ≤ (l2 + l4) then
        (some h)
      else
        (eg_tI 4 (l2 + l4)).bind fun v3 =>
        (fX8_keep h l0 (l1 + l4) v3).bind fun h5 =>
        fX8_putUsual_L3 n h5 l0 l1 l2 l3 (l4 + (1 : Int32))
set_option maxRecDepth 20000 in
theorem fX8_putUsual_L3_ok {h0 : eg_H} {Z : eg_C → State → Prop} {N S : Nat} : ∀ (n : Nat) (h : eg_H) (l0 : Nat) (l1 : Int32) (l2 : Int32) (l3 : Int32) (l4 : Int32) (eE : eg_H), fX8_putUsual_L3 n h l0 l1 l2 l3 l4 = some eE → (hk0 : ∀  (h : eg_H), eE = h → eg_AW (RX8, cX8_putUsual, 5, 2, none, "putUsual", none) Z N S h0 42 [] [] h) → eg_AW (RX8, cX8_putUsual, 5, 2, none, "putUsual", none) Z N S h0 3 [(0, .ref l0), (1, .int l1), (2, .int l2), (3, .int l3), (4, .int l4)] [] h := by
  intro n
  induction n with
  | zero => intro h l0 l1 l2 l3 l4 eE hF; exact absurd hF (by intro q; cases q)
  | succ n ih =>
    intro h l0 l1 l2 l3 l4 eE hF hk0
    have hrec := fun (h' : eg_H) (l0 : Nat) (l1 : Int32) (l2 : Int32) (l3 : Int32) (l4 : Int32) hq => ih h' l0 l1 l2 l3 l4 eE hq hk0
    refine eg_iload (i := 4) 4 dX8_putUsual_3 rfl ?_
    refine eg_iload_n (i := 3) 3 dX8_putUsual_5 rfl rfl ?_
    refine eg_ic_ge 42 dX8_putUsual_6 rfl (fun c1 => ?_) (fun c1 => ?_)
    · replace hF := eg_it c1 hF
      exact eg_sub [] [] rfl (hk0 h (Option.some.inj hF).symm)
    · replace hF := eg_if c1 hF
      refine eg_iload_n (i := 2) 2 dX8_putUsual_9 rfl rfl ?_
      refine eg_iload (i := 4) 4 dX8_putUsual_10 rfl ?_
      refine eg_iadd dX8_putUsual_12 ?_
      refine eg_getsN (k := 4) dX8_putUsual_13 (Nat.le_of_ble_eq_true rfl) (Nat.le_of_ble_eq_true rfl) rfl (by decide) ?_
      refine eg_talen dX8_putUsual_16 (Nat.le_of_ble_eq_true rfl) (Nat.le_of_ble_eq_true rfl) ?_
      refine eg_ic_ge 42 dX8_putUsual_17 rfl (fun c2 => ?_) (fun c2 => ?_)
      · replace hF := eg_it c2 hF
        exact eg_sub [] [] rfl (hk0 h (Option.some.inj hF).symm)
      · replace hF := eg_if c2 hF
        refine eg_aload_n (i := 0) 0 dX8_putUsual_20 rfl rfl ?_
        refine eg_iload_n (i := 1) 1 dX8_putUsual_21 rfl rfl ?_
        refine eg_iload (i := 4) 4 dX8_putUsual_22 rfl ?_
        refine eg_iadd dX8_putUsual_24 ?_
        refine eg_getsN (k := 4) dX8_putUsual_25 (Nat.le_of_ble_eq_true rfl) (Nat.le_of_ble_eq_true rfl) rfl (by decide) ?_
        refine eg_iload_n (i := 2) 2 dX8_putUsual_28 rfl rfl ?_
        refine eg_iload (i := 4) 4 dX8_putUsual_29 rfl ?_
        refine eg_iadd dX8_putUsual_31 ?_
        replace hF := eg_bind hF; obtain ⟨v3, e4, hF⟩ := hF
        refine eg_tald dX8_putUsual_32 (Nat.le_of_ble_eq_true rfl) (Nat.le_of_ble_eq_true rfl) e4 ?_
        replace hF := eg_bind hF; obtain ⟨h5, e6, hF⟩ := hF
        refine eg_callV (c := 8) (n := 2) [.int (l1 + l4), .int v3] dX8_putUsual_33 (mX8_keep e6) rfl (fX8_keep_O e6) (Nat.le_of_ble_eq_true rfl) rfl ew_452 ew_454 ew_1 ew_102 ew_455 hy_X8_keep rfl (Nat.le_of_ble_eq_true rfl) (Nat.le_of_ble_eq_true rfl) (Nat.le_of_ble_eq_true rfl) ?_
        refine eg_iinc (i := 4) (v := (l4 + (1 : Int32))) 4 [(4, .int (l4 + (1 : Int32))), (0, .ref l0), (1, .int l1), (2, .int l2), (3, .int l3)] dX8_putUsual_36 rfl rfl (Nat.le_of_ble_eq_true rfl) rfl ?_
        refine eg_goto 3 dX8_putUsual_39 rfl ?_
        exact eg_sub [1, 2, 3, 4, 0] [(0, .ref l0), (1, .int l1), (2, .int l2), (3, .int l3), (4, .int (l4 + (1 : Int32)))] rfl (hrec h5 l0 l1 l2 l3 (l4 + (1 : Int32)) hF)
def fX8_putUsual (h : eg_H) (l0 : Nat) (l1 : Int32) (l2 : Int32) (l3 : Int32) : Option (eg_H) :=
  if eg_isO h 8 l0 then (
    (fX8_putUsual_L3 eg_F h l0 l1 l2 l3 (0 : Int32)).bind fun e =>
    match e with
    | h3 =>
      some h3) else none
theorem fX8_putUsual_O {h : eg_H} {l0 : Nat} {l1 : Int32} {l2 : Int32} {l3 : Int32} {hE : eg_H} (hF : fX8_putUsual h l0 l1 l2 l3 = some hE) : eg_isO h 8 l0 := (eg_ifn hF).1
set_option maxRecDepth 20000 in
theorem mX8_putUsual {h : eg_H} {l0 : Nat} {l1 : Int32} {l2 : Int32} {l3 : Int32} {hE : eg_H} (hF : fX8_putUsual h l0 l1 l2 l3 = some hE) : eg_Met yX8_putUsual cX8_putUsual 5 none 2 [.ref l0, .int l1, .int l2, .int l3] h none hE := by
  refine eg_enter rfl (Nat.le_of_ble_eq_true rfl) ?_
  show eg_AW (RX8, cX8_putUsual, 5, 2, none, "putUsual", none) (eg_Zm none hE h) (eg_nc hE) (eg_ns hE) h 0 [(0, .ref l0), (1, .int l1), (2, .int l2), (3, .int l3)] [] h
  replace hF := (eg_ifn hF).2
  refine eg_iconst (v := (0 : Int32)) dX8_putUsual_0 (by decide) ?_
  refine eg_istore (i := 4) [(4, .int (0 : Int32)), (0, .ref l0), (1, .int l1), (2, .int l2), (3, .int l3)] dX8_putUsual_1 (Nat.le_of_ble_eq_true rfl) rfl ?_
  replace hF := eg_bind hF; obtain ⟨x2, e1, hF⟩ := hF
  refine eg_sub [1, 2, 3, 4, 0] [(0, .ref l0), (1, .int l1), (2, .int l2), (3, .int l3), (4, .int (0 : Int32))] rfl (fX8_putUsual_L3_ok eg_F h l0 l1 l2 l3 (0 : Int32) x2 e1 ?_)
  · intro h3 e4
    subst e4
    exact eg_vretE dX8_putUsual_42 hF
theorem dX8_itemUnder_0 : decode cX8_itemUnder 0 = .ok (.aload_n 0, 1) := by decide +kernel
theorem dX8_itemUnder_1 : decode cX8_itemUnder 1 = .ok (.getfield 26, 3) := by decide +kernel
theorem dX8_itemUnder_4 : decode cX8_itemUnder 4 = .ok (.invokevirtual 46, 3) := by decide +kernel
theorem dX8_itemUnder_7 : decode cX8_itemUnder 7 = .ok (.istore_n 3, 1) := by decide +kernel
theorem dX8_itemUnder_8 : decode cX8_itemUnder 8 = .ok (.iconst 0, 1) := by decide +kernel
theorem dX8_itemUnder_9 : decode cX8_itemUnder 9 = .ok (.istore 4, 2) := by decide +kernel
theorem dX8_itemUnder_11 : decode cX8_itemUnder 11 = .ok (.iload 4, 2) := by decide +kernel
theorem dX8_itemUnder_13 : decode cX8_itemUnder 13 = .ok (.iload_n 2, 1) := by decide +kernel
theorem dX8_itemUnder_14 : decode cX8_itemUnder 14 = .ok (.if_icmp .ge 35, 3) := by decide +kernel
theorem dX8_itemUnder_17 : decode cX8_itemUnder 17 = .ok (.iload_n 1, 1) := by decide +kernel
theorem dX8_itemUnder_18 : decode cX8_itemUnder 18 = .ok (.iload 4, 2) := by decide +kernel
theorem dX8_itemUnder_20 : decode cX8_itemUnder 20 = .ok (.iadd, 1) := by decide +kernel
theorem dX8_itemUnder_21 : decode cX8_itemUnder 21 = .ok (.getstatic 80, 3) := by decide +kernel
theorem dX8_itemUnder_24 : decode cX8_itemUnder 24 = .ok (.arraylength, 1) := by decide +kernel
theorem dX8_itemUnder_25 : decode cX8_itemUnder 25 = .ok (.if_icmp .ge 24, 3) := by decide +kernel
theorem dX8_itemUnder_28 : decode cX8_itemUnder 28 = .ok (.getstatic 80, 3) := by decide +kernel
theorem dX8_itemUnder_31 : decode cX8_itemUnder 31 = .ok (.iload_n 1, 1) := by decide +kernel
theorem dX8_itemUnder_32 : decode cX8_itemUnder 32 = .ok (.iload 4, 2) := by decide +kernel
theorem dX8_itemUnder_34 : decode cX8_itemUnder 34 = .ok (.iadd, 1) := by decide +kernel
theorem dX8_itemUnder_35 : decode cX8_itemUnder 35 = .ok (.iaload, 1) := by decide +kernel
theorem dX8_itemUnder_36 : decode cX8_itemUnder 36 = .ok (.iload_n 3, 1) := by decide +kernel
theorem dX8_itemUnder_37 : decode cX8_itemUnder 37 = .ok (.if_icmp .ne 6, 3) := by decide +kernel
theorem dX8_itemUnder_40 : decode cX8_itemUnder 40 = .ok (.iload 4, 2) := by decide +kernel
theorem dX8_itemUnder_42 : decode cX8_itemUnder 42 = .ok (.ireturn, 1) := by decide +kernel
theorem dX8_itemUnder_43 : decode cX8_itemUnder 43 = .ok (.iinc 4 1, 3) := by decide +kernel
theorem dX8_itemUnder_46 : decode cX8_itemUnder 46 = .ok (.goto (-35), 3) := by decide +kernel
theorem dX8_itemUnder_49 : decode cX8_itemUnder 49 = .ok (.iconst (-1), 1) := by decide +kernel
theorem dX8_itemUnder_50 : decode cX8_itemUnder 50 = .ok (.ireturn, 1) := by decide +kernel
def fX8_itemUnder_L11 : Nat → eg_H → Int32 → Int32 → Int32 → Int32 → Option ((eg_H) ⊕ (Int32 × eg_H))
  | 0, _, _, _, _, _ => none
  | n + 1, h, l1, l2, l3, l4 =>
    if l2 ≤ l4 then
      (some (.inl h))
    else
      if (10 : Int32) ≤ (l1 + l4) then
        (some (.inl h))
      else
        (eg_tI 1 (l1 + l4)).bind fun v3 =>
        if v3 = l3 then
          (some (.inr (l4, h)))
        else
          fX8_itemUnder_L11 n h l1 l2 l3 (l4 + (1 : Int32))
set_option maxRecDepth 20000 in
theorem fX8_itemUnder_L11_ok {h0 : eg_H} {Z : eg_C → State → Prop} {N S : Nat} : ∀ (n : Nat) (h : eg_H) (l1 : Int32) (l2 : Int32) (l3 : Int32) (l4 : Int32) (eE : (eg_H) ⊕ (Int32 × eg_H)), fX8_itemUnder_L11 n h l1 l2 l3 l4 = some eE → (hk0 : ∀  (h : eg_H), eE = (.inl h) → eg_AW (RX8, cX8_itemUnder, 5, 2, none, "itemUnder", (some .int)) Z N S h0 49 [] [] h) → (hk1 : ∀ (l4 : Int32) (h : eg_H), eE = (.inr (l4, h)) → eg_AW (RX8, cX8_itemUnder, 5, 2, none, "itemUnder", (some .int)) Z N S h0 40 [(4, .int l4)] [] h) → eg_AW (RX8, cX8_itemUnder, 5, 2, none, "itemUnder", (some .int)) Z N S h0 11 [(1, .int l1), (2, .int l2), (3, .int l3), (4, .int l4)] [] h := by
  intro n
  induction n with
  | zero => intro h l1 l2 l3 l4 eE hF; exact absurd hF (by intro q; cases q)
  | succ n ih =>
    intro h l1 l2 l3 l4 eE hF hk0 hk1
    have hrec := fun (h' : eg_H) (l1 : Int32) (l2 : Int32) (l3 : Int32) (l4 : Int32) hq => ih h' l1 l2 l3 l4 eE hq hk0 hk1
    refine eg_iload (i := 4) 3 dX8_itemUnder_11 rfl ?_
    refine eg_iload_n (i := 2) 1 dX8_itemUnder_13 rfl rfl ?_
    refine eg_ic_ge 49 dX8_itemUnder_14 rfl (fun c1 => ?_) (fun c1 => ?_)
    · replace hF := eg_it c1 hF
      exact eg_sub [] [] rfl (hk0 h (Option.some.inj hF).symm)
    · replace hF := eg_if c1 hF
      refine eg_iload_n (i := 1) 0 dX8_itemUnder_17 rfl rfl ?_
      refine eg_iload (i := 4) 3 dX8_itemUnder_18 rfl ?_
      refine eg_iadd dX8_itemUnder_20 ?_
      refine eg_getsN (k := 1) dX8_itemUnder_21 (Nat.le_of_ble_eq_true rfl) (Nat.le_of_ble_eq_true rfl) rfl (by decide) ?_
      refine eg_talen dX8_itemUnder_24 (Nat.le_of_ble_eq_true rfl) (Nat.le_of_ble_eq_true rfl) ?_
      refine eg_ic_ge 49 dX8_itemUnder_25 rfl (fun c2 => ?_) (fun c2 => ?_)
      · replace hF := eg_it c2 hF
        exact eg_sub [] [] rfl (hk0 h (Option.some.inj hF).symm)
      · replace hF := eg_if c2 hF
        refine eg_getsN (k := 1) dX8_itemUnder_28 (Nat.le_of_ble_eq_true rfl) (Nat.le_of_ble_eq_true rfl) rfl (by decide) ?_
        refine eg_iload_n (i := 1) 0 dX8_itemUnder_31 rfl rfl ?_
        refine eg_iload (i := 4) 3 dX8_itemUnder_32 rfl ?_
        refine eg_iadd dX8_itemUnder_34 ?_
        replace hF := eg_bind hF; obtain ⟨v3, e4, hF⟩ := hF
        refine eg_tald dX8_itemUnder_35 (Nat.le_of_ble_eq_true rfl) (Nat.le_of_ble_eq_true rfl) e4 ?_
        refine eg_iload_n (i := 3) 2 dX8_itemUnder_36 rfl rfl ?_
        refine eg_ic_ne 43 dX8_itemUnder_37 rfl (fun c5 => ?_) (fun c5 => ?_)
        · replace hF := eg_it c5 hF
          exact eg_sub [3] [(4, .int l4)] rfl (hk1 l4 h (Option.some.inj hF).symm)
        · replace hF := eg_if c5 hF
          refine eg_iinc (i := 4) (v := (l4 + (1 : Int32))) 3 [(4, .int (l4 + (1 : Int32))), (1, .int l1), (2, .int l2), (3, .int l3)] dX8_itemUnder_43 rfl rfl (Nat.le_of_ble_eq_true rfl) rfl ?_
          refine eg_goto 11 dX8_itemUnder_46 rfl ?_
          exact eg_sub [1, 2, 3, 0] [(1, .int l1), (2, .int l2), (3, .int l3), (4, .int (l4 + (1 : Int32)))] rfl (hrec h l1 l2 l3 (l4 + (1 : Int32)) hF)
def fX8_itemUnder (h : eg_H) (l0 : Nat) (l1 : Int32) (l2 : Int32) : Option (Int32 × eg_H) :=
  if eg_isO h 8 l0 then (
    (eg_gR h 8 0 l0).bind fun p1 =>
    (fX10_sign h p1).bind fun ⟨v4, h3⟩ =>
    (fX8_itemUnder_L11 eg_F h3 l1 l2 v4 (0 : Int32)).bind fun e =>
    match e with
    | .inl h8 =>
      some ((-1 : Int32), h8)
    | .inr (v10, h11) =>
      some (v10, h11)) else none
theorem fX8_itemUnder_O {h : eg_H} {l0 : Nat} {l1 : Int32} {l2 : Int32} {rE : Int32} {hE : eg_H} (hF : fX8_itemUnder h l0 l1 l2 = some (rE, hE)) : eg_isO h 8 l0 := (eg_ifn hF).1
set_option maxRecDepth 20000 in
theorem mX8_itemUnder {h : eg_H} {l0 : Nat} {l1 : Int32} {l2 : Int32} {rE : Int32} {hE : eg_H} (hF : fX8_itemUnder h l0 l1 l2 = some (rE, hE)) : eg_Met yX8_itemUnder cX8_itemUnder 5 (some .int) 2 [.ref l0, .int l1, .int l2] h (some (.int rE)) hE := by
  refine eg_enter rfl (Nat.le_of_ble_eq_true rfl) ?_
  show eg_AW (RX8, cX8_itemUnder, 5, 2, none, "itemUnder", (some .int)) (eg_Zm (some (.int rE)) hE h) (eg_nc hE) (eg_ns hE) h 0 [(0, .ref l0), (1, .int l1), (2, .int l2)] [] h
  replace hF := (eg_ifn hF).2
  refine eg_aload_n (i := 0) 0 dX8_itemUnder_0 rfl rfl ?_
  replace hF := eg_bind hF; obtain ⟨p1, e2, hF⟩ := hF
  refine eg_getR dX8_itemUnder_1 e2 (Nat.le_of_ble_eq_true rfl) (Nat.le_of_ble_eq_true rfl) rfl ew_163 ?_
  replace hF := eg_bind hF; obtain ⟨⟨v4, h3⟩, e5, hF⟩ := hF
  refine eg_callV (c := 10) (n := 0) [] dX8_itemUnder_4 (mX10_sign e5) rfl (fX10_sign_O e5) (Nat.le_of_ble_eq_true rfl) rfl ew_468 ew_469 ew_470 ew_101 ew_471 hy_X10_sign rfl (Nat.le_of_ble_eq_true rfl) (Nat.le_of_ble_eq_true rfl) (Nat.le_of_ble_eq_true rfl) ?_
  refine eg_istore_n (i := 3) [(3, .int v4), (0, .ref l0), (1, .int l1), (2, .int l2)] dX8_itemUnder_7 rfl (Nat.le_of_ble_eq_true rfl) rfl ?_
  refine eg_iconst (v := (0 : Int32)) dX8_itemUnder_8 (by decide) ?_
  refine eg_istore (i := 4) [(4, .int (0 : Int32)), (3, .int v4), (0, .ref l0), (1, .int l1), (2, .int l2)] dX8_itemUnder_9 (Nat.le_of_ble_eq_true rfl) rfl ?_
  replace hF := eg_bind hF; obtain ⟨x7, e6, hF⟩ := hF
  refine eg_sub [3, 4, 1, 0] [(1, .int l1), (2, .int l2), (3, .int v4), (4, .int (0 : Int32))] rfl (fX8_itemUnder_L11_ok eg_F h3 l1 l2 v4 (0 : Int32) x7 e6 ?_ ?_)
  · intro h8 e9
    subst e9
    refine eg_iconst (v := (-1 : Int32)) dX8_itemUnder_49 (by decide) ?_
    exact eg_iretE dX8_itemUnder_50 hF
  · intro v10 h11 e12
    subst e12
    refine eg_iload (i := 4) 0 dX8_itemUnder_40 rfl ?_
    exact eg_iretE dX8_itemUnder_42 hF
theorem dX8_readItems_0 : decode cX8_readItems 0 = .ok (.aload_n 0, 1) := by decide +kernel
theorem dX8_readItems_1 : decode cX8_readItems 1 = .ok (.iload_n 1, 1) := by decide +kernel
theorem dX8_readItems_2 : decode cX8_readItems 2 = .ok (.iload_n 2, 1) := by decide +kernel
theorem dX8_readItems_3 : decode cX8_readItems 3 = .ok (.iload_n 3, 1) := by decide +kernel
theorem dX8_readItems_4 : decode cX8_readItems 4 = .ok (.invokevirtual 30, 3) := by decide +kernel
theorem dX8_readItems_7 : decode cX8_readItems 7 = .ok (.aload_n 0, 1) := by decide +kernel
theorem dX8_readItems_8 : decode cX8_readItems 8 = .ok (.getfield 26, 3) := by decide +kernel
theorem dX8_readItems_11 : decode cX8_readItems 11 = .ok (.invokevirtual 59, 3) := by decide +kernel
theorem dX8_readItems_14 : decode cX8_readItems 14 = .ok (.iconst 0, 1) := by decide +kernel
theorem dX8_readItems_15 : decode cX8_readItems 15 = .ok (.istore 4, 2) := by decide +kernel
theorem dX8_readItems_17 : decode cX8_readItems 17 = .ok (.iconst 0, 1) := by decide +kernel
theorem dX8_readItems_18 : decode cX8_readItems 18 = .ok (.istore 5, 2) := by decide +kernel
theorem dX8_readItems_20 : decode cX8_readItems 20 = .ok (.iload 5, 2) := by decide +kernel
theorem dX8_readItems_22 : decode cX8_readItems 22 = .ok (.iload_n 3, 1) := by decide +kernel
theorem dX8_readItems_23 : decode cX8_readItems 23 = .ok (.if_icmp .ge 83, 3) := by decide +kernel
theorem dX8_readItems_26 : decode cX8_readItems 26 = .ok (.aload_n 0, 1) := by decide +kernel
theorem dX8_readItems_27 : decode cX8_readItems 27 = .ok (.iload_n 2, 1) := by decide +kernel
theorem dX8_readItems_28 : decode cX8_readItems 28 = .ok (.iload_n 3, 1) := by decide +kernel
theorem dX8_readItems_29 : decode cX8_readItems 29 = .ok (.invokevirtual 62, 3) := by decide +kernel
theorem dX8_readItems_32 : decode cX8_readItems 32 = .ok (.istore 6, 2) := by decide +kernel
theorem dX8_readItems_34 : decode cX8_readItems 34 = .ok (.iload 6, 2) := by decide +kernel
theorem dX8_readItems_36 : decode cX8_readItems 36 = .ok (.iconst (-1), 1) := by decide +kernel
theorem dX8_readItems_37 : decode cX8_readItems 37 = .ok (.if_icmp .eq 14, 3) := by decide +kernel
theorem dX8_readItems_40 : decode cX8_readItems 40 = .ok (.iload 4, 2) := by decide +kernel
theorem dX8_readItems_42 : decode cX8_readItems 42 = .ok (.iload 6, 2) := by decide +kernel
theorem dX8_readItems_44 : decode cX8_readItems 44 = .ok (.ishr, 1) := by decide +kernel
theorem dX8_readItems_45 : decode cX8_readItems 45 = .ok (.iconst 1, 1) := by decide +kernel
theorem dX8_readItems_46 : decode cX8_readItems 46 = .ok (.iand, 1) := by decide +kernel
theorem dX8_readItems_47 : decode cX8_readItems 47 = .ok (.iconst 1, 1) := by decide +kernel
theorem dX8_readItems_48 : decode cX8_readItems 48 = .ok (.if_icmp .ne 4, 3) := by decide +kernel
theorem dX8_readItems_51 : decode cX8_readItems 51 = .ok (.return_, 1) := by decide +kernel
theorem dX8_readItems_52 : decode cX8_readItems 52 = .ok (.iload 4, 2) := by decide +kernel
theorem dX8_readItems_54 : decode cX8_readItems 54 = .ok (.iconst 1, 1) := by decide +kernel
theorem dX8_readItems_55 : decode cX8_readItems 55 = .ok (.iload 6, 2) := by decide +kernel
theorem dX8_readItems_57 : decode cX8_readItems 57 = .ok (.ishl, 1) := by decide +kernel
theorem dX8_readItems_58 : decode cX8_readItems 58 = .ok (.ior, 1) := by decide +kernel
theorem dX8_readItems_59 : decode cX8_readItems 59 = .ok (.istore 4, 2) := by decide +kernel
theorem dX8_readItems_61 : decode cX8_readItems 61 = .ok (.aload_n 0, 1) := by decide +kernel
theorem dX8_readItems_62 : decode cX8_readItems 62 = .ok (.getfield 26, 3) := by decide +kernel
theorem dX8_readItems_65 : decode cX8_readItems 65 = .ok (.invokevirtual 59, 3) := by decide +kernel
theorem dX8_readItems_68 : decode cX8_readItems 68 = .ok (.aload_n 0, 1) := by decide +kernel
theorem dX8_readItems_69 : decode cX8_readItems 69 = .ok (.iload_n 1, 1) := by decide +kernel
theorem dX8_readItems_70 : decode cX8_readItems 70 = .ok (.iload 6, 2) := by decide +kernel
theorem dX8_readItems_72 : decode cX8_readItems 72 = .ok (.iadd, 1) := by decide +kernel
theorem dX8_readItems_73 : decode cX8_readItems 73 = .ok (.aload_n 0, 1) := by decide +kernel
theorem dX8_readItems_74 : decode cX8_readItems 74 = .ok (.getfield 26, 3) := by decide +kernel
theorem dX8_readItems_77 : decode cX8_readItems 77 = .ok (.iconst 2, 1) := by decide +kernel
theorem dX8_readItems_78 : decode cX8_readItems 78 = .ok (.getstatic 66, 3) := by decide +kernel
theorem dX8_readItems_81 : decode cX8_readItems 81 = .ok (.iload_n 2, 1) := by decide +kernel
theorem dX8_readItems_82 : decode cX8_readItems 82 = .ok (.iload 6, 2) := by decide +kernel
theorem dX8_readItems_84 : decode cX8_readItems 84 = .ok (.iadd, 1) := by decide +kernel
theorem dX8_readItems_85 : decode cX8_readItems 85 = .ok (.iaload, 1) := by decide +kernel
theorem dX8_readItems_86 : decode cX8_readItems 86 = .ok (.getstatic 69, 3) := by decide +kernel
theorem dX8_readItems_89 : decode cX8_readItems 89 = .ok (.iload_n 2, 1) := by decide +kernel
theorem dX8_readItems_90 : decode cX8_readItems 90 = .ok (.iload 6, 2) := by decide +kernel
theorem dX8_readItems_92 : decode cX8_readItems 92 = .ok (.iadd, 1) := by decide +kernel
theorem dX8_readItems_93 : decode cX8_readItems 93 = .ok (.iaload, 1) := by decide +kernel
theorem dX8_readItems_94 : decode cX8_readItems 94 = .ok (.invokevirtual 72, 3) := by decide +kernel
theorem dX8_readItems_97 : decode cX8_readItems 97 = .ok (.invokevirtual 76, 3) := by decide +kernel
theorem dX8_readItems_100 : decode cX8_readItems 100 = .ok (.iinc 5 1, 3) := by decide +kernel
theorem dX8_readItems_103 : decode cX8_readItems 103 = .ok (.goto (-83), 3) := by decide +kernel
theorem dX8_readItems_106 : decode cX8_readItems 106 = .ok (.return_, 1) := by decide +kernel
def fX8_readItems_L20 : Nat → eg_H → Nat → Int32 → Int32 → Int32 → Int32 → Int32 → Option ((eg_H) ⊕ (eg_H))
  | 0, _, _, _, _, _, _, _ => none
  | n + 1, h, l0, l1, l2, l3, l4, l5 =>
    if l3 ≤ l5 then
      (some (.inl h))
    else
      (fX8_itemUnder h l0 l2 l3).bind fun ⟨v3, h2⟩ =>
      if v3 = (-1 : Int32) then
        (some (.inr (h2)))
      else
        if ((l4 >>> (v3 &&& 31)) &&& (1 : Int32)) = (1 : Int32) then
          (some (.inr (h2)))
        else
          (some ((l4 ||| ((1 : Int32) <<< (v3 &&& 31))))).bind fun v7 =>
          (eg_gR h2 8 0 l0).bind fun p9 =>
          (fX10_step h2 p9).bind fun h11 =>
          (eg_gR h11 8 0 l0).bind fun p13 =>
          (eg_tI 2 (l2 + v3)).bind fun v15 =>
          (eg_tI 3 (l2 + v3)).bind fun v17 =>
          (fX10_number h11 p13 (2 : Int32) v15 v17).bind fun ⟨v20, h19⟩ =>
          (fX8_keep h19 l0 (l1 + v3) v20).bind fun h22 =>
          fX8_readItems_L20 n h22 l0 l1 l2 l3 v7 (l5 + (1 : Int32))
set_option maxRecDepth 20000 in
theorem fX8_readItems_L20_ok {h0 : eg_H} {Z : eg_C → State → Prop} {N S : Nat} : ∀ (n : Nat) (h : eg_H) (l0 : Nat) (l1 : Int32) (l2 : Int32) (l3 : Int32) (l4 : Int32) (l5 : Int32) (eE : (eg_H) ⊕ (eg_H)), fX8_readItems_L20 n h l0 l1 l2 l3 l4 l5 = some eE → (hk0 : ∀  (h : eg_H), eE = (.inl h) → eg_AW (RX8, cX8_readItems, 7, 3, none, "readItems", none) Z N S h0 106 [] [] h) → (hk1 : ∀  (h : eg_H), eE = (.inr (h)) → eg_AW (RX8, cX8_readItems, 7, 3, none, "readItems", none) Z N S h0 51 [] [] h) → eg_AW (RX8, cX8_readItems, 7, 3, none, "readItems", none) Z N S h0 20 [(0, .ref l0), (1, .int l1), (2, .int l2), (3, .int l3), (4, .int l4), (5, .int l5)] [] h := by
  intro n
  induction n with
  | zero => intro h l0 l1 l2 l3 l4 l5 eE hF; exact absurd hF (by intro q; cases q)
  | succ n ih =>
    intro h l0 l1 l2 l3 l4 l5 eE hF hk0 hk1
    have hrec := fun (h' : eg_H) (l0 : Nat) (l1 : Int32) (l2 : Int32) (l3 : Int32) (l4 : Int32) (l5 : Int32) hq => ih h' l0 l1 l2 l3 l4 l5 eE hq hk0 hk1
    refine eg_iload (i := 5) 5 dX8_readItems_20 rfl ?_
    refine eg_iload_n (i := 3) 3 dX8_readItems_22 rfl rfl ?_
    refine eg_ic_ge 106 dX8_readItems_23 rfl (fun c1 => ?_) (fun c1 => ?_)
    · replace hF := eg_it c1 hF
      exact eg_sub [] [] rfl (hk0 h (Option.some.inj hF).symm)
    · replace hF := eg_if c1 hF
      refine eg_aload_n (i := 0) 0 dX8_readItems_26 rfl rfl ?_
      refine eg_iload_n (i := 2) 2 dX8_readItems_27 rfl rfl ?_
      refine eg_iload_n (i := 3) 3 dX8_readItems_28 rfl rfl ?_
      replace hF := eg_bind hF; obtain ⟨⟨v3, h2⟩, e4, hF⟩ := hF
      refine eg_callV (c := 8) (n := 2) [.int l2, .int l3] dX8_readItems_29 (mX8_itemUnder e4) rfl (fX8_itemUnder_O e4) (Nat.le_of_ble_eq_true rfl) rfl ew_480 ew_482 ew_5 ew_102 ew_483 hy_X8_itemUnder rfl (Nat.le_of_ble_eq_true rfl) (Nat.le_of_ble_eq_true rfl) (Nat.le_of_ble_eq_true rfl) ?_
      refine eg_istore (i := 6) [(6, .int v3), (0, .ref l0), (1, .int l1), (2, .int l2), (3, .int l3), (4, .int l4), (5, .int l5)] dX8_readItems_32 (Nat.le_of_ble_eq_true rfl) rfl ?_
      refine eg_iload (i := 6) 0 dX8_readItems_34 rfl ?_
      refine eg_iconst (v := (-1 : Int32)) dX8_readItems_36 (by decide) ?_
      refine eg_ic_eq 51 dX8_readItems_37 rfl (fun c5 => ?_) (fun c5 => ?_)
      · replace hF := eg_it c5 hF
        exact eg_sub [] [] rfl (hk1 h2 (Option.some.inj hF).symm)
      · replace hF := eg_if c5 hF
        refine eg_iload (i := 4) 5 dX8_readItems_40 rfl ?_
        refine eg_iload (i := 6) 0 dX8_readItems_42 rfl ?_
        refine eg_ishr dX8_readItems_44 ?_
        refine eg_iconst (v := (1 : Int32)) dX8_readItems_45 (by decide) ?_
        refine eg_iand dX8_readItems_46 ?_
        refine eg_iconst (v := (1 : Int32)) dX8_readItems_47 (by decide) ?_
        refine eg_ic_ne 52 dX8_readItems_48 rfl (fun c6 => ?_) (fun c6 => ?_)
        · replace hF := eg_it c6 hF
          exact eg_sub [] [] rfl (hk1 h2 (Option.some.inj hF).symm)
        · replace hF := eg_if c6 hF
          refine eg_iload (i := 4) 5 dX8_readItems_52 rfl ?_
          refine eg_iconst (v := (1 : Int32)) dX8_readItems_54 (by decide) ?_
          refine eg_iload (i := 6) 0 dX8_readItems_55 rfl ?_
          refine eg_ishl dX8_readItems_57 ?_
          refine eg_ior dX8_readItems_58 ?_
          replace hF := eg_bind hF; obtain ⟨v7, e8, hF⟩ := hF
          replace e8 := Option.some.inj e8
          rw [e8]
          refine eg_istore (i := 4) [(4, .int v7), (6, .int v3), (0, .ref l0), (1, .int l1), (2, .int l2), (3, .int l3), (5, .int l5)] dX8_readItems_59 (Nat.le_of_ble_eq_true rfl) rfl ?_
          refine eg_aload_n (i := 0) 2 dX8_readItems_61 rfl rfl ?_
          replace hF := eg_bind hF; obtain ⟨p9, e10, hF⟩ := hF
          refine eg_getR dX8_readItems_62 e10 (Nat.le_of_ble_eq_true rfl) (Nat.le_of_ble_eq_true rfl) rfl ew_163 ?_
          replace hF := eg_bind hF; obtain ⟨h11, e12, hF⟩ := hF
          refine eg_callV (c := 10) (n := 0) [] dX8_readItems_65 (mX10_step e12) rfl (fX10_step_O e12) (Nat.le_of_ble_eq_true rfl) rfl ew_476 ew_477 ew_478 ew_101 ew_479 hy_X10_step rfl (Nat.le_of_ble_eq_true rfl) (Nat.le_of_ble_eq_true rfl) (Nat.le_of_ble_eq_true rfl) ?_
          refine eg_aload_n (i := 0) 2 dX8_readItems_68 rfl rfl ?_
          refine eg_iload_n (i := 1) 3 dX8_readItems_69 rfl rfl ?_
          refine eg_iload (i := 6) 1 dX8_readItems_70 rfl ?_
          refine eg_iadd dX8_readItems_72 ?_
          refine eg_aload_n (i := 0) 2 dX8_readItems_73 rfl rfl ?_
          replace hF := eg_bind hF; obtain ⟨p13, e14, hF⟩ := hF
          refine eg_getR dX8_readItems_74 e14 (Nat.le_of_ble_eq_true rfl) (Nat.le_of_ble_eq_true rfl) rfl ew_163 ?_
          refine eg_iconst (v := (2 : Int32)) dX8_readItems_77 (by decide) ?_
          refine eg_getsN (k := 2) dX8_readItems_78 (Nat.le_of_ble_eq_true rfl) (Nat.le_of_ble_eq_true rfl) rfl (by decide) ?_
          refine eg_iload_n (i := 2) 4 dX8_readItems_81 rfl rfl ?_
          refine eg_iload (i := 6) 1 dX8_readItems_82 rfl ?_
          refine eg_iadd dX8_readItems_84 ?_
          replace hF := eg_bind hF; obtain ⟨v15, e16, hF⟩ := hF
          refine eg_tald dX8_readItems_85 (Nat.le_of_ble_eq_true rfl) (Nat.le_of_ble_eq_true rfl) e16 ?_
          refine eg_getsN (k := 3) dX8_readItems_86 (Nat.le_of_ble_eq_true rfl) (Nat.le_of_ble_eq_true rfl) rfl (by decide) ?_
          refine eg_iload_n (i := 2) 4 dX8_readItems_89 rfl rfl ?_
          refine eg_iload (i := 6) 1 dX8_readItems_90 rfl ?_
          refine eg_iadd dX8_readItems_92 ?_
          replace hF := eg_bind hF; obtain ⟨v17, e18, hF⟩ := hF
          refine eg_tald dX8_readItems_93 (Nat.le_of_ble_eq_true rfl) (Nat.le_of_ble_eq_true rfl) e18 ?_
          replace hF := eg_bind hF; obtain ⟨⟨v20, h19⟩, e21, hF⟩ := hF
          refine eg_callV (c := 10) (n := 3) [.int (2 : Int32), .int v15, .int v17] dX8_readItems_94 (mX10_number e21) rfl (fX10_number_O e21) (Nat.le_of_ble_eq_true rfl) rfl ew_490 ew_491 ew_492 ew_101 ew_493 hy_X10_number rfl (Nat.le_of_ble_eq_true rfl) (Nat.le_of_ble_eq_true rfl) (Nat.le_of_ble_eq_true rfl) ?_
          replace hF := eg_bind hF; obtain ⟨h22, e23, hF⟩ := hF
          refine eg_callV (c := 8) (n := 2) [.int (l1 + v3), .int v20] dX8_readItems_97 (mX8_keep e23) rfl (fX8_keep_O e23) (Nat.le_of_ble_eq_true rfl) rfl ew_452 ew_454 ew_1 ew_102 ew_455 hy_X8_keep rfl (Nat.le_of_ble_eq_true rfl) (Nat.le_of_ble_eq_true rfl) (Nat.le_of_ble_eq_true rfl) ?_
          refine eg_iinc (i := 5) (v := (l5 + (1 : Int32))) 6 [(5, .int (l5 + (1 : Int32))), (4, .int v7), (6, .int v3), (0, .ref l0), (1, .int l1), (2, .int l2), (3, .int l3)] dX8_readItems_100 rfl rfl (Nat.le_of_ble_eq_true rfl) rfl ?_
          refine eg_goto 20 dX8_readItems_103 rfl ?_
          exact eg_sub [3, 4, 5, 6, 1, 0] [(0, .ref l0), (1, .int l1), (2, .int l2), (3, .int l3), (4, .int v7), (5, .int (l5 + (1 : Int32)))] rfl (hrec h22 l0 l1 l2 l3 v7 (l5 + (1 : Int32)) hF)
def fX8_readItems (h : eg_H) (l0 : Nat) (l1 : Int32) (l2 : Int32) (l3 : Int32) : Option (eg_H) :=
  if eg_isO h 8 l0 then (
    (fX8_putUsual h l0 l1 l2 l3).bind fun h1 =>
    (eg_gR h1 8 0 l0).bind fun p3 =>
    (fX10_step h1 p3).bind fun h5 =>
    (fX8_readItems_L20 eg_F h5 l0 l1 l2 l3 (0 : Int32) (0 : Int32)).bind fun e =>
    match e with
    | .inl h9 =>
      some h9
    | .inr (h11) =>
      some h11) else none
theorem fX8_readItems_O {h : eg_H} {l0 : Nat} {l1 : Int32} {l2 : Int32} {l3 : Int32} {hE : eg_H} (hF : fX8_readItems h l0 l1 l2 l3 = some hE) : eg_isO h 8 l0 := (eg_ifn hF).1
set_option maxRecDepth 20000 in
theorem mX8_readItems {h : eg_H} {l0 : Nat} {l1 : Int32} {l2 : Int32} {l3 : Int32} {hE : eg_H} (hF : fX8_readItems h l0 l1 l2 l3 = some hE) : eg_Met yX8_readItems cX8_readItems 7 none 3 [.ref l0, .int l1, .int l2, .int l3] h none hE := by
  refine eg_enter rfl (Nat.le_of_ble_eq_true rfl) ?_
  show eg_AW (RX8, cX8_readItems, 7, 3, none, "readItems", none) (eg_Zm none hE h) (eg_nc hE) (eg_ns hE) h 0 [(0, .ref l0), (1, .int l1), (2, .int l2), (3, .int l3)] [] h
  replace hF := (eg_ifn hF).2
  refine eg_aload_n (i := 0) 0 dX8_readItems_0 rfl rfl ?_
  refine eg_iload_n (i := 1) 1 dX8_readItems_1 rfl rfl ?_
  refine eg_iload_n (i := 2) 2 dX8_readItems_2 rfl rfl ?_
  refine eg_iload_n (i := 3) 3 dX8_readItems_3 rfl rfl ?_
  replace hF := eg_bind hF; obtain ⟨h1, e2, hF⟩ := hF
  refine eg_callV (c := 8) (n := 3) [.int l1, .int l2, .int l3] dX8_readItems_4 (mX8_putUsual e2) rfl (fX8_putUsual_O e2) (Nat.le_of_ble_eq_true rfl) rfl ew_446 ew_448 ew_0 ew_102 ew_449 hy_X8_putUsual rfl (Nat.le_of_ble_eq_true rfl) (Nat.le_of_ble_eq_true rfl) (Nat.le_of_ble_eq_true rfl) ?_
  refine eg_aload_n (i := 0) 0 dX8_readItems_7 rfl rfl ?_
  replace hF := eg_bind hF; obtain ⟨p3, e4, hF⟩ := hF
  refine eg_getR dX8_readItems_8 e4 (Nat.le_of_ble_eq_true rfl) (Nat.le_of_ble_eq_true rfl) rfl ew_163 ?_
  replace hF := eg_bind hF; obtain ⟨h5, e6, hF⟩ := hF
  refine eg_callV (c := 10) (n := 0) [] dX8_readItems_11 (mX10_step e6) rfl (fX10_step_O e6) (Nat.le_of_ble_eq_true rfl) rfl ew_476 ew_477 ew_478 ew_101 ew_479 hy_X10_step rfl (Nat.le_of_ble_eq_true rfl) (Nat.le_of_ble_eq_true rfl) (Nat.le_of_ble_eq_true rfl) ?_
  refine eg_iconst (v := (0 : Int32)) dX8_readItems_14 (by decide) ?_
  refine eg_istore (i := 4) [(4, .int (0 : Int32)), (0, .ref l0), (1, .int l1), (2, .int l2), (3, .int l3)] dX8_readItems_15 (Nat.le_of_ble_eq_true rfl) rfl ?_
  refine eg_iconst (v := (0 : Int32)) dX8_readItems_17 (by decide) ?_
  refine eg_istore (i := 5) [(5, .int (0 : Int32)), (4, .int (0 : Int32)), (0, .ref l0), (1, .int l1), (2, .int l2), (3, .int l3)] dX8_readItems_18 (Nat.le_of_ble_eq_true rfl) rfl ?_
  replace hF := eg_bind hF; obtain ⟨x8, e7, hF⟩ := hF
  refine eg_sub [2, 3, 4, 5, 1, 0] [(0, .ref l0), (1, .int l1), (2, .int l2), (3, .int l3), (4, .int (0 : Int32)), (5, .int (0 : Int32))] rfl (fX8_readItems_L20_ok eg_F h5 l0 l1 l2 l3 (0 : Int32) (0 : Int32) x8 e7 ?_ ?_)
  · intro h9 e10
    subst e10
    exact eg_vretE dX8_readItems_106 hF
  · intro h11 e12
    subst e12
    exact eg_vretE dX8_readItems_51 hF
theorem dX8_readClause_0 : decode cX8_readClause 0 = .ok (.aload_n 0, 1) := by decide +kernel
theorem dX8_readClause_1 : decode cX8_readClause 1 = .ok (.getfield 26, 3) := by decide +kernel
theorem dX8_readClause_4 : decode cX8_readClause 4 = .ok (.invokevirtual 46, 3) := by decide +kernel
theorem dX8_readClause_7 : decode cX8_readClause 7 = .ok (.istore_n 1, 1) := by decide +kernel
theorem dX8_readClause_8 : decode cX8_readClause 8 = .ok (.iload_n 1, 1) := by decide +kernel
theorem dX8_readClause_9 : decode cX8_readClause 9 = .ok (.bipush 109, 2) := by decide +kernel
theorem dX8_readClause_11 : decode cX8_readClause 11 = .ok (.if_icmp .ne 25, 3) := by decide +kernel
theorem dX8_readClause_14 : decode cX8_readClause 14 = .ok (.aload_n 0, 1) := by decide +kernel
theorem dX8_readClause_15 : decode cX8_readClause 15 = .ok (.getfield 22, 3) := by decide +kernel
theorem dX8_readClause_18 : decode cX8_readClause 18 = .ok (.ifCond .ne 18, 3) := by decide +kernel
theorem dX8_readClause_21 : decode cX8_readClause 21 = .ok (.aload_n 0, 1) := by decide +kernel
theorem dX8_readClause_22 : decode cX8_readClause 22 = .ok (.iconst 1, 1) := by decide +kernel
theorem dX8_readClause_23 : decode cX8_readClause 23 = .ok (.putfield 22, 3) := by decide +kernel
theorem dX8_readClause_26 : decode cX8_readClause 26 = .ok (.aload_n 0, 1) := by decide +kernel
theorem dX8_readClause_27 : decode cX8_readClause 27 = .ok (.iconst 0, 1) := by decide +kernel
theorem dX8_readClause_28 : decode cX8_readClause 28 = .ok (.iconst 0, 1) := by decide +kernel
theorem dX8_readClause_29 : decode cX8_readClause 29 = .ok (.iconst 4, 1) := by decide +kernel
theorem dX8_readClause_30 : decode cX8_readClause 30 = .ok (.invokevirtual 56, 3) := by decide +kernel
theorem dX8_readClause_33 : decode cX8_readClause 33 = .ok (.goto 96, 3) := by decide +kernel
theorem dX8_readClause_36 : decode cX8_readClause 36 = .ok (.iload_n 1, 1) := by decide +kernel
theorem dX8_readClause_37 : decode cX8_readClause 37 = .ok (.bipush 112, 2) := by decide +kernel
theorem dX8_readClause_39 : decode cX8_readClause 39 = .ok (.if_icmp .ne 39, 3) := by decide +kernel
theorem dX8_readClause_42 : decode cX8_readClause 42 = .ok (.aload_n 0, 1) := by decide +kernel
theorem dX8_readClause_43 : decode cX8_readClause 43 = .ok (.getfield 15, 3) := by decide +kernel
theorem dX8_readClause_46 : decode cX8_readClause 46 = .ok (.bipush 6, 2) := by decide +kernel
theorem dX8_readClause_48 : decode cX8_readClause 48 = .ok (.if_icmp .ge 30, 3) := by decide +kernel
theorem dX8_readClause_51 : decode cX8_readClause 51 = .ok (.aload_n 0, 1) := by decide +kernel
theorem dX8_readClause_52 : decode cX8_readClause 52 = .ok (.iconst 4, 1) := by decide +kernel
theorem dX8_readClause_53 : decode cX8_readClause 53 = .ok (.iconst 4, 1) := by decide +kernel
theorem dX8_readClause_54 : decode cX8_readClause 54 = .ok (.aload_n 0, 1) := by decide +kernel
theorem dX8_readClause_55 : decode cX8_readClause 55 = .ok (.getfield 15, 3) := by decide +kernel
theorem dX8_readClause_58 : decode cX8_readClause 58 = .ok (.imul, 1) := by decide +kernel
theorem dX8_readClause_59 : decode cX8_readClause 59 = .ok (.iadd, 1) := by decide +kernel
theorem dX8_readClause_60 : decode cX8_readClause 60 = .ok (.iconst 4, 1) := by decide +kernel
theorem dX8_readClause_61 : decode cX8_readClause 61 = .ok (.iconst 4, 1) := by decide +kernel
theorem dX8_readClause_62 : decode cX8_readClause 62 = .ok (.invokevirtual 56, 3) := by decide +kernel
theorem dX8_readClause_65 : decode cX8_readClause 65 = .ok (.aload_n 0, 1) := by decide +kernel
theorem dX8_readClause_66 : decode cX8_readClause 66 = .ok (.dup, 1) := by decide +kernel
theorem dX8_readClause_67 : decode cX8_readClause 67 = .ok (.getfield 15, 3) := by decide +kernel
theorem dX8_readClause_70 : decode cX8_readClause 70 = .ok (.iconst 1, 1) := by decide +kernel
theorem dX8_readClause_71 : decode cX8_readClause 71 = .ok (.iadd, 1) := by decide +kernel
theorem dX8_readClause_72 : decode cX8_readClause 72 = .ok (.putfield 15, 3) := by decide +kernel
theorem dX8_readClause_75 : decode cX8_readClause 75 = .ok (.goto 54, 3) := by decide +kernel
theorem dX8_readClause_78 : decode cX8_readClause 78 = .ok (.iload_n 1, 1) := by decide +kernel
theorem dX8_readClause_79 : decode cX8_readClause 79 = .ok (.bipush 101, 2) := by decide +kernel
theorem dX8_readClause_81 : decode cX8_readClause 81 = .ok (.if_icmp .ne 41, 3) := by decide +kernel
theorem dX8_readClause_84 : decode cX8_readClause 84 = .ok (.aload_n 0, 1) := by decide +kernel
theorem dX8_readClause_85 : decode cX8_readClause 85 = .ok (.getfield 19, 3) := by decide +kernel
theorem dX8_readClause_88 : decode cX8_readClause 88 = .ok (.bipush 6, 2) := by decide +kernel
theorem dX8_readClause_90 : decode cX8_readClause 90 = .ok (.if_icmp .ge 32, 3) := by decide +kernel
theorem dX8_readClause_93 : decode cX8_readClause 93 = .ok (.aload_n 0, 1) := by decide +kernel
theorem dX8_readClause_94 : decode cX8_readClause 94 = .ok (.bipush 28, 2) := by decide +kernel
theorem dX8_readClause_96 : decode cX8_readClause 96 = .ok (.iconst 2, 1) := by decide +kernel
theorem dX8_readClause_97 : decode cX8_readClause 97 = .ok (.aload_n 0, 1) := by decide +kernel
theorem dX8_readClause_98 : decode cX8_readClause 98 = .ok (.getfield 19, 3) := by decide +kernel
theorem dX8_readClause_101 : decode cX8_readClause 101 = .ok (.imul, 1) := by decide +kernel
theorem dX8_readClause_102 : decode cX8_readClause 102 = .ok (.iadd, 1) := by decide +kernel
theorem dX8_readClause_103 : decode cX8_readClause 103 = .ok (.bipush 8, 2) := by decide +kernel
theorem dX8_readClause_105 : decode cX8_readClause 105 = .ok (.iconst 2, 1) := by decide +kernel
theorem dX8_readClause_106 : decode cX8_readClause 106 = .ok (.invokevirtual 56, 3) := by decide +kernel
theorem dX8_readClause_109 : decode cX8_readClause 109 = .ok (.aload_n 0, 1) := by decide +kernel
theorem dX8_readClause_110 : decode cX8_readClause 110 = .ok (.dup, 1) := by decide +kernel
theorem dX8_readClause_111 : decode cX8_readClause 111 = .ok (.getfield 19, 3) := by decide +kernel
theorem dX8_readClause_114 : decode cX8_readClause 114 = .ok (.iconst 1, 1) := by decide +kernel
theorem dX8_readClause_115 : decode cX8_readClause 115 = .ok (.iadd, 1) := by decide +kernel
theorem dX8_readClause_116 : decode cX8_readClause 116 = .ok (.putfield 19, 3) := by decide +kernel
theorem dX8_readClause_119 : decode cX8_readClause 119 = .ok (.goto 10, 3) := by decide +kernel
theorem dX8_readClause_122 : decode cX8_readClause 122 = .ok (.aload_n 0, 1) := by decide +kernel
theorem dX8_readClause_123 : decode cX8_readClause 123 = .ok (.getfield 26, 3) := by decide +kernel
theorem dX8_readClause_126 : decode cX8_readClause 126 = .ok (.invokevirtual 50, 3) := by decide +kernel
theorem dX8_readClause_129 : decode cX8_readClause 129 = .ok (.return_, 1) := by decide +kernel
def fX8_readClause_j78 (h : eg_H) (l0 : Nat) (l1 : Int32) : Option (eg_H) :=
  if l1 = (101 : Int32) then
    ((eg_gI h 8 3 l0).bind fun v2 =>
    if (6 : Int32) ≤ v2 then
      ((eg_gR h 8 0 l0).bind fun p5 =>
      (fX10_markWrongHere h p5).bind fun h7 =>
      some h7)
    else
      (eg_gI h 8 3 l0).bind fun v9 =>
      (fX8_readItems h l0 ((28 : Int32) + ((2 : Int32) * v9)) (8 : Int32) (2 : Int32)).bind fun h11 =>
      (eg_gI h11 8 3 l0).bind fun v13 =>
      (eg_pI h11 8 3 l0 (v13 + (1 : Int32))).bind fun h15 =>
      some h15)
  else
    (eg_gR h 8 0 l0).bind fun p17 =>
    (fX10_markWrongHere h p17).bind fun h19 =>
    some h19
set_option maxRecDepth 20000 in
theorem fX8_readClause_j78_ok {h0 : eg_H} (h : eg_H) (l0 : Nat) (l1 : Int32) {hE : eg_H} (hF : fX8_readClause_j78 h l0 l1 = some hE) : eg_AW (RX8, cX8_readClause, 2, 4, none, "readClause", none) (eg_Zm none hE h0) (eg_nc hE) (eg_ns hE) h0 78 [(0, .ref l0), (1, .int l1)] [] h := by
  refine eg_iload_n (i := 1) 1 dX8_readClause_78 rfl rfl ?_
  refine eg_bipush (v := (101 : Int32)) dX8_readClause_79 (by decide) ?_
  refine eg_ic_ne 122 dX8_readClause_81 rfl (fun c1 => ?_) (fun c1 => ?_)
  · replace hF := eg_it c1 hF
    refine eg_aload_n (i := 0) 0 dX8_readClause_84 rfl rfl ?_
    replace hF := eg_bind hF; obtain ⟨v2, e3, hF⟩ := hF
    refine eg_getI dX8_readClause_85 e3 (Nat.le_of_ble_eq_true rfl) (Nat.le_of_ble_eq_true rfl) rfl ew_166 ?_
    refine eg_bipush (v := (6 : Int32)) dX8_readClause_88 (by decide) ?_
    refine eg_ic_ge 122 dX8_readClause_90 rfl (fun c4 => ?_) (fun c4 => ?_)
    · replace hF := eg_it c4 hF
      refine eg_aload_n (i := 0) 0 dX8_readClause_122 rfl rfl ?_
      replace hF := eg_bind hF; obtain ⟨p5, e6, hF⟩ := hF
      refine eg_getR dX8_readClause_123 e6 (Nat.le_of_ble_eq_true rfl) (Nat.le_of_ble_eq_true rfl) rfl ew_163 ?_
      replace hF := eg_bind hF; obtain ⟨h7, e8, hF⟩ := hF
      refine eg_callV (c := 10) (n := 0) [] dX8_readClause_126 (mX10_markWrongHere e8) rfl (fX10_markWrongHere_O e8) (Nat.le_of_ble_eq_true rfl) rfl ew_502 ew_503 ew_504 ew_101 ew_505 hy_X10_markWrongHere rfl (Nat.le_of_ble_eq_true rfl) (Nat.le_of_ble_eq_true rfl) (Nat.le_of_ble_eq_true rfl) ?_
      exact eg_vretE dX8_readClause_129 hF
    · replace hF := eg_if c4 hF
      refine eg_aload_n (i := 0) 0 dX8_readClause_93 rfl rfl ?_
      refine eg_bipush (v := (28 : Int32)) dX8_readClause_94 (by decide) ?_
      refine eg_iconst (v := (2 : Int32)) dX8_readClause_96 (by decide) ?_
      refine eg_aload_n (i := 0) 0 dX8_readClause_97 rfl rfl ?_
      replace hF := eg_bind hF; obtain ⟨v9, e10, hF⟩ := hF
      refine eg_getI dX8_readClause_98 e10 (Nat.le_of_ble_eq_true rfl) (Nat.le_of_ble_eq_true rfl) rfl ew_166 ?_
      refine eg_imul dX8_readClause_101 ?_
      refine eg_iadd dX8_readClause_102 ?_
      refine eg_bipush (v := (8 : Int32)) dX8_readClause_103 (by decide) ?_
      refine eg_iconst (v := (2 : Int32)) dX8_readClause_105 (by decide) ?_
      replace hF := eg_bind hF; obtain ⟨h11, e12, hF⟩ := hF
      refine eg_callV (c := 8) (n := 3) [.int ((28 : Int32) + ((2 : Int32) * v9)), .int (8 : Int32), .int (2 : Int32)] dX8_readClause_106 (mX8_readItems e12) rfl (fX8_readItems_O e12) (Nat.le_of_ble_eq_true rfl) rfl ew_472 ew_474 ew_4 ew_102 ew_475 hy_X8_readItems rfl (Nat.le_of_ble_eq_true rfl) (Nat.le_of_ble_eq_true rfl) (Nat.le_of_ble_eq_true rfl) ?_
      refine eg_aload_n (i := 0) 0 dX8_readClause_109 rfl rfl ?_
      refine eg_dup dX8_readClause_110 rfl ?_
      replace hF := eg_bind hF; obtain ⟨v13, e14, hF⟩ := hF
      refine eg_getI dX8_readClause_111 e14 (Nat.le_of_ble_eq_true rfl) (Nat.le_of_ble_eq_true rfl) rfl ew_166 ?_
      refine eg_iconst (v := (1 : Int32)) dX8_readClause_114 (by decide) ?_
      refine eg_iadd dX8_readClause_115 ?_
      replace hF := eg_bind hF; obtain ⟨h15, e16, hF⟩ := hF
      refine eg_putI dX8_readClause_116 e16 (Nat.le_of_ble_eq_true rfl) (Nat.le_of_ble_eq_true rfl) rfl ew_166 (Or.inl rfl) ?_
      refine eg_goto 129 dX8_readClause_119 rfl ?_
      exact eg_vretE dX8_readClause_129 hF
  · replace hF := eg_if c1 hF
    refine eg_aload_n (i := 0) 0 dX8_readClause_122 rfl rfl ?_
    replace hF := eg_bind hF; obtain ⟨p17, e18, hF⟩ := hF
    refine eg_getR dX8_readClause_123 e18 (Nat.le_of_ble_eq_true rfl) (Nat.le_of_ble_eq_true rfl) rfl ew_163 ?_
    replace hF := eg_bind hF; obtain ⟨h19, e20, hF⟩ := hF
    refine eg_callV (c := 10) (n := 0) [] dX8_readClause_126 (mX10_markWrongHere e20) rfl (fX10_markWrongHere_O e20) (Nat.le_of_ble_eq_true rfl) rfl ew_502 ew_503 ew_504 ew_101 ew_505 hy_X10_markWrongHere rfl (Nat.le_of_ble_eq_true rfl) (Nat.le_of_ble_eq_true rfl) (Nat.le_of_ble_eq_true rfl) ?_
    exact eg_vretE dX8_readClause_129 hF
def fX8_readClause_j36 (h : eg_H) (l0 : Nat) (l1 : Int32) : Option (eg_H) :=
  if l1 = (112 : Int32) then
    ((eg_gI h 8 2 l0).bind fun v2 =>
    if (6 : Int32) ≤ v2 then
      (fX8_readClause_j78 h l0 l1)
    else
      (eg_gI h 8 2 l0).bind fun v5 =>
      (fX8_readItems h l0 ((4 : Int32) + ((4 : Int32) * v5)) (4 : Int32) (4 : Int32)).bind fun h7 =>
      (eg_gI h7 8 2 l0).bind fun v9 =>
      (eg_pI h7 8 2 l0 (v9 + (1 : Int32))).bind fun h11 =>
      some h11)
  else
    fX8_readClause_j78 h l0 l1
set_option maxRecDepth 20000 in
theorem fX8_readClause_j36_ok {h0 : eg_H} (h : eg_H) (l0 : Nat) (l1 : Int32) {hE : eg_H} (hF : fX8_readClause_j36 h l0 l1 = some hE) : eg_AW (RX8, cX8_readClause, 2, 4, none, "readClause", none) (eg_Zm none hE h0) (eg_nc hE) (eg_ns hE) h0 36 [(0, .ref l0), (1, .int l1)] [] h := by
  refine eg_iload_n (i := 1) 1 dX8_readClause_36 rfl rfl ?_
  refine eg_bipush (v := (112 : Int32)) dX8_readClause_37 (by decide) ?_
  refine eg_ic_ne 78 dX8_readClause_39 rfl (fun c1 => ?_) (fun c1 => ?_)
  · replace hF := eg_it c1 hF
    refine eg_aload_n (i := 0) 0 dX8_readClause_42 rfl rfl ?_
    replace hF := eg_bind hF; obtain ⟨v2, e3, hF⟩ := hF
    refine eg_getI dX8_readClause_43 e3 (Nat.le_of_ble_eq_true rfl) (Nat.le_of_ble_eq_true rfl) rfl ew_165 ?_
    refine eg_bipush (v := (6 : Int32)) dX8_readClause_46 (by decide) ?_
    refine eg_ic_ge 78 dX8_readClause_48 rfl (fun c4 => ?_) (fun c4 => ?_)
    · replace hF := eg_it c4 hF
      exact (fX8_readClause_j78_ok h l0 l1 hF)
    · replace hF := eg_if c4 hF
      refine eg_aload_n (i := 0) 0 dX8_readClause_51 rfl rfl ?_
      refine eg_iconst (v := (4 : Int32)) dX8_readClause_52 (by decide) ?_
      refine eg_iconst (v := (4 : Int32)) dX8_readClause_53 (by decide) ?_
      refine eg_aload_n (i := 0) 0 dX8_readClause_54 rfl rfl ?_
      replace hF := eg_bind hF; obtain ⟨v5, e6, hF⟩ := hF
      refine eg_getI dX8_readClause_55 e6 (Nat.le_of_ble_eq_true rfl) (Nat.le_of_ble_eq_true rfl) rfl ew_165 ?_
      refine eg_imul dX8_readClause_58 ?_
      refine eg_iadd dX8_readClause_59 ?_
      refine eg_iconst (v := (4 : Int32)) dX8_readClause_60 (by decide) ?_
      refine eg_iconst (v := (4 : Int32)) dX8_readClause_61 (by decide) ?_
      replace hF := eg_bind hF; obtain ⟨h7, e8, hF⟩ := hF
      refine eg_callV (c := 8) (n := 3) [.int ((4 : Int32) + ((4 : Int32) * v5)), .int (4 : Int32), .int (4 : Int32)] dX8_readClause_62 (mX8_readItems e8) rfl (fX8_readItems_O e8) (Nat.le_of_ble_eq_true rfl) rfl ew_472 ew_474 ew_4 ew_102 ew_475 hy_X8_readItems rfl (Nat.le_of_ble_eq_true rfl) (Nat.le_of_ble_eq_true rfl) (Nat.le_of_ble_eq_true rfl) ?_
      refine eg_aload_n (i := 0) 0 dX8_readClause_65 rfl rfl ?_
      refine eg_dup dX8_readClause_66 rfl ?_
      replace hF := eg_bind hF; obtain ⟨v9, e10, hF⟩ := hF
      refine eg_getI dX8_readClause_67 e10 (Nat.le_of_ble_eq_true rfl) (Nat.le_of_ble_eq_true rfl) rfl ew_165 ?_
      refine eg_iconst (v := (1 : Int32)) dX8_readClause_70 (by decide) ?_
      refine eg_iadd dX8_readClause_71 ?_
      replace hF := eg_bind hF; obtain ⟨h11, e12, hF⟩ := hF
      refine eg_putI dX8_readClause_72 e12 (Nat.le_of_ble_eq_true rfl) (Nat.le_of_ble_eq_true rfl) rfl ew_165 (Or.inl rfl) ?_
      refine eg_goto 129 dX8_readClause_75 rfl ?_
      exact eg_vretE dX8_readClause_129 hF
  · replace hF := eg_if c1 hF
    exact (fX8_readClause_j78_ok h l0 l1 hF)
def fX8_readClause (h : eg_H) (l0 : Nat) : Option (eg_H) :=
  if eg_isO h 8 l0 then (
    (eg_gR h 8 0 l0).bind fun p1 =>
    (fX10_sign h p1).bind fun ⟨v4, h3⟩ =>
    if v4 = (109 : Int32) then
      ((eg_gI h3 8 4 l0).bind fun v7 =>
      if v7 = 0 then
        ((eg_pZ h3 8 4 l0 (1 : Int32)).bind fun h10 =>
        (fX8_readItems h10 l0 (0 : Int32) (0 : Int32) (4 : Int32)).bind fun h12 =>
        some h12)
      else
        fX8_readClause_j36 h3 l0 v4)
    else
      fX8_readClause_j36 h3 l0 v4) else none
theorem fX8_readClause_O {h : eg_H} {l0 : Nat} {hE : eg_H} (hF : fX8_readClause h l0 = some hE) : eg_isO h 8 l0 := (eg_ifn hF).1
set_option maxRecDepth 20000 in
theorem mX8_readClause {h : eg_H} {l0 : Nat} {hE : eg_H} (hF : fX8_readClause h l0 = some hE) : eg_Met yX8_readClause cX8_readClause 2 none 4 [.ref l0] h none hE := by
  refine eg_enter rfl (Nat.le_of_ble_eq_true rfl) ?_
  show eg_AW (RX8, cX8_readClause, 2, 4, none, "readClause", none) (eg_Zm none hE h) (eg_nc hE) (eg_ns hE) h 0 [(0, .ref l0)] [] h
  replace hF := (eg_ifn hF).2
  refine eg_aload_n (i := 0) 0 dX8_readClause_0 rfl rfl ?_
  replace hF := eg_bind hF; obtain ⟨p1, e2, hF⟩ := hF
  refine eg_getR dX8_readClause_1 e2 (Nat.le_of_ble_eq_true rfl) (Nat.le_of_ble_eq_true rfl) rfl ew_163 ?_
  replace hF := eg_bind hF; obtain ⟨⟨v4, h3⟩, e5, hF⟩ := hF
  refine eg_callV (c := 10) (n := 0) [] dX8_readClause_4 (mX10_sign e5) rfl (fX10_sign_O e5) (Nat.le_of_ble_eq_true rfl) rfl ew_468 ew_469 ew_470 ew_101 ew_471 hy_X10_sign rfl (Nat.le_of_ble_eq_true rfl) (Nat.le_of_ble_eq_true rfl) (Nat.le_of_ble_eq_true rfl) ?_
  refine eg_istore_n (i := 1) [(1, .int v4), (0, .ref l0)] dX8_readClause_7 rfl (Nat.le_of_ble_eq_true rfl) rfl ?_
  refine eg_iload_n (i := 1) 0 dX8_readClause_8 rfl rfl ?_
  refine eg_bipush (v := (109 : Int32)) dX8_readClause_9 (by decide) ?_
  refine eg_ic_ne 36 dX8_readClause_11 rfl (fun c6 => ?_) (fun c6 => ?_)
  · replace hF := eg_it c6 hF
    refine eg_aload_n (i := 0) 1 dX8_readClause_14 rfl rfl ?_
    replace hF := eg_bind hF; obtain ⟨v7, e8, hF⟩ := hF
    refine eg_getI dX8_readClause_15 e8 (Nat.le_of_ble_eq_true rfl) (Nat.le_of_ble_eq_true rfl) rfl ew_167 ?_
    refine eg_if_ne 36 dX8_readClause_18 rfl (fun c9 => ?_) (fun c9 => ?_)
    · replace hF := eg_it c9 hF
      refine eg_aload_n (i := 0) 1 dX8_readClause_21 rfl rfl ?_
      refine eg_iconst (v := (1 : Int32)) dX8_readClause_22 (by decide) ?_
      replace hF := eg_bind hF; obtain ⟨h10, e11, hF⟩ := hF
      refine eg_putZ dX8_readClause_23 e11 (Nat.le_of_ble_eq_true rfl) (Nat.le_of_ble_eq_true rfl) rfl ew_167 rfl ?_
      refine eg_aload_n (i := 0) 1 dX8_readClause_26 rfl rfl ?_
      refine eg_iconst (v := (0 : Int32)) dX8_readClause_27 (by decide) ?_
      refine eg_iconst (v := (0 : Int32)) dX8_readClause_28 (by decide) ?_
      refine eg_iconst (v := (4 : Int32)) dX8_readClause_29 (by decide) ?_
      replace hF := eg_bind hF; obtain ⟨h12, e13, hF⟩ := hF
      refine eg_callV (c := 8) (n := 3) [.int (0 : Int32), .int (0 : Int32), .int (4 : Int32)] dX8_readClause_30 (mX8_readItems e13) rfl (fX8_readItems_O e13) (Nat.le_of_ble_eq_true rfl) rfl ew_472 ew_474 ew_4 ew_102 ew_475 hy_X8_readItems rfl (Nat.le_of_ble_eq_true rfl) (Nat.le_of_ble_eq_true rfl) (Nat.le_of_ble_eq_true rfl) ?_
      refine eg_goto 129 dX8_readClause_33 rfl ?_
      exact eg_vretE dX8_readClause_129 hF
    · replace hF := eg_if c9 hF
      exact eg_sub [1, 0] [(0, .ref l0), (1, .int v4)] rfl (fX8_readClause_j36_ok h3 l0 v4 hF)
  · replace hF := eg_if c6 hF
    exact eg_sub [1, 0] [(0, .ref l0), (1, .int v4)] rfl (fX8_readClause_j36_ok h3 l0 v4 hF)
