theorem dX2_init_0 : decode cX2_init 0 = .ok (.aload_n 0, 1) := by decide +kernel
theorem dX2_init_1 : decode cX2_init 1 = .ok (.invokespecial 3, 3) := by decide +kernel
theorem dX2_init_4 : decode cX2_init 4 = .ok (.aload_n 0, 1) := by decide +kernel
theorem dX2_init_5 : decode cX2_init 5 = .ok (.bipush 62, 2) := by decide +kernel
theorem dX2_init_7 : decode cX2_init 7 = .ok (.newarray .int, 2) := by decide +kernel
theorem dX2_init_9 : decode cX2_init 9 = .ok (.putfield 9, 3) := by decide +kernel
theorem dX2_init_12 : decode cX2_init 12 = .ok (.aload_n 0, 1) := by decide +kernel
theorem dX2_init_13 : decode cX2_init 13 = .ok (.iconst 0, 1) := by decide +kernel
theorem dX2_init_14 : decode cX2_init 14 = .ok (.putfield 15, 3) := by decide +kernel
theorem dX2_init_17 : decode cX2_init 17 = .ok (.aload_n 0, 1) := by decide +kernel
theorem dX2_init_18 : decode cX2_init 18 = .ok (.iconst 1, 1) := by decide +kernel
theorem dX2_init_19 : decode cX2_init 19 = .ok (.putfield 19, 3) := by decide +kernel
theorem dX2_init_22 : decode cX2_init 22 = .ok (.aload_n 0, 1) := by decide +kernel
theorem dX2_init_23 : decode cX2_init 23 = .ok (.lconst 0, 1) := by decide +kernel
theorem dX2_init_24 : decode cX2_init 24 = .ok (.putfield 22, 3) := by decide +kernel
theorem dX2_init_27 : decode cX2_init 27 = .ok (.aload_n 0, 1) := by decide +kernel
theorem dX2_init_28 : decode cX2_init 28 = .ok (.aload_n 1, 1) := by decide +kernel
theorem dX2_init_29 : decode cX2_init 29 = .ok (.putfield 26, 3) := by decide +kernel
theorem dX2_init_32 : decode cX2_init 32 = .ok (.return_, 1) := by decide +kernel
def fX2_init (h : eg_H) (l0 : Nat) (l1 : Nat) : Option (eg_H) :=
  (eg_na h 100 (62 : Int32)).bind fun h2 =>
  (some (eg_nc h)).bind fun p1 =>
  (eg_pP h2 2 1 l0 (some p1)).bind fun h5 =>
  (eg_pI h5 2 2 l0 (0 : Int32)).bind fun h7 =>
  (eg_pI h7 2 3 l0 (1 : Int32)).bind fun h9 =>
  (eg_pL h9 2 4 l0 (0 : Int64)).bind fun h11 =>
  (eg_pP h11 2 0 l0 (some l1)).bind fun h13 =>
  some h13
set_option maxRecDepth 20000 in
theorem mX2_init {h : eg_H} {l0 : Nat} {l1 : Nat} {hE : eg_H} (hF : fX2_init h l0 l1 = some hE) : eg_Met yX2_init cX2_init 2 none 1 [.ref l0, .ref l1] h none hE := by
  refine eg_enter rfl (Nat.le_of_ble_eq_true rfl) ?_
  show eg_AW (RX2, cX2_init, 2, 1, none, "<init>", none) (eg_Zm none hE h) (eg_nc hE) (eg_ns hE) h 0 [(0, .ref l0), (1, .ref l1)] [] h
  refine eg_aload_n (i := 0) 0 dX2_init_0 rfl rfl ?_
  refine eg_objInit dX2_init_1 ew_295 (Nat.le_of_ble_eq_true rfl) (Nat.le_of_ble_eq_true rfl) ?_
  refine eg_aload_n (i := 0) 0 dX2_init_4 rfl rfl ?_
  refine eg_bipush (v := (62 : Int32)) dX2_init_5 (by decide) ?_
  replace hF := eg_bind hF; obtain ⟨h2, e3, hF⟩ := hF
  replace hF := eg_bind hF; obtain ⟨p1, e4, hF⟩ := hF
  refine eg_newa .int dX2_init_7 e3 0 (Nat.le_of_ble_eq_true rfl) (Nat.le_of_ble_eq_true rfl) (Nat.le_of_ble_eq_true rfl) (fun _ => rfl) (by decide) rfl ew_156 ?_
  replace e4 := Option.some.inj e4
  rw [e4]
  replace hF := eg_bind hF; obtain ⟨h5, e6, hF⟩ := hF
  refine eg_putR dX2_init_9 e6 (Nat.le_of_ble_eq_true rfl) (Nat.le_of_ble_eq_true rfl) rfl ew_297 (Or.inr ⟨rfl, rfl, rfl⟩) ?_
  refine eg_aload_n (i := 0) 0 dX2_init_12 rfl rfl ?_
  refine eg_iconst (v := (0 : Int32)) dX2_init_13 (by decide) ?_
  replace hF := eg_bind hF; obtain ⟨h7, e8, hF⟩ := hF
  refine eg_putI dX2_init_14 e8 (Nat.le_of_ble_eq_true rfl) (Nat.le_of_ble_eq_true rfl) rfl ew_298 (Or.inl rfl) ?_
  refine eg_aload_n (i := 0) 0 dX2_init_17 rfl rfl ?_
  refine eg_iconst (v := (1 : Int32)) dX2_init_18 (by decide) ?_
  replace hF := eg_bind hF; obtain ⟨h9, e10, hF⟩ := hF
  refine eg_putI dX2_init_19 e10 (Nat.le_of_ble_eq_true rfl) (Nat.le_of_ble_eq_true rfl) rfl ew_299 (Or.inl rfl) ?_
  refine eg_aload_n (i := 0) 0 dX2_init_22 rfl rfl ?_
  refine eg_lconst (v := (0 : Int64)) dX2_init_23 (by decide) ?_
  replace hF := eg_bind hF; obtain ⟨h11, e12, hF⟩ := hF
  refine eg_putL dX2_init_24 e12 (Nat.le_of_ble_eq_true rfl) (Nat.le_of_ble_eq_true rfl) rfl ew_300 rfl ?_
  refine eg_aload_n (i := 0) 0 dX2_init_27 rfl rfl ?_
  refine eg_aload_n (i := 1) 1 dX2_init_28 rfl rfl ?_
  replace hF := eg_bind hF; obtain ⟨h13, e14, hF⟩ := hF
  refine eg_putR dX2_init_29 e14 (Nat.le_of_ble_eq_true rfl) (Nat.le_of_ble_eq_true rfl) rfl ew_296 (Or.inr ⟨rfl, rfl, rfl⟩) ?_
  exact eg_vretE dX2_init_32 hF
theorem dX2_twoOf_0 : decode cX2_twoOf 0 = .ok (.iload_n 0, 1) := by decide +kernel
theorem dX2_twoOf_1 : decode cX2_twoOf 1 = .ok (.iconst 2, 1) := by decide +kernel
theorem dX2_twoOf_2 : decode cX2_twoOf 2 = .ok (.irem, 1) := by decide +kernel
theorem dX2_twoOf_3 : decode cX2_twoOf 3 = .ok (.iconst 1, 1) := by decide +kernel
theorem dX2_twoOf_4 : decode cX2_twoOf 4 = .ok (.if_icmp .ne 7, 3) := by decide +kernel
theorem dX2_twoOf_7 : decode cX2_twoOf 7 = .ok (.iload_n 1, 1) := by decide +kernel
theorem dX2_twoOf_8 : decode cX2_twoOf 8 = .ok (.goto 15, 3) := by decide +kernel
theorem dX2_twoOf_11 : decode cX2_twoOf 11 = .ok (.iload_n 1, 1) := by decide +kernel
theorem dX2_twoOf_12 : decode cX2_twoOf 12 = .ok (.bipush 10, 2) := by decide +kernel
theorem dX2_twoOf_14 : decode cX2_twoOf 14 = .ok (.irem, 1) := by decide +kernel
theorem dX2_twoOf_15 : decode cX2_twoOf 15 = .ok (.bipush 10, 2) := by decide +kernel
theorem dX2_twoOf_17 : decode cX2_twoOf 17 = .ok (.imul, 1) := by decide +kernel
theorem dX2_twoOf_18 : decode cX2_twoOf 18 = .ok (.iload_n 1, 1) := by decide +kernel
theorem dX2_twoOf_19 : decode cX2_twoOf 19 = .ok (.bipush 10, 2) := by decide +kernel
theorem dX2_twoOf_21 : decode cX2_twoOf 21 = .ok (.idiv, 1) := by decide +kernel
theorem dX2_twoOf_22 : decode cX2_twoOf 22 = .ok (.iadd, 1) := by decide +kernel
theorem dX2_twoOf_23 : decode cX2_twoOf 23 = .ok (.ireturn, 1) := by decide +kernel
def fX2_twoOf (h : eg_H) (l0 : Int32) (l1 : Int32) : Option (Int32 × eg_H) :=
  if (l0 % (2 : Int32)) = (1 : Int32) then
    (some (l1, h))
  else
    some ((((l1 % (10 : Int32)) * (10 : Int32)) + (l1 / (10 : Int32))), h)
set_option maxRecDepth 20000 in
theorem mX2_twoOf {h : eg_H} {l0 : Int32} {l1 : Int32} {rE : Int32} {hE : eg_H} (hF : fX2_twoOf h l0 l1 = some (rE, hE)) : eg_Met yX2_twoOf cX2_twoOf 2 (some .int) 1 [.int l0, .int l1] h (some (.int rE)) hE := by
  refine eg_enter rfl (Nat.le_of_ble_eq_true rfl) ?_
  show eg_AW (RX2, cX2_twoOf, 2, 1, none, "twoOf", (some .int)) (eg_Zm (some (.int rE)) hE h) (eg_nc hE) (eg_ns hE) h 0 [(0, .int l0), (1, .int l1)] [] h
  refine eg_iload_n (i := 0) 0 dX2_twoOf_0 rfl rfl ?_
  refine eg_iconst (v := (2 : Int32)) dX2_twoOf_1 (by decide) ?_
  refine eg_irem dX2_twoOf_2 (by decide) ?_
  refine eg_iconst (v := (1 : Int32)) dX2_twoOf_3 (by decide) ?_
  refine eg_ic_ne 11 dX2_twoOf_4 rfl (fun c1 => ?_) (fun c1 => ?_)
  · replace hF := eg_it c1 hF
    refine eg_iload_n (i := 1) 1 dX2_twoOf_7 rfl rfl ?_
    refine eg_goto 23 dX2_twoOf_8 rfl ?_
    exact eg_iretE dX2_twoOf_23 hF
  · replace hF := eg_if c1 hF
    refine eg_iload_n (i := 1) 1 dX2_twoOf_11 rfl rfl ?_
    refine eg_bipush (v := (10 : Int32)) dX2_twoOf_12 (by decide) ?_
    refine eg_irem dX2_twoOf_14 (by decide) ?_
    refine eg_bipush (v := (10 : Int32)) dX2_twoOf_15 (by decide) ?_
    refine eg_imul dX2_twoOf_17 ?_
    refine eg_iload_n (i := 1) 1 dX2_twoOf_18 rfl rfl ?_
    refine eg_bipush (v := (10 : Int32)) dX2_twoOf_19 (by decide) ?_
    refine eg_idiv dX2_twoOf_21 (by decide) ?_
    refine eg_iadd dX2_twoOf_22 ?_
    exact eg_iretE dX2_twoOf_23 hF
theorem dX2_eggEndOf_0 : decode cX2_eggEndOf 0 = .ok (.iload_n 0, 1) := by decide +kernel
theorem dX2_eggEndOf_1 : decode cX2_eggEndOf 1 = .ok (.iconst 2, 1) := by decide +kernel
theorem dX2_eggEndOf_2 : decode cX2_eggEndOf 2 = .ok (.irem, 1) := by decide +kernel
theorem dX2_eggEndOf_3 : decode cX2_eggEndOf 3 = .ok (.iconst 1, 1) := by decide +kernel
theorem dX2_eggEndOf_4 : decode cX2_eggEndOf 4 = .ok (.if_icmp .ne 7, 3) := by decide +kernel
theorem dX2_eggEndOf_7 : decode cX2_eggEndOf 7 = .ok (.iload_n 1, 1) := by decide +kernel
theorem dX2_eggEndOf_8 : decode cX2_eggEndOf 8 = .ok (.goto 17, 3) := by decide +kernel
theorem dX2_eggEndOf_11 : decode cX2_eggEndOf 11 = .ok (.iload_n 1, 1) := by decide +kernel
theorem dX2_eggEndOf_12 : decode cX2_eggEndOf 12 = .ok (.bipush 10, 2) := by decide +kernel
theorem dX2_eggEndOf_14 : decode cX2_eggEndOf 14 = .ok (.idiv, 1) := by decide +kernel
theorem dX2_eggEndOf_15 : decode cX2_eggEndOf 15 = .ok (.bipush 10, 2) := by decide +kernel
theorem dX2_eggEndOf_17 : decode cX2_eggEndOf 17 = .ok (.imul, 1) := by decide +kernel
theorem dX2_eggEndOf_18 : decode cX2_eggEndOf 18 = .ok (.iconst 1, 1) := by decide +kernel
theorem dX2_eggEndOf_19 : decode cX2_eggEndOf 19 = .ok (.iadd, 1) := by decide +kernel
theorem dX2_eggEndOf_20 : decode cX2_eggEndOf 20 = .ok (.iload_n 1, 1) := by decide +kernel
theorem dX2_eggEndOf_21 : decode cX2_eggEndOf 21 = .ok (.bipush 10, 2) := by decide +kernel
theorem dX2_eggEndOf_23 : decode cX2_eggEndOf 23 = .ok (.irem, 1) := by decide +kernel
theorem dX2_eggEndOf_24 : decode cX2_eggEndOf 24 = .ok (.isub, 1) := by decide +kernel
theorem dX2_eggEndOf_25 : decode cX2_eggEndOf 25 = .ok (.ireturn, 1) := by decide +kernel
def fX2_eggEndOf (h : eg_H) (l0 : Int32) (l1 : Int32) : Option (Int32 × eg_H) :=
  if (l0 % (2 : Int32)) = (1 : Int32) then
    (some (l1, h))
  else
    some (((((l1 / (10 : Int32)) * (10 : Int32)) + (1 : Int32)) - (l1 % (10 : Int32))), h)
set_option maxRecDepth 20000 in
theorem mX2_eggEndOf {h : eg_H} {l0 : Int32} {l1 : Int32} {rE : Int32} {hE : eg_H} (hF : fX2_eggEndOf h l0 l1 = some (rE, hE)) : eg_Met yX2_eggEndOf cX2_eggEndOf 2 (some .int) 1 [.int l0, .int l1] h (some (.int rE)) hE := by
  refine eg_enter rfl (Nat.le_of_ble_eq_true rfl) ?_
  show eg_AW (RX2, cX2_eggEndOf, 2, 1, none, "eggEndOf", (some .int)) (eg_Zm (some (.int rE)) hE h) (eg_nc hE) (eg_ns hE) h 0 [(0, .int l0), (1, .int l1)] [] h
  refine eg_iload_n (i := 0) 0 dX2_eggEndOf_0 rfl rfl ?_
  refine eg_iconst (v := (2 : Int32)) dX2_eggEndOf_1 (by decide) ?_
  refine eg_irem dX2_eggEndOf_2 (by decide) ?_
  refine eg_iconst (v := (1 : Int32)) dX2_eggEndOf_3 (by decide) ?_
  refine eg_ic_ne 11 dX2_eggEndOf_4 rfl (fun c1 => ?_) (fun c1 => ?_)
  · replace hF := eg_it c1 hF
    refine eg_iload_n (i := 1) 1 dX2_eggEndOf_7 rfl rfl ?_
    refine eg_goto 25 dX2_eggEndOf_8 rfl ?_
    exact eg_iretE dX2_eggEndOf_25 hF
  · replace hF := eg_if c1 hF
    refine eg_iload_n (i := 1) 1 dX2_eggEndOf_11 rfl rfl ?_
    refine eg_bipush (v := (10 : Int32)) dX2_eggEndOf_12 (by decide) ?_
    refine eg_idiv dX2_eggEndOf_14 (by decide) ?_
    refine eg_bipush (v := (10 : Int32)) dX2_eggEndOf_15 (by decide) ?_
    refine eg_imul dX2_eggEndOf_17 ?_
    refine eg_iconst (v := (1 : Int32)) dX2_eggEndOf_18 (by decide) ?_
    refine eg_iadd dX2_eggEndOf_19 ?_
    refine eg_iload_n (i := 1) 1 dX2_eggEndOf_20 rfl rfl ?_
    refine eg_bipush (v := (10 : Int32)) dX2_eggEndOf_21 (by decide) ?_
    refine eg_irem dX2_eggEndOf_23 (by decide) ?_
    refine eg_isub dX2_eggEndOf_24 ?_
    exact eg_iretE dX2_eggEndOf_25 hF
theorem dX7_yardsOf_0 : decode cX7_yardsOf 0 = .ok (.aload_n 0, 1) := by decide +kernel
theorem dX7_yardsOf_1 : decode cX7_yardsOf 1 = .ok (.getfield 9, 3) := by decide +kernel
theorem dX7_yardsOf_4 : decode cX7_yardsOf 4 = .ok (.iconst 3, 1) := by decide +kernel
theorem dX7_yardsOf_5 : decode cX7_yardsOf 5 = .ok (.iaload, 1) := by decide +kernel
theorem dX7_yardsOf_6 : decode cX7_yardsOf 6 = .ok (.iload_n 1, 1) := by decide +kernel
theorem dX7_yardsOf_7 : decode cX7_yardsOf 7 = .ok (.iconst 1, 1) := by decide +kernel
theorem dX7_yardsOf_8 : decode cX7_yardsOf 8 = .ok (.isub, 1) := by decide +kernel
theorem dX7_yardsOf_9 : decode cX7_yardsOf 9 = .ok (.iload_n 2, 1) := by decide +kernel
theorem dX7_yardsOf_10 : decode cX7_yardsOf 10 = .ok (.imul, 1) := by decide +kernel
theorem dX7_yardsOf_11 : decode cX7_yardsOf 11 = .ok (.iadd, 1) := by decide +kernel
theorem dX7_yardsOf_12 : decode cX7_yardsOf 12 = .ok (.ireturn, 1) := by decide +kernel
def fX7_yardsOf (h : eg_H) (l0 : Nat) (l1 : Int32) (l2 : Int32) : Option (Int32 × eg_H) :=
  if eg_isO h 7 l0 then (
    (eg_gR h 7 0 l0).bind fun p1 =>
    (eg_aI h 100 p1 (3 : Int32)).bind fun v3 =>
    some ((v3 + ((l1 - (1 : Int32)) * l2)), h)) else none
theorem fX7_yardsOf_O {h : eg_H} {l0 : Nat} {l1 : Int32} {l2 : Int32} {rE : Int32} {hE : eg_H} (hF : fX7_yardsOf h l0 l1 l2 = some (rE, hE)) : eg_isO h 7 l0 := (eg_ifn hF).1
set_option maxRecDepth 20000 in
theorem mX7_yardsOf {h : eg_H} {l0 : Nat} {l1 : Int32} {l2 : Int32} {rE : Int32} {hE : eg_H} (hF : fX7_yardsOf h l0 l1 l2 = some (rE, hE)) : eg_Met yX7_yardsOf cX7_yardsOf 3 (some .int) 1 [.ref l0, .int l1, .int l2] h (some (.int rE)) hE := by
  refine eg_enter rfl (Nat.le_of_ble_eq_true rfl) ?_
  show eg_AW (RX7, cX7_yardsOf, 3, 1, none, "yardsOf", (some .int)) (eg_Zm (some (.int rE)) hE h) (eg_nc hE) (eg_ns hE) h 0 [(0, .ref l0), (1, .int l1), (2, .int l2)] [] h
  replace hF := (eg_ifn hF).2
  refine eg_aload_n (i := 0) 0 dX7_yardsOf_0 rfl rfl ?_
  replace hF := eg_bind hF; obtain ⟨p1, e2, hF⟩ := hF
  refine eg_getR dX7_yardsOf_1 e2 (Nat.le_of_ble_eq_true rfl) (Nat.le_of_ble_eq_true rfl) rfl ew_201 ?_
  refine eg_iconst (v := (3 : Int32)) dX7_yardsOf_4 (by decide) ?_
  replace hF := eg_bind hF; obtain ⟨v3, e4, hF⟩ := hF
  refine eg_iald dX7_yardsOf_5 e4 ?_
  refine eg_iload_n (i := 1) 1 dX7_yardsOf_6 rfl rfl ?_
  refine eg_iconst (v := (1 : Int32)) dX7_yardsOf_7 (by decide) ?_
  refine eg_isub dX7_yardsOf_8 ?_
  refine eg_iload_n (i := 2) 2 dX7_yardsOf_9 rfl rfl ?_
  refine eg_imul dX7_yardsOf_10 ?_
  refine eg_iadd dX7_yardsOf_11 ?_
  exact eg_iretE dX7_yardsOf_12 hF
theorem dX11_goodIn_0 : decode cX11_goodIn 0 = .ok (.iload_n 0, 1) := by decide +kernel
theorem dX11_goodIn_1 : decode cX11_goodIn 1 = .ok (.bipush 100, 2) := by decide +kernel
theorem dX11_goodIn_3 : decode cX11_goodIn 3 = .ok (.irem, 1) := by decide +kernel
theorem dX11_goodIn_4 : decode cX11_goodIn 4 = .ok (.ireturn, 1) := by decide +kernel
def fX11_goodIn (h : eg_H) (l0 : Int32) : Option (Int32 × eg_H) :=
  some ((l0 % (100 : Int32)), h)
set_option maxRecDepth 20000 in
theorem mX11_goodIn {h : eg_H} {l0 : Int32} {rE : Int32} {hE : eg_H} (hF : fX11_goodIn h l0 = some (rE, hE)) : eg_Met yX11_goodIn cX11_goodIn 1 (some .int) 1 [.int l0] h (some (.int rE)) hE := by
  refine eg_enter rfl (Nat.le_of_ble_eq_true rfl) ?_
  show eg_AW (RX11, cX11_goodIn, 1, 1, none, "goodIn", (some .int)) (eg_Zm (some (.int rE)) hE h) (eg_nc hE) (eg_ns hE) h 0 [(0, .int l0)] [] h
  refine eg_iload_n (i := 0) 0 dX11_goodIn_0 rfl rfl ?_
  refine eg_bipush (v := (100 : Int32)) dX11_goodIn_1 (by decide) ?_
  refine eg_irem dX11_goodIn_3 (by decide) ?_
  exact eg_iretE dX11_goodIn_4 hF
theorem dX7_slips_0 : decode cX7_slips 0 = .ok (.aload_n 0, 1) := by decide +kernel
theorem dX7_slips_1 : decode cX7_slips 1 = .ok (.iload_n 1, 1) := by decide +kernel
theorem dX7_slips_2 : decode cX7_slips 2 = .ok (.iconst 0, 1) := by decide +kernel
theorem dX7_slips_3 : decode cX7_slips 3 = .ok (.invokevirtual 37, 3) := by decide +kernel
theorem dX7_slips_6 : decode cX7_slips 6 = .ok (.istore_n 2, 1) := by decide +kernel
theorem dX7_slips_7 : decode cX7_slips 7 = .ok (.iload_n 2, 1) := by decide +kernel
theorem dX7_slips_8 : decode cX7_slips 8 = .ok (.ifCond .le 11, 3) := by decide +kernel
theorem dX7_slips_11 : decode cX7_slips 11 = .ok (.iconst 2, 1) := by decide +kernel
theorem dX7_slips_12 : decode cX7_slips 12 = .ok (.iload_n 2, 1) := by decide +kernel
theorem dX7_slips_13 : decode cX7_slips 13 = .ok (.imul, 1) := by decide +kernel
theorem dX7_slips_14 : decode cX7_slips 14 = .ok (.iconst 1, 1) := by decide +kernel
theorem dX7_slips_15 : decode cX7_slips 15 = .ok (.iadd, 1) := by decide +kernel
theorem dX7_slips_16 : decode cX7_slips 16 = .ok (.goto 4, 3) := by decide +kernel
theorem dX7_slips_19 : decode cX7_slips 19 = .ok (.iconst 1, 1) := by decide +kernel
theorem dX7_slips_20 : decode cX7_slips 20 = .ok (.ireturn, 1) := by decide +kernel
def fX7_slips (h : eg_H) (l0 : Nat) (l1 : Int32) : Option (Int32 × eg_H) :=
  if eg_isO h 7 l0 then (
    (fX7_ofPerson h l0 l1 (0 : Int32)).bind fun ⟨v2, h1⟩ =>
    if v2 ≤ 0 then
      (some ((1 : Int32), h1))
    else
      some ((((2 : Int32) * v2) + (1 : Int32)), h1)) else none
theorem fX7_slips_O {h : eg_H} {l0 : Nat} {l1 : Int32} {rE : Int32} {hE : eg_H} (hF : fX7_slips h l0 l1 = some (rE, hE)) : eg_isO h 7 l0 := (eg_ifn hF).1
set_option maxRecDepth 20000 in
theorem mX7_slips {h : eg_H} {l0 : Nat} {l1 : Int32} {rE : Int32} {hE : eg_H} (hF : fX7_slips h l0 l1 = some (rE, hE)) : eg_Met yX7_slips cX7_slips 3 (some .int) 2 [.ref l0, .int l1] h (some (.int rE)) hE := by
  refine eg_enter rfl (Nat.le_of_ble_eq_true rfl) ?_
  show eg_AW (RX7, cX7_slips, 3, 2, none, "slips", (some .int)) (eg_Zm (some (.int rE)) hE h) (eg_nc hE) (eg_ns hE) h 0 [(0, .ref l0), (1, .int l1)] [] h
  replace hF := (eg_ifn hF).2
  refine eg_aload_n (i := 0) 0 dX7_slips_0 rfl rfl ?_
  refine eg_iload_n (i := 1) 1 dX7_slips_1 rfl rfl ?_
  refine eg_iconst (v := (0 : Int32)) dX7_slips_2 (by decide) ?_
  replace hF := eg_bind hF; obtain ⟨⟨v2, h1⟩, e3, hF⟩ := hF
  refine eg_callV (c := 7) (n := 2) [.int l1, .int (0 : Int32)] dX7_slips_3 (mX7_ofPerson e3) rfl (fX7_ofPerson_O e3) (Nat.le_of_ble_eq_true rfl) rfl ew_909 ew_741 ew_742 ew_104 ew_743 hy_X7_ofPerson rfl (Nat.le_of_ble_eq_true rfl) (Nat.le_of_ble_eq_true rfl) (Nat.le_of_ble_eq_true rfl) ?_
  refine eg_istore_n (i := 2) [(2, .int v2), (0, .ref l0), (1, .int l1)] dX7_slips_6 rfl (Nat.le_of_ble_eq_true rfl) rfl ?_
  refine eg_iload_n (i := 2) 0 dX7_slips_7 rfl rfl ?_
  refine eg_if_le 19 dX7_slips_8 rfl (fun c4 => ?_) (fun c4 => ?_)
  · replace hF := eg_it c4 hF
    refine eg_iconst (v := (1 : Int32)) dX7_slips_19 (by decide) ?_
    exact eg_iretE dX7_slips_20 hF
  · replace hF := eg_if c4 hF
    refine eg_iconst (v := (2 : Int32)) dX7_slips_11 (by decide) ?_
    refine eg_iload_n (i := 2) 0 dX7_slips_12 rfl rfl ?_
    refine eg_imul dX7_slips_13 ?_
    refine eg_iconst (v := (1 : Int32)) dX7_slips_14 (by decide) ?_
    refine eg_iadd dX7_slips_15 ?_
    refine eg_goto 20 dX7_slips_16 rfl ?_
    exact eg_iretE dX7_slips_20 hF
theorem dX2_fill_0 : decode cX2_fill 0 = .ok (.aload_n 0, 1) := by decide +kernel
theorem dX2_fill_1 : decode cX2_fill 1 = .ok (.getfield 9, 3) := by decide +kernel
theorem dX2_fill_4 : decode cX2_fill 4 = .ok (.iconst 0, 1) := by decide +kernel
theorem dX2_fill_5 : decode cX2_fill 5 = .ok (.invokestatic 30, 3) := by decide +kernel
theorem dX2_fill_8 : decode cX2_fill 8 = .ok (.aload_n 0, 1) := by decide +kernel
theorem dX2_fill_9 : decode cX2_fill 9 = .ok (.getfield 9, 3) := by decide +kernel
theorem dX2_fill_12 : decode cX2_fill 12 = .ok (.iconst 0, 1) := by decide +kernel
theorem dX2_fill_13 : decode cX2_fill 13 = .ok (.ldc 36, 2) := by decide +kernel
theorem dX2_fill_15 : decode cX2_fill 15 = .ok (.iastore, 1) := by decide +kernel
theorem dX2_fill_16 : decode cX2_fill 16 = .ok (.aload_n 0, 1) := by decide +kernel
theorem dX2_fill_17 : decode cX2_fill 17 = .ok (.iload 4, 2) := by decide +kernel
theorem dX2_fill_19 : decode cX2_fill 19 = .ok (.putfield 19, 3) := by decide +kernel
theorem dX2_fill_22 : decode cX2_fill 22 = .ok (.aload_n 0, 1) := by decide +kernel
theorem dX2_fill_23 : decode cX2_fill 23 = .ok (.iconst 0, 1) := by decide +kernel
theorem dX2_fill_24 : decode cX2_fill 24 = .ok (.putfield 15, 3) := by decide +kernel
theorem dX2_fill_27 : decode cX2_fill 27 = .ok (.aload_n 0, 1) := by decide +kernel
theorem dX2_fill_28 : decode cX2_fill 28 = .ok (.lconst 0, 1) := by decide +kernel
theorem dX2_fill_29 : decode cX2_fill 29 = .ok (.putfield 22, 3) := by decide +kernel
theorem dX2_fill_32 : decode cX2_fill 32 = .ok (.ldc2_w 37, 3) := by decide +kernel
theorem dX2_fill_35 : decode cX2_fill 35 = .ok (.lstore 6, 2) := by decide +kernel
theorem dX2_fill_37 : decode cX2_fill 37 = .ok (.iconst 1, 1) := by decide +kernel
theorem dX2_fill_38 : decode cX2_fill 38 = .ok (.istore 8, 2) := by decide +kernel
theorem dX2_fill_40 : decode cX2_fill 40 = .ok (.iload 8, 2) := by decide +kernel
theorem dX2_fill_42 : decode cX2_fill 42 = .ok (.bipush 60, 2) := by decide +kernel
theorem dX2_fill_44 : decode cX2_fill 44 = .ok (.if_icmp .gt 118, 3) := by decide +kernel
theorem dX2_fill_47 : decode cX2_fill 47 = .ok (.aload_n 0, 1) := by decide +kernel
theorem dX2_fill_48 : decode cX2_fill 48 = .ok (.getfield 26, 3) := by decide +kernel
theorem dX2_fill_51 : decode cX2_fill 51 = .ok (.iload 8, 2) := by decide +kernel
theorem dX2_fill_53 : decode cX2_fill 53 = .ok (.aload_n 0, 1) := by decide +kernel
theorem dX2_fill_54 : decode cX2_fill 54 = .ok (.getfield 19, 3) := by decide +kernel
theorem dX2_fill_57 : decode cX2_fill 57 = .ok (.invokevirtual 39, 3) := by decide +kernel
theorem dX2_fill_60 : decode cX2_fill 60 = .ok (.istore 9, 2) := by decide +kernel
theorem dX2_fill_62 : decode cX2_fill 62 = .ok (.iload 9, 2) := by decide +kernel
theorem dX2_fill_64 : decode cX2_fill 64 = .ok (.bipush 60, 2) := by decide +kernel
theorem dX2_fill_66 : decode cX2_fill 66 = .ok (.if_icmp .le 4, 3) := by decide +kernel
theorem dX2_fill_69 : decode cX2_fill 69 = .ok (.return_, 1) := by decide +kernel
theorem dX2_fill_70 : decode cX2_fill 70 = .ok (.iload 8, 2) := by decide +kernel
theorem dX2_fill_72 : decode cX2_fill 72 = .ok (.iload_n 2, 1) := by decide +kernel
theorem dX2_fill_73 : decode cX2_fill 73 = .ok (.invokestatic 45, 3) := by decide +kernel
theorem dX2_fill_76 : decode cX2_fill 76 = .ok (.istore 10, 2) := by decide +kernel
theorem dX2_fill_78 : decode cX2_fill 78 = .ok (.aload_n 1, 1) := by decide +kernel
theorem dX2_fill_79 : decode cX2_fill 79 = .ok (.iload 10, 2) := by decide +kernel
theorem dX2_fill_81 : decode cX2_fill 81 = .ok (.iload 8, 2) := by decide +kernel
theorem dX2_fill_83 : decode cX2_fill 83 = .ok (.iload_n 3, 1) := by decide +kernel
theorem dX2_fill_84 : decode cX2_fill 84 = .ok (.invokestatic 48, 3) := by decide +kernel
theorem dX2_fill_87 : decode cX2_fill 87 = .ok (.iload 9, 2) := by decide +kernel
theorem dX2_fill_89 : decode cX2_fill 89 = .ok (.iload 5, 2) := by decide +kernel
theorem dX2_fill_91 : decode cX2_fill 91 = .ok (.invokevirtual 51, 3) := by decide +kernel
theorem dX2_fill_94 : decode cX2_fill 94 = .ok (.istore 11, 2) := by decide +kernel
theorem dX2_fill_96 : decode cX2_fill 96 = .ok (.lload 6, 2) := by decide +kernel
theorem dX2_fill_98 : decode cX2_fill 98 = .ok (.iload 11, 2) := by decide +kernel
theorem dX2_fill_100 : decode cX2_fill 100 = .ok (.invokestatic 57, 3) := by decide +kernel
theorem dX2_fill_103 : decode cX2_fill 103 = .ok (.i2l, 1) := by decide +kernel
theorem dX2_fill_104 : decode cX2_fill 104 = .ok (.lmul, 1) := by decide +kernel
theorem dX2_fill_105 : decode cX2_fill 105 = .ok (.aload_n 0, 1) := by decide +kernel
theorem dX2_fill_106 : decode cX2_fill 106 = .ok (.getfield 26, 3) := by decide +kernel
theorem dX2_fill_109 : decode cX2_fill 109 = .ok (.iload 10, 2) := by decide +kernel
theorem dX2_fill_111 : decode cX2_fill 111 = .ok (.bipush 10, 2) := by decide +kernel
theorem dX2_fill_113 : decode cX2_fill 113 = .ok (.idiv, 1) := by decide +kernel
theorem dX2_fill_114 : decode cX2_fill 114 = .ok (.invokevirtual 63, 3) := by decide +kernel
theorem dX2_fill_117 : decode cX2_fill 117 = .ok (.i2l, 1) := by decide +kernel
theorem dX2_fill_118 : decode cX2_fill 118 = .ok (.ldiv, 1) := by decide +kernel
theorem dX2_fill_119 : decode cX2_fill 119 = .ok (.lstore 6, 2) := by decide +kernel
theorem dX2_fill_121 : decode cX2_fill 121 = .ok (.lload 6, 2) := by decide +kernel
theorem dX2_fill_123 : decode cX2_fill 123 = .ok (.lconst 0, 1) := by decide +kernel
theorem dX2_fill_124 : decode cX2_fill 124 = .ok (.lcmp, 1) := by decide +kernel
theorem dX2_fill_125 : decode cX2_fill 125 = .ok (.ifCond .ne 4, 3) := by decide +kernel
theorem dX2_fill_128 : decode cX2_fill 128 = .ok (.return_, 1) := by decide +kernel
theorem dX2_fill_129 : decode cX2_fill 129 = .ok (.aload_n 0, 1) := by decide +kernel
theorem dX2_fill_130 : decode cX2_fill 130 = .ok (.getfield 9, 3) := by decide +kernel
theorem dX2_fill_133 : decode cX2_fill 133 = .ok (.iload 8, 2) := by decide +kernel
theorem dX2_fill_135 : decode cX2_fill 135 = .ok (.lload 6, 2) := by decide +kernel
theorem dX2_fill_137 : decode cX2_fill 137 = .ok (.l2i, 1) := by decide +kernel
theorem dX2_fill_138 : decode cX2_fill 138 = .ok (.iastore, 1) := by decide +kernel
theorem dX2_fill_139 : decode cX2_fill 139 = .ok (.aload_n 0, 1) := by decide +kernel
theorem dX2_fill_140 : decode cX2_fill 140 = .ok (.dup, 1) := by decide +kernel
theorem dX2_fill_141 : decode cX2_fill 141 = .ok (.getfield 22, 3) := by decide +kernel
theorem dX2_fill_144 : decode cX2_fill 144 = .ok (.lload 6, 2) := by decide +kernel
theorem dX2_fill_146 : decode cX2_fill 146 = .ok (.ladd, 1) := by decide +kernel
theorem dX2_fill_147 : decode cX2_fill 147 = .ok (.putfield 22, 3) := by decide +kernel
theorem dX2_fill_150 : decode cX2_fill 150 = .ok (.aload_n 0, 1) := by decide +kernel
theorem dX2_fill_151 : decode cX2_fill 151 = .ok (.iload 8, 2) := by decide +kernel
theorem dX2_fill_153 : decode cX2_fill 153 = .ok (.putfield 15, 3) := by decide +kernel
theorem dX2_fill_156 : decode cX2_fill 156 = .ok (.iinc 8 1, 3) := by decide +kernel
theorem dX2_fill_159 : decode cX2_fill 159 = .ok (.goto (-119), 3) := by decide +kernel
theorem dX2_fill_162 : decode cX2_fill 162 = .ok (.return_, 1) := by decide +kernel
def fX2_fill_L40 : Nat → eg_H → Nat → Nat → Int32 → Int32 → Int32 → Int64 → Int32 → Option ((eg_H) ⊕ (eg_H) ⊕ (eg_H))
  | 0, _, _, _, _, _, _, _, _ => none
  | n + 1, h, l0, l1, l2, l3, l5, l6, l8 =>
    if (60 : Int32) < l8 then
      (some (.inl h))
    else
      (eg_gR h 2 0 l0).bind fun p2 =>
      (eg_gI h 2 3 l0).bind fun v4 =>
      (fX7_yardsOf h p2 l8 v4).bind fun ⟨v7, h6⟩ =>
      if v7 ≤ (60 : Int32) then
        ((fX2_twoOf h6 l8 l2).bind fun ⟨v11, h10⟩ =>
        (fX2_eggEndOf h10 l8 l3).bind fun ⟨v14, h13⟩ =>
        (fX0_of h13 l1 v11 v14 v7 l5).bind fun ⟨v17, h16⟩ =>
        (fX11_goodIn h16 v17).bind fun ⟨v20, h19⟩ =>
        (eg_gR h19 2 0 l0).bind fun p22 =>
        (fX7_slips h19 p22 (v11 / (10 : Int32))).bind fun ⟨v25, h24⟩ =>
        if v25.toInt64 = 0 then none else
        (some (((l6 * v20.toInt64) / v25.toInt64))).bind fun v28 =>
        if v28 = (0 : Int64) then
          (some (.inr (.inr (h24))))
        else
          (eg_gR h24 2 1 l0).bind fun p31 =>
          (eg_wI h24 100 p31 l8 v28.toInt32).bind fun h33 =>
          (eg_gL h33 2 4 l0).bind fun v35 =>
          (eg_pL h33 2 4 l0 (v35 + v28)).bind fun h37 =>
          (eg_pI h37 2 2 l0 l8).bind fun h39 =>
          fX2_fill_L40 n h39 l0 l1 l2 l3 l5 v28 (l8 + (1 : Int32)))
      else
        some (.inr (.inl h6))
set_option maxRecDepth 20000 in
theorem fX2_fill_L40_ok {h0 : eg_H} {Z : eg_C → State → Prop} {N S : Nat} : ∀ (n : Nat) (h : eg_H) (l0 : Nat) (l1 : Nat) (l2 : Int32) (l3 : Int32) (l5 : Int32) (l6 : Int64) (l8 : Int32) (eE : (eg_H) ⊕ (eg_H) ⊕ (eg_H)), fX2_fill_L40 n h l0 l1 l2 l3 l5 l6 l8 = some eE → (hk0 : ∀  (h : eg_H), eE = (.inl h) → eg_AW (RX2, cX2_fill, 12, 6, none, "fill", none) Z N S h0 162 [] [] h) → (hk1 : ∀  (h : eg_H), eE = (.inr (.inl h)) → eg_AW (RX2, cX2_fill, 12, 6, none, "fill", none) Z N S h0 69 [] [] h) → (hk2 : ∀  (h : eg_H), eE = (.inr (.inr (h))) → eg_AW (RX2, cX2_fill, 12, 6, none, "fill", none) Z N S h0 128 [] [] h) → eg_AW (RX2, cX2_fill, 12, 6, none, "fill", none) Z N S h0 40 [(0, .ref l0), (1, .ref l1), (2, .int l2), (3, .int l3), (5, .int l5), (6, .long l6), (8, .int l8)] [] h := by
  intro n
  induction n with
  | zero => intro h l0 l1 l2 l3 l5 l6 l8 eE hF; exact absurd hF (by intro q; cases q)
  | succ n ih =>
    intro h l0 l1 l2 l3 l5 l6 l8 eE hF hk0 hk1 hk2
    have hrec := fun (h' : eg_H) (l0 : Nat) (l1 : Nat) (l2 : Int32) (l3 : Int32) (l5 : Int32) (l6 : Int64) (l8 : Int32) hq => ih h' l0 l1 l2 l3 l5 l6 l8 eE hq hk0 hk1 hk2
    refine eg_iload (i := 8) 6 dX2_fill_40 rfl ?_
    refine eg_bipush (v := (60 : Int32)) dX2_fill_42 (by decide) ?_
    refine eg_ic_gt 162 dX2_fill_44 rfl (fun c1 => ?_) (fun c1 => ?_)
    · replace hF := eg_it c1 hF
      exact eg_sub [] [] rfl (hk0 h (Option.some.inj hF).symm)
    · replace hF := eg_if c1 hF
      refine eg_aload_n (i := 0) 0 dX2_fill_47 rfl rfl ?_
      replace hF := eg_bind hF; obtain ⟨p2, e3, hF⟩ := hF
      refine eg_getR dX2_fill_48 e3 (Nat.le_of_ble_eq_true rfl) (Nat.le_of_ble_eq_true rfl) rfl ew_296 ?_
      refine eg_iload (i := 8) 6 dX2_fill_51 rfl ?_
      refine eg_aload_n (i := 0) 0 dX2_fill_53 rfl rfl ?_
      replace hF := eg_bind hF; obtain ⟨v4, e5, hF⟩ := hF
      refine eg_getI dX2_fill_54 e5 (Nat.le_of_ble_eq_true rfl) (Nat.le_of_ble_eq_true rfl) rfl ew_299 ?_
      replace hF := eg_bind hF; obtain ⟨⟨v7, h6⟩, e8, hF⟩ := hF
      refine eg_callV (c := 7) (n := 2) [.int l8, .int v4] dX2_fill_57 (mX7_yardsOf e8) rfl (fX7_yardsOf_O e8) (Nat.le_of_ble_eq_true rfl) rfl ew_955 ew_956 ew_957 ew_104 ew_958 hy_X7_yardsOf rfl (Nat.le_of_ble_eq_true rfl) (Nat.le_of_ble_eq_true rfl) (Nat.le_of_ble_eq_true rfl) ?_
      refine eg_istore (i := 9) [(9, .int v7), (0, .ref l0), (1, .ref l1), (2, .int l2), (3, .int l3), (5, .int l5), (6, .long l6), (8, .int l8)] dX2_fill_60 (Nat.le_of_ble_eq_true rfl) rfl ?_
      refine eg_iload (i := 9) 0 dX2_fill_62 rfl ?_
      refine eg_bipush (v := (60 : Int32)) dX2_fill_64 (by decide) ?_
      refine eg_ic_le 70 dX2_fill_66 rfl (fun c9 => ?_) (fun c9 => ?_)
      · replace hF := eg_it c9 hF
        refine eg_iload (i := 8) 7 dX2_fill_70 rfl ?_
        refine eg_iload_n (i := 2) 3 dX2_fill_72 rfl rfl ?_
        replace hF := eg_bind hF; obtain ⟨⟨v11, h10⟩, e12, hF⟩ := hF
        refine eg_callS (n := 2) [.int l8, .int l2] dX2_fill_73 (mX2_twoOf e12) rfl ew_959 ew_960 ew_108 ew_961 hy_X2_twoOf.2 rfl (Nat.le_of_ble_eq_true rfl) (Nat.le_of_ble_eq_true rfl) (Nat.le_of_ble_eq_true rfl) ?_
        refine eg_istore (i := 10) [(10, .int v11), (9, .int v7), (0, .ref l0), (1, .ref l1), (2, .int l2), (3, .int l3), (5, .int l5), (6, .long l6), (8, .int l8)] dX2_fill_76 (Nat.le_of_ble_eq_true rfl) rfl ?_
        refine eg_aload_n (i := 1) 3 dX2_fill_78 rfl rfl ?_
        refine eg_iload (i := 10) 0 dX2_fill_79 rfl ?_
        refine eg_iload (i := 8) 8 dX2_fill_81 rfl ?_
        refine eg_iload_n (i := 3) 5 dX2_fill_83 rfl rfl ?_
        replace hF := eg_bind hF; obtain ⟨⟨v14, h13⟩, e15, hF⟩ := hF
        refine eg_callS (n := 2) [.int l8, .int l3] dX2_fill_84 (mX2_eggEndOf e15) rfl ew_962 ew_963 ew_108 ew_964 hy_X2_eggEndOf.2 rfl (Nat.le_of_ble_eq_true rfl) (Nat.le_of_ble_eq_true rfl) (Nat.le_of_ble_eq_true rfl) ?_
        refine eg_iload (i := 9) 1 dX2_fill_87 rfl ?_
        refine eg_iload (i := 5) 6 dX2_fill_89 rfl ?_
        replace hF := eg_bind hF; obtain ⟨⟨v17, h16⟩, e18, hF⟩ := hF
        refine eg_callV (c := 0) (n := 4) [.int v11, .int v14, .int v7, .int l5] dX2_fill_91 (mX0_of e18) rfl (fX0_of_O e18) (Nat.le_of_ble_eq_true rfl) rfl ew_965 ew_835 ew_836 ew_107 ew_837 hy_X0_of rfl (Nat.le_of_ble_eq_true rfl) (Nat.le_of_ble_eq_true rfl) (Nat.le_of_ble_eq_true rfl) ?_
        refine eg_istore (i := 11) [(11, .int v17), (10, .int v11), (9, .int v7), (0, .ref l0), (1, .ref l1), (2, .int l2), (3, .int l3), (5, .int l5), (6, .long l6), (8, .int l8)] dX2_fill_94 (Nat.le_of_ble_eq_true rfl) rfl ?_
        refine eg_lload (i := 6) 8 dX2_fill_96 rfl ?_
        refine eg_iload (i := 11) 0 dX2_fill_98 rfl ?_
        replace hF := eg_bind hF; obtain ⟨⟨v20, h19⟩, e21, hF⟩ := hF
        refine eg_callS (n := 1) [.int v17] dX2_fill_100 (mX11_goodIn e21) rfl ew_966 ew_879 ew_106 ew_880 hy_X11_goodIn.2 rfl (Nat.le_of_ble_eq_true rfl) (Nat.le_of_ble_eq_true rfl) (Nat.le_of_ble_eq_true rfl) ?_
        refine eg_i2l dX2_fill_103 ?_
        refine eg_lmul dX2_fill_104 ?_
        refine eg_aload_n (i := 0) 3 dX2_fill_105 rfl rfl ?_
        replace hF := eg_bind hF; obtain ⟨p22, e23, hF⟩ := hF
        refine eg_getR dX2_fill_106 e23 (Nat.le_of_ble_eq_true rfl) (Nat.le_of_ble_eq_true rfl) rfl ew_296 ?_
        refine eg_iload (i := 10) 1 dX2_fill_109 rfl ?_
        refine eg_bipush (v := (10 : Int32)) dX2_fill_111 (by decide) ?_
        refine eg_idiv dX2_fill_113 (by decide) ?_
        replace hF := eg_bind hF; obtain ⟨⟨v25, h24⟩, e26, hF⟩ := hF
        refine eg_callV (c := 7) (n := 1) [.int (v11 / (10 : Int32))] dX2_fill_114 (mX7_slips e26) rfl (fX7_slips_O e26) (Nat.le_of_ble_eq_true rfl) rfl ew_967 ew_906 ew_907 ew_104 ew_908 hy_X7_slips rfl (Nat.le_of_ble_eq_true rfl) (Nat.le_of_ble_eq_true rfl) (Nat.le_of_ble_eq_true rfl) ?_
        refine eg_i2l dX2_fill_117 ?_
        replace hF := eg_nif hF; obtain ⟨c27, hF⟩ := hF
        refine eg_ldiv dX2_fill_118 c27 ?_
        replace hF := eg_bind hF; obtain ⟨v28, e29, hF⟩ := hF
        replace e29 := Option.some.inj e29
        rw [e29]
        refine eg_lstore (i := 6) [(6, .long v28), (11, .int v17), (10, .int v11), (9, .int v7), (0, .ref l0), (1, .ref l1), (2, .int l2), (3, .int l3), (5, .int l5), (8, .int l8)] dX2_fill_119 (Nat.le_of_ble_eq_true rfl) rfl ?_
        refine eg_lload (i := 6) 0 dX2_fill_121 rfl ?_
        refine eg_lconst (v := (0 : Int64)) dX2_fill_123 (by decide) ?_
        refine eg_lc_ne 129 dX2_fill_124 dX2_fill_125 rfl (fun c30 => ?_) (fun c30 => ?_)
        · replace hF := eg_it c30 hF
          exact eg_sub [] [] rfl (hk2 h24 (Option.some.inj hF).symm)
        · replace hF := eg_if c30 hF
          refine eg_aload_n (i := 0) 4 dX2_fill_129 rfl rfl ?_
          replace hF := eg_bind hF; obtain ⟨p31, e32, hF⟩ := hF
          refine eg_getR dX2_fill_130 e32 (Nat.le_of_ble_eq_true rfl) (Nat.le_of_ble_eq_true rfl) rfl ew_297 ?_
          refine eg_iload (i := 8) 9 dX2_fill_133 rfl ?_
          refine eg_lload (i := 6) 0 dX2_fill_135 rfl ?_
          refine eg_l2i dX2_fill_137 ?_
          replace hF := eg_bind hF; obtain ⟨h33, e34, hF⟩ := hF
          refine eg_iast dX2_fill_138 e34 ?_
          refine eg_aload_n (i := 0) 4 dX2_fill_139 rfl rfl ?_
          refine eg_dup dX2_fill_140 rfl ?_
          replace hF := eg_bind hF; obtain ⟨v35, e36, hF⟩ := hF
          refine eg_getL dX2_fill_141 e36 (Nat.le_of_ble_eq_true rfl) (Nat.le_of_ble_eq_true rfl) rfl ew_300 ?_
          refine eg_lload (i := 6) 0 dX2_fill_144 rfl ?_
          refine eg_ladd dX2_fill_146 ?_
          replace hF := eg_bind hF; obtain ⟨h37, e38, hF⟩ := hF
          refine eg_putL dX2_fill_147 e38 (Nat.le_of_ble_eq_true rfl) (Nat.le_of_ble_eq_true rfl) rfl ew_300 rfl ?_
          refine eg_aload_n (i := 0) 4 dX2_fill_150 rfl rfl ?_
          refine eg_iload (i := 8) 9 dX2_fill_151 rfl ?_
          replace hF := eg_bind hF; obtain ⟨h39, e40, hF⟩ := hF
          refine eg_putI dX2_fill_153 e40 (Nat.le_of_ble_eq_true rfl) (Nat.le_of_ble_eq_true rfl) rfl ew_298 (Or.inl rfl) ?_
          refine eg_iinc (i := 8) (v := (l8 + (1 : Int32))) 9 [(8, .int (l8 + (1 : Int32))), (6, .long v28), (11, .int v17), (10, .int v11), (9, .int v7), (0, .ref l0), (1, .ref l1), (2, .int l2), (3, .int l3), (5, .int l5)] dX2_fill_156 rfl rfl (Nat.le_of_ble_eq_true rfl) rfl ?_
          refine eg_goto 40 dX2_fill_159 rfl ?_
          exact eg_sub [5, 6, 7, 8, 9, 1, 0] [(0, .ref l0), (1, .ref l1), (2, .int l2), (3, .int l3), (5, .int l5), (6, .long v28), (8, .int (l8 + (1 : Int32)))] rfl (hrec h39 l0 l1 l2 l3 l5 v28 (l8 + (1 : Int32)) hF)
      · replace hF := eg_if c9 hF
        exact eg_sub [] [] rfl (hk1 h6 (Option.some.inj hF).symm)
def fX2_fill (h : eg_H) (l0 : Nat) (l1 : Nat) (l2 : Int32) (l3 : Int32) (l4 : Int32) (l5 : Int32) : Option (eg_H) :=
  if eg_isO h 2 l0 then (
    (eg_gR h 2 1 l0).bind fun p1 =>
    (fJ7_fill_53178 h p1 (0 : Int32)).bind fun h3 =>
    (eg_gR h3 2 1 l0).bind fun p5 =>
    (eg_wI h3 100 p5 (0 : Int32) (1000000000 : Int32)).bind fun h7 =>
    (eg_pI h7 2 3 l0 l4).bind fun h9 =>
    (eg_pI h9 2 2 l0 (0 : Int32)).bind fun h11 =>
    (eg_pL h11 2 4 l0 (0 : Int64)).bind fun h13 =>
    (fX2_fill_L40 eg_F h13 l0 l1 l2 l3 l5 (1000000000 : Int64) (1 : Int32)).bind fun e =>
    match e with
    | .inl h17 =>
      some h17
    | .inr (.inl h19) =>
      some h19
    | .inr (.inr (h21)) =>
      some h21) else none
theorem fX2_fill_O {h : eg_H} {l0 : Nat} {l1 : Nat} {l2 : Int32} {l3 : Int32} {l4 : Int32} {l5 : Int32} {hE : eg_H} (hF : fX2_fill h l0 l1 l2 l3 l4 l5 = some hE) : eg_isO h 2 l0 := (eg_ifn hF).1
set_option maxRecDepth 20000 in
theorem mX2_fill {h : eg_H} {l0 : Nat} {l1 : Nat} {l2 : Int32} {l3 : Int32} {l4 : Int32} {l5 : Int32} {hE : eg_H} (hF : fX2_fill h l0 l1 l2 l3 l4 l5 = some hE) : eg_Met yX2_fill cX2_fill 12 none 6 [.ref l0, .ref l1, .int l2, .int l3, .int l4, .int l5] h none hE := by
  refine eg_enter rfl (Nat.le_of_ble_eq_true rfl) ?_
  show eg_AW (RX2, cX2_fill, 12, 6, none, "fill", none) (eg_Zm none hE h) (eg_nc hE) (eg_ns hE) h 0 [(0, .ref l0), (1, .ref l1), (2, .int l2), (3, .int l3), (4, .int l4), (5, .int l5)] [] h
  replace hF := (eg_ifn hF).2
  refine eg_aload_n (i := 0) 0 dX2_fill_0 rfl rfl ?_
  replace hF := eg_bind hF; obtain ⟨p1, e2, hF⟩ := hF
  refine eg_getR dX2_fill_1 e2 (Nat.le_of_ble_eq_true rfl) (Nat.le_of_ble_eq_true rfl) rfl ew_297 ?_
  refine eg_iconst (v := (0 : Int32)) dX2_fill_4 (by decide) ?_
  replace hF := eg_bind hF; obtain ⟨h3, e4, hF⟩ := hF
  refine eg_callS (n := 2) [.ref p1, .int (0 : Int32)] dX2_fill_5 (mJ7_fill_53178 e4) rfl ew_952 ew_860 ew_117 ew_861 hy_J7_fill_53178.2 rfl (Nat.le_of_ble_eq_true rfl) (Nat.le_of_ble_eq_true rfl) (Nat.le_of_ble_eq_true rfl) ?_
  refine eg_aload_n (i := 0) 0 dX2_fill_8 rfl rfl ?_
  replace hF := eg_bind hF; obtain ⟨p5, e6, hF⟩ := hF
  refine eg_getR dX2_fill_9 e6 (Nat.le_of_ble_eq_true rfl) (Nat.le_of_ble_eq_true rfl) rfl ew_297 ?_
  refine eg_iconst (v := (0 : Int32)) dX2_fill_12 (by decide) ?_
  refine eg_ldc (v := (1000000000 : Int32)) dX2_fill_13 ew_953 ?_
  replace hF := eg_bind hF; obtain ⟨h7, e8, hF⟩ := hF
  refine eg_iast dX2_fill_15 e8 ?_
  refine eg_aload_n (i := 0) 0 dX2_fill_16 rfl rfl ?_
  refine eg_iload (i := 4) 4 dX2_fill_17 rfl ?_
  replace hF := eg_bind hF; obtain ⟨h9, e10, hF⟩ := hF
  refine eg_putI dX2_fill_19 e10 (Nat.le_of_ble_eq_true rfl) (Nat.le_of_ble_eq_true rfl) rfl ew_299 (Or.inl rfl) ?_
  refine eg_aload_n (i := 0) 0 dX2_fill_22 rfl rfl ?_
  refine eg_iconst (v := (0 : Int32)) dX2_fill_23 (by decide) ?_
  replace hF := eg_bind hF; obtain ⟨h11, e12, hF⟩ := hF
  refine eg_putI dX2_fill_24 e12 (Nat.le_of_ble_eq_true rfl) (Nat.le_of_ble_eq_true rfl) rfl ew_298 (Or.inl rfl) ?_
  refine eg_aload_n (i := 0) 0 dX2_fill_27 rfl rfl ?_
  refine eg_lconst (v := (0 : Int64)) dX2_fill_28 (by decide) ?_
  replace hF := eg_bind hF; obtain ⟨h13, e14, hF⟩ := hF
  refine eg_putL dX2_fill_29 e14 (Nat.le_of_ble_eq_true rfl) (Nat.le_of_ble_eq_true rfl) rfl ew_300 rfl ?_
  refine eg_ldc2 (v := (1000000000 : Int64)) dX2_fill_32 ew_954 ?_
  refine eg_lstore (i := 6) [(6, .long (1000000000 : Int64)), (0, .ref l0), (1, .ref l1), (2, .int l2), (3, .int l3), (4, .int l4), (5, .int l5)] dX2_fill_35 (Nat.le_of_ble_eq_true rfl) rfl ?_
  refine eg_iconst (v := (1 : Int32)) dX2_fill_37 (by decide) ?_
  refine eg_istore (i := 8) [(8, .int (1 : Int32)), (6, .long (1000000000 : Int64)), (0, .ref l0), (1, .ref l1), (2, .int l2), (3, .int l3), (4, .int l4), (5, .int l5)] dX2_fill_38 (Nat.le_of_ble_eq_true rfl) rfl ?_
  replace hF := eg_bind hF; obtain ⟨x16, e15, hF⟩ := hF
  refine eg_sub [2, 3, 4, 5, 7, 1, 0] [(0, .ref l0), (1, .ref l1), (2, .int l2), (3, .int l3), (5, .int l5), (6, .long (1000000000 : Int64)), (8, .int (1 : Int32))] rfl (fX2_fill_L40_ok eg_F h13 l0 l1 l2 l3 l5 (1000000000 : Int64) (1 : Int32) x16 e15 ?_ ?_ ?_)
  · intro h17 e18
    subst e18
    exact eg_vretE dX2_fill_162 hF
  · intro h19 e20
    subst e20
    exact eg_vretE dX2_fill_69 hF
  · intro h21 e22
    subst e22
    exact eg_vretE dX2_fill_128 hF
theorem dX2_reach_0 : decode cX2_reach 0 = .ok (.aload_n 0, 1) := by decide +kernel
theorem dX2_reach_1 : decode cX2_reach 1 = .ok (.getfield 15, 3) := by decide +kernel
theorem dX2_reach_4 : decode cX2_reach 4 = .ok (.ireturn, 1) := by decide +kernel
def fX2_reach (h : eg_H) (l0 : Nat) : Option (Int32 × eg_H) :=
  if eg_isO h 2 l0 then (
    (eg_gI h 2 2 l0).bind fun v1 =>
    some (v1, h)) else none
theorem fX2_reach_O {h : eg_H} {l0 : Nat} {rE : Int32} {hE : eg_H} (hF : fX2_reach h l0 = some (rE, hE)) : eg_isO h 2 l0 := (eg_ifn hF).1
set_option maxRecDepth 20000 in
theorem mX2_reach {h : eg_H} {l0 : Nat} {rE : Int32} {hE : eg_H} (hF : fX2_reach h l0 = some (rE, hE)) : eg_Met yX2_reach cX2_reach 1 (some .int) 1 [.ref l0] h (some (.int rE)) hE := by
  refine eg_enter rfl (Nat.le_of_ble_eq_true rfl) ?_
  show eg_AW (RX2, cX2_reach, 1, 1, none, "reach", (some .int)) (eg_Zm (some (.int rE)) hE h) (eg_nc hE) (eg_ns hE) h 0 [(0, .ref l0)] [] h
  replace hF := (eg_ifn hF).2
  refine eg_aload_n (i := 0) 0 dX2_reach_0 rfl rfl ?_
  replace hF := eg_bind hF; obtain ⟨v1, e2, hF⟩ := hF
  refine eg_getI dX2_reach_1 e2 (Nat.le_of_ble_eq_true rfl) (Nat.le_of_ble_eq_true rfl) rfl ew_298 ?_
  exact eg_iretE dX2_reach_4 hF
theorem dX2_hopes_0 : decode cX2_hopes 0 = .ok (.aload_n 0, 1) := by decide +kernel
theorem dX2_hopes_1 : decode cX2_hopes 1 = .ok (.getfield 22, 3) := by decide +kernel
theorem dX2_hopes_4 : decode cX2_hopes 4 = .ok (.lreturn, 1) := by decide +kernel
def fX2_hopes (h : eg_H) (l0 : Nat) : Option (Int64 × eg_H) :=
  if eg_isO h 2 l0 then (
    (eg_gL h 2 4 l0).bind fun v1 =>
    some (v1, h)) else none
theorem fX2_hopes_O {h : eg_H} {l0 : Nat} {rE : Int64} {hE : eg_H} (hF : fX2_hopes h l0 = some (rE, hE)) : eg_isO h 2 l0 := (eg_ifn hF).1
set_option maxRecDepth 20000 in
theorem mX2_hopes {h : eg_H} {l0 : Nat} {rE : Int64} {hE : eg_H} (hF : fX2_hopes h l0 = some (rE, hE)) : eg_Met yX2_hopes cX2_hopes 1 (some .long) 1 [.ref l0] h (some (.long rE)) hE := by
  refine eg_enter rfl (Nat.le_of_ble_eq_true rfl) ?_
  show eg_AW (RX2, cX2_hopes, 1, 1, none, "hopes", (some .long)) (eg_Zm (some (.long rE)) hE h) (eg_nc hE) (eg_ns hE) h 0 [(0, .ref l0)] [] h
  replace hF := (eg_ifn hF).2
  refine eg_aload_n (i := 0) 0 dX2_hopes_0 rfl rfl ?_
  replace hF := eg_bind hF; obtain ⟨v1, e2, hF⟩ := hF
  refine eg_getL dX2_hopes_1 e2 (Nat.le_of_ble_eq_true rfl) (Nat.le_of_ble_eq_true rfl) rfl ew_300 ?_
  exact eg_lretE dX2_hopes_4 hF
theorem dX2_comesTo_0 : decode cX2_comesTo 0 = .ok (.iload_n 1, 1) := by decide +kernel
theorem dX2_comesTo_1 : decode cX2_comesTo 1 = .ok (.ifCond .lt 12, 3) := by decide +kernel
theorem dX2_comesTo_4 : decode cX2_comesTo 4 = .ok (.iload_n 1, 1) := by decide +kernel
theorem dX2_comesTo_5 : decode cX2_comesTo 5 = .ok (.aload_n 0, 1) := by decide +kernel
theorem dX2_comesTo_6 : decode cX2_comesTo 6 = .ok (.getfield 9, 3) := by decide +kernel
theorem dX2_comesTo_9 : decode cX2_comesTo 9 = .ok (.arraylength, 1) := by decide +kernel
theorem dX2_comesTo_10 : decode cX2_comesTo 10 = .ok (.if_icmp .lt 7, 3) := by decide +kernel
theorem dX2_comesTo_13 : decode cX2_comesTo 13 = .ok (.iconst 0, 1) := by decide +kernel
theorem dX2_comesTo_14 : decode cX2_comesTo 14 = .ok (.goto 9, 3) := by decide +kernel
theorem dX2_comesTo_17 : decode cX2_comesTo 17 = .ok (.aload_n 0, 1) := by decide +kernel
theorem dX2_comesTo_18 : decode cX2_comesTo 18 = .ok (.getfield 9, 3) := by decide +kernel
theorem dX2_comesTo_21 : decode cX2_comesTo 21 = .ok (.iload_n 1, 1) := by decide +kernel
theorem dX2_comesTo_22 : decode cX2_comesTo 22 = .ok (.iaload, 1) := by decide +kernel
theorem dX2_comesTo_23 : decode cX2_comesTo 23 = .ok (.ireturn, 1) := by decide +kernel
def fX2_comesTo (h : eg_H) (l0 : Nat) (l1 : Int32) : Option (Int32 × eg_H) :=
  if eg_isO h 2 l0 then (
    if l1 < 0 then
      (some ((0 : Int32), h))
    else
      (eg_gR h 2 1 l0).bind fun p2 =>
      (eg_al h p2).bind fun v4 =>
      if l1 < v4 then
        ((eg_gR h 2 1 l0).bind fun p7 =>
        (eg_aI h 100 p7 l1).bind fun v9 =>
        some (v9, h))
      else
        some ((0 : Int32), h)) else none
theorem fX2_comesTo_O {h : eg_H} {l0 : Nat} {l1 : Int32} {rE : Int32} {hE : eg_H} (hF : fX2_comesTo h l0 l1 = some (rE, hE)) : eg_isO h 2 l0 := (eg_ifn hF).1
set_option maxRecDepth 20000 in
theorem mX2_comesTo {h : eg_H} {l0 : Nat} {l1 : Int32} {rE : Int32} {hE : eg_H} (hF : fX2_comesTo h l0 l1 = some (rE, hE)) : eg_Met yX2_comesTo cX2_comesTo 2 (some .int) 1 [.ref l0, .int l1] h (some (.int rE)) hE := by
  refine eg_enter rfl (Nat.le_of_ble_eq_true rfl) ?_
  show eg_AW (RX2, cX2_comesTo, 2, 1, none, "comesTo", (some .int)) (eg_Zm (some (.int rE)) hE h) (eg_nc hE) (eg_ns hE) h 0 [(0, .ref l0), (1, .int l1)] [] h
  replace hF := (eg_ifn hF).2
  refine eg_iload_n (i := 1) 1 dX2_comesTo_0 rfl rfl ?_
  refine eg_if_lt 13 dX2_comesTo_1 rfl (fun c1 => ?_) (fun c1 => ?_)
  · replace hF := eg_it c1 hF
    refine eg_iconst (v := (0 : Int32)) dX2_comesTo_13 (by decide) ?_
    refine eg_goto 23 dX2_comesTo_14 rfl ?_
    exact eg_iretE dX2_comesTo_23 hF
  · replace hF := eg_if c1 hF
    refine eg_iload_n (i := 1) 1 dX2_comesTo_4 rfl rfl ?_
    refine eg_aload_n (i := 0) 0 dX2_comesTo_5 rfl rfl ?_
    replace hF := eg_bind hF; obtain ⟨p2, e3, hF⟩ := hF
    refine eg_getR dX2_comesTo_6 e3 (Nat.le_of_ble_eq_true rfl) (Nat.le_of_ble_eq_true rfl) rfl ew_297 ?_
    replace hF := eg_bind hF; obtain ⟨v4, e5, hF⟩ := hF
    refine eg_alen dX2_comesTo_9 e5 ?_
    refine eg_ic_lt 17 dX2_comesTo_10 rfl (fun c6 => ?_) (fun c6 => ?_)
    · replace hF := eg_it c6 hF
      refine eg_aload_n (i := 0) 0 dX2_comesTo_17 rfl rfl ?_
      replace hF := eg_bind hF; obtain ⟨p7, e8, hF⟩ := hF
      refine eg_getR dX2_comesTo_18 e8 (Nat.le_of_ble_eq_true rfl) (Nat.le_of_ble_eq_true rfl) rfl ew_297 ?_
      refine eg_iload_n (i := 1) 1 dX2_comesTo_21 rfl rfl ?_
      replace hF := eg_bind hF; obtain ⟨v9, e10, hF⟩ := hF
      refine eg_iald dX2_comesTo_22 e10 ?_
      exact eg_iretE dX2_comesTo_23 hF
    · replace hF := eg_if c6 hF
      refine eg_iconst (v := (0 : Int32)) dX2_comesTo_13 (by decide) ?_
      refine eg_goto 23 dX2_comesTo_14 rfl ?_
      exact eg_iretE dX2_comesTo_23 hF
theorem dX2_just_0 : decode cX2_just 0 = .ok (.aload_n 0, 1) := by decide +kernel
theorem dX2_just_1 : decode cX2_just 1 = .ok (.iload_n 1, 1) := by decide +kernel
theorem dX2_just_2 : decode cX2_just 2 = .ok (.invokevirtual 66, 3) := by decide +kernel
theorem dX2_just_5 : decode cX2_just 5 = .ok (.aload_n 0, 1) := by decide +kernel
theorem dX2_just_6 : decode cX2_just 6 = .ok (.iload_n 1, 1) := by decide +kernel
theorem dX2_just_7 : decode cX2_just 7 = .ok (.iconst 1, 1) := by decide +kernel
theorem dX2_just_8 : decode cX2_just 8 = .ok (.iadd, 1) := by decide +kernel
theorem dX2_just_9 : decode cX2_just 9 = .ok (.invokevirtual 66, 3) := by decide +kernel
theorem dX2_just_12 : decode cX2_just 12 = .ok (.isub, 1) := by decide +kernel
theorem dX2_just_13 : decode cX2_just 13 = .ok (.i2l, 1) := by decide +kernel
theorem dX2_just_14 : decode cX2_just 14 = .ok (.lreturn, 1) := by decide +kernel
def fX2_just (h : eg_H) (l0 : Nat) (l1 : Int32) : Option (Int64 × eg_H) :=
  if eg_isO h 2 l0 then (
    (fX2_comesTo h l0 l1).bind fun ⟨v2, h1⟩ =>
    (fX2_comesTo h1 l0 (l1 + (1 : Int32))).bind fun ⟨v5, h4⟩ =>
    some ((v2 - v5).toInt64, h4)) else none
theorem fX2_just_O {h : eg_H} {l0 : Nat} {l1 : Int32} {rE : Int64} {hE : eg_H} (hF : fX2_just h l0 l1 = some (rE, hE)) : eg_isO h 2 l0 := (eg_ifn hF).1
set_option maxRecDepth 20000 in
theorem mX2_just {h : eg_H} {l0 : Nat} {l1 : Int32} {rE : Int64} {hE : eg_H} (hF : fX2_just h l0 l1 = some (rE, hE)) : eg_Met yX2_just cX2_just 2 (some .long) 2 [.ref l0, .int l1] h (some (.long rE)) hE := by
  refine eg_enter rfl (Nat.le_of_ble_eq_true rfl) ?_
  show eg_AW (RX2, cX2_just, 2, 2, none, "just", (some .long)) (eg_Zm (some (.long rE)) hE h) (eg_nc hE) (eg_ns hE) h 0 [(0, .ref l0), (1, .int l1)] [] h
  replace hF := (eg_ifn hF).2
  refine eg_aload_n (i := 0) 0 dX2_just_0 rfl rfl ?_
  refine eg_iload_n (i := 1) 1 dX2_just_1 rfl rfl ?_
  replace hF := eg_bind hF; obtain ⟨⟨v2, h1⟩, e3, hF⟩ := hF
  refine eg_callV (c := 2) (n := 1) [.int l1] dX2_just_2 (mX2_comesTo e3) rfl (fX2_comesTo_O e3) (Nat.le_of_ble_eq_true rfl) rfl ew_1020 ew_969 ew_970 ew_108 ew_971 hy_X2_comesTo rfl (Nat.le_of_ble_eq_true rfl) (Nat.le_of_ble_eq_true rfl) (Nat.le_of_ble_eq_true rfl) ?_
  refine eg_aload_n (i := 0) 0 dX2_just_5 rfl rfl ?_
  refine eg_iload_n (i := 1) 1 dX2_just_6 rfl rfl ?_
  refine eg_iconst (v := (1 : Int32)) dX2_just_7 (by decide) ?_
  refine eg_iadd dX2_just_8 ?_
  replace hF := eg_bind hF; obtain ⟨⟨v5, h4⟩, e6, hF⟩ := hF
  refine eg_callV (c := 2) (n := 1) [.int (l1 + (1 : Int32))] dX2_just_9 (mX2_comesTo e6) rfl (fX2_comesTo_O e6) (Nat.le_of_ble_eq_true rfl) rfl ew_1020 ew_969 ew_970 ew_108 ew_971 hy_X2_comesTo rfl (Nat.le_of_ble_eq_true rfl) (Nat.le_of_ble_eq_true rfl) (Nat.le_of_ble_eq_true rfl) ?_
  refine eg_isub dX2_just_12 ?_
  refine eg_i2l dX2_just_13 ?_
  exact eg_lretE dX2_just_14 hF
theorem dX2_fewerThan_0 : decode cX2_fewerThan 0 = .ok (.ldc 36, 2) := by decide +kernel
theorem dX2_fewerThan_2 : decode cX2_fewerThan 2 = .ok (.aload_n 0, 1) := by decide +kernel
theorem dX2_fewerThan_3 : decode cX2_fewerThan 3 = .ok (.iload_n 1, 1) := by decide +kernel
theorem dX2_fewerThan_4 : decode cX2_fewerThan 4 = .ok (.invokevirtual 66, 3) := by decide +kernel
theorem dX2_fewerThan_7 : decode cX2_fewerThan 7 = .ok (.isub, 1) := by decide +kernel
theorem dX2_fewerThan_8 : decode cX2_fewerThan 8 = .ok (.i2l, 1) := by decide +kernel
theorem dX2_fewerThan_9 : decode cX2_fewerThan 9 = .ok (.lreturn, 1) := by decide +kernel
def fX2_fewerThan (h : eg_H) (l0 : Nat) (l1 : Int32) : Option (Int64 × eg_H) :=
  if eg_isO h 2 l0 then (
    (fX2_comesTo h l0 l1).bind fun ⟨v2, h1⟩ =>
    some (((1000000000 : Int32) - v2).toInt64, h1)) else none
theorem fX2_fewerThan_O {h : eg_H} {l0 : Nat} {l1 : Int32} {rE : Int64} {hE : eg_H} (hF : fX2_fewerThan h l0 l1 = some (rE, hE)) : eg_isO h 2 l0 := (eg_ifn hF).1
set_option maxRecDepth 20000 in
theorem mX2_fewerThan {h : eg_H} {l0 : Nat} {l1 : Int32} {rE : Int64} {hE : eg_H} (hF : fX2_fewerThan h l0 l1 = some (rE, hE)) : eg_Met yX2_fewerThan cX2_fewerThan 2 (some .long) 2 [.ref l0, .int l1] h (some (.long rE)) hE := by
  refine eg_enter rfl (Nat.le_of_ble_eq_true rfl) ?_
  show eg_AW (RX2, cX2_fewerThan, 2, 2, none, "fewerThan", (some .long)) (eg_Zm (some (.long rE)) hE h) (eg_nc hE) (eg_ns hE) h 0 [(0, .ref l0), (1, .int l1)] [] h
  replace hF := (eg_ifn hF).2
  refine eg_ldc (v := (1000000000 : Int32)) dX2_fewerThan_0 ew_953 ?_
  refine eg_aload_n (i := 0) 0 dX2_fewerThan_2 rfl rfl ?_
  refine eg_iload_n (i := 1) 1 dX2_fewerThan_3 rfl rfl ?_
  replace hF := eg_bind hF; obtain ⟨⟨v2, h1⟩, e3, hF⟩ := hF
  refine eg_callV (c := 2) (n := 1) [.int l1] dX2_fewerThan_4 (mX2_comesTo e3) rfl (fX2_comesTo_O e3) (Nat.le_of_ble_eq_true rfl) rfl ew_1020 ew_969 ew_970 ew_108 ew_971 hy_X2_comesTo rfl (Nat.le_of_ble_eq_true rfl) (Nat.le_of_ble_eq_true rfl) (Nat.le_of_ble_eq_true rfl) ?_
  refine eg_isub dX2_fewerThan_7 ?_
  refine eg_i2l dX2_fewerThan_8 ?_
  exact eg_lretE dX2_fewerThan_9 hF
theorem dX2_gainOf_0 : decode cX2_gainOf 0 = .ok (.aload_n 0, 1) := by decide +kernel
theorem dX2_gainOf_1 : decode cX2_gainOf 1 = .ok (.getfield 26, 3) := by decide +kernel
theorem dX2_gainOf_4 : decode cX2_gainOf 4 = .ok (.iload_n 1, 1) := by decide +kernel
theorem dX2_gainOf_5 : decode cX2_gainOf 5 = .ok (.aload_n 0, 1) := by decide +kernel
theorem dX2_gainOf_6 : decode cX2_gainOf 6 = .ok (.getfield 19, 3) := by decide +kernel
theorem dX2_gainOf_9 : decode cX2_gainOf 9 = .ok (.invokevirtual 39, 3) := by decide +kernel
theorem dX2_gainOf_12 : decode cX2_gainOf 12 = .ok (.i2l, 1) := by decide +kernel
theorem dX2_gainOf_13 : decode cX2_gainOf 13 = .ok (.aload_n 0, 1) := by decide +kernel
theorem dX2_gainOf_14 : decode cX2_gainOf 14 = .ok (.iload_n 1, 1) := by decide +kernel
theorem dX2_gainOf_15 : decode cX2_gainOf 15 = .ok (.invokevirtual 66, 3) := by decide +kernel
theorem dX2_gainOf_18 : decode cX2_gainOf 18 = .ok (.i2l, 1) := by decide +kernel
theorem dX2_gainOf_19 : decode cX2_gainOf 19 = .ok (.lmul, 1) := by decide +kernel
theorem dX2_gainOf_20 : decode cX2_gainOf 20 = .ok (.ldc2_w 69, 3) := by decide +kernel
theorem dX2_gainOf_23 : decode cX2_gainOf 23 = .ok (.ldiv, 1) := by decide +kernel
theorem dX2_gainOf_24 : decode cX2_gainOf 24 = .ok (.l2i, 1) := by decide +kernel
theorem dX2_gainOf_25 : decode cX2_gainOf 25 = .ok (.ireturn, 1) := by decide +kernel
def fX2_gainOf (h : eg_H) (l0 : Nat) (l1 : Int32) : Option (Int32 × eg_H) :=
  if eg_isO h 2 l0 then (
    (eg_gR h 2 0 l0).bind fun p1 =>
    (eg_gI h 2 3 l0).bind fun v3 =>
    (fX7_yardsOf h p1 l1 v3).bind fun ⟨v6, h5⟩ =>
    (fX2_comesTo h5 l0 l1).bind fun ⟨v9, h8⟩ =>
    some (((v6.toInt64 * v9.toInt64) / (1000000 : Int64)).toInt32, h8)) else none
theorem fX2_gainOf_O {h : eg_H} {l0 : Nat} {l1 : Int32} {rE : Int32} {hE : eg_H} (hF : fX2_gainOf h l0 l1 = some (rE, hE)) : eg_isO h 2 l0 := (eg_ifn hF).1
set_option maxRecDepth 20000 in
theorem mX2_gainOf {h : eg_H} {l0 : Nat} {l1 : Int32} {rE : Int32} {hE : eg_H} (hF : fX2_gainOf h l0 l1 = some (rE, hE)) : eg_Met yX2_gainOf cX2_gainOf 2 (some .int) 2 [.ref l0, .int l1] h (some (.int rE)) hE := by
  refine eg_enter rfl (Nat.le_of_ble_eq_true rfl) ?_
  show eg_AW (RX2, cX2_gainOf, 2, 2, none, "gainOf", (some .int)) (eg_Zm (some (.int rE)) hE h) (eg_nc hE) (eg_ns hE) h 0 [(0, .ref l0), (1, .int l1)] [] h
  replace hF := (eg_ifn hF).2
  refine eg_aload_n (i := 0) 0 dX2_gainOf_0 rfl rfl ?_
  replace hF := eg_bind hF; obtain ⟨p1, e2, hF⟩ := hF
  refine eg_getR dX2_gainOf_1 e2 (Nat.le_of_ble_eq_true rfl) (Nat.le_of_ble_eq_true rfl) rfl ew_296 ?_
  refine eg_iload_n (i := 1) 1 dX2_gainOf_4 rfl rfl ?_
  refine eg_aload_n (i := 0) 0 dX2_gainOf_5 rfl rfl ?_
  replace hF := eg_bind hF; obtain ⟨v3, e4, hF⟩ := hF
  refine eg_getI dX2_gainOf_6 e4 (Nat.le_of_ble_eq_true rfl) (Nat.le_of_ble_eq_true rfl) rfl ew_299 ?_
  replace hF := eg_bind hF; obtain ⟨⟨v6, h5⟩, e7, hF⟩ := hF
  refine eg_callV (c := 7) (n := 2) [.int l1, .int v3] dX2_gainOf_9 (mX7_yardsOf e7) rfl (fX7_yardsOf_O e7) (Nat.le_of_ble_eq_true rfl) rfl ew_955 ew_956 ew_957 ew_104 ew_958 hy_X7_yardsOf rfl (Nat.le_of_ble_eq_true rfl) (Nat.le_of_ble_eq_true rfl) (Nat.le_of_ble_eq_true rfl) ?_
  refine eg_i2l dX2_gainOf_12 ?_
  refine eg_aload_n (i := 0) 0 dX2_gainOf_13 rfl rfl ?_
  refine eg_iload_n (i := 1) 1 dX2_gainOf_14 rfl rfl ?_
  replace hF := eg_bind hF; obtain ⟨⟨v9, h8⟩, e10, hF⟩ := hF
  refine eg_callV (c := 2) (n := 1) [.int l1] dX2_gainOf_15 (mX2_comesTo e10) rfl (fX2_comesTo_O e10) (Nat.le_of_ble_eq_true rfl) rfl ew_1020 ew_969 ew_970 ew_108 ew_971 hy_X2_comesTo rfl (Nat.le_of_ble_eq_true rfl) (Nat.le_of_ble_eq_true rfl) (Nat.le_of_ble_eq_true rfl) ?_
  refine eg_i2l dX2_gainOf_18 ?_
  refine eg_lmul dX2_gainOf_19 ?_
  refine eg_ldc2 (v := (1000000 : Int64)) dX2_gainOf_20 ew_1021 ?_
  refine eg_ldiv dX2_gainOf_23 (by decide) ?_
  refine eg_l2i dX2_gainOf_24 ?_
  exact eg_iretE dX2_gainOf_25 hF
theorem dX2_gains_0 : decode cX2_gains 0 = .ok (.lconst 0, 1) := by decide +kernel
theorem dX2_gains_1 : decode cX2_gains 1 = .ok (.lstore_n 1, 1) := by decide +kernel
theorem dX2_gains_2 : decode cX2_gains 2 = .ok (.iconst 1, 1) := by decide +kernel
theorem dX2_gains_3 : decode cX2_gains 3 = .ok (.istore_n 3, 1) := by decide +kernel
theorem dX2_gains_4 : decode cX2_gains 4 = .ok (.iload_n 3, 1) := by decide +kernel
theorem dX2_gains_5 : decode cX2_gains 5 = .ok (.aload_n 0, 1) := by decide +kernel
theorem dX2_gains_6 : decode cX2_gains 6 = .ok (.getfield 15, 3) := by decide +kernel
theorem dX2_gains_9 : decode cX2_gains 9 = .ok (.if_icmp .gt 18, 3) := by decide +kernel
theorem dX2_gains_12 : decode cX2_gains 12 = .ok (.lload_n 1, 1) := by decide +kernel
theorem dX2_gains_13 : decode cX2_gains 13 = .ok (.aload_n 0, 1) := by decide +kernel
theorem dX2_gains_14 : decode cX2_gains 14 = .ok (.iload_n 3, 1) := by decide +kernel
theorem dX2_gains_15 : decode cX2_gains 15 = .ok (.invokevirtual 71, 3) := by decide +kernel
theorem dX2_gains_18 : decode cX2_gains 18 = .ok (.i2l, 1) := by decide +kernel
theorem dX2_gains_19 : decode cX2_gains 19 = .ok (.ladd, 1) := by decide +kernel
theorem dX2_gains_20 : decode cX2_gains 20 = .ok (.lstore_n 1, 1) := by decide +kernel
theorem dX2_gains_21 : decode cX2_gains 21 = .ok (.iinc 3 1, 3) := by decide +kernel
theorem dX2_gains_24 : decode cX2_gains 24 = .ok (.goto (-20), 3) := by decide +kernel
theorem dX2_gains_27 : decode cX2_gains 27 = .ok (.lload_n 1, 1) := by decide +kernel
theorem dX2_gains_28 : decode cX2_gains 28 = .ok (.lreturn, 1) := by decide +kernel
def fX2_gains_L4 : Nat → eg_H → Nat → Int64 → Int32 → Option (Int64 × eg_H)
  | 0, _, _, _, _ => none
  | n + 1, h, l0, l1, l3 =>
    (eg_gI h 2 2 l0).bind fun v1 =>
    if v1 < l3 then
      (some (l1, h))
    else
      (fX2_gainOf h l0 l3).bind fun ⟨v5, h4⟩ =>
      (some ((l1 + v5.toInt64))).bind fun v7 =>
      fX2_gains_L4 n h4 l0 v7 (l3 + (1 : Int32))
set_option maxRecDepth 20000 in
theorem fX2_gains_L4_ok {h0 : eg_H} {Z : eg_C → State → Prop} {N S : Nat} : ∀ (n : Nat) (h : eg_H) (l0 : Nat) (l1 : Int64) (l3 : Int32) (eE : Int64 × eg_H), fX2_gains_L4 n h l0 l1 l3 = some eE → (hk0 : ∀ (l1 : Int64) (h : eg_H), eE = (l1, h) → eg_AW (RX2, cX2_gains, 4, 3, none, "gains", (some .long)) Z N S h0 27 [(1, .long l1)] [] h) → eg_AW (RX2, cX2_gains, 4, 3, none, "gains", (some .long)) Z N S h0 4 [(0, .ref l0), (1, .long l1), (3, .int l3)] [] h := by
  intro n
  induction n with
  | zero => intro h l0 l1 l3 eE hF; exact absurd hF (by intro q; cases q)
  | succ n ih =>
    intro h l0 l1 l3 eE hF hk0
    have hrec := fun (h' : eg_H) (l0 : Nat) (l1 : Int64) (l3 : Int32) hq => ih h' l0 l1 l3 eE hq hk0
    refine eg_iload_n (i := 3) 2 dX2_gains_4 rfl rfl ?_
    refine eg_aload_n (i := 0) 0 dX2_gains_5 rfl rfl ?_
    replace hF := eg_bind hF; obtain ⟨v1, e2, hF⟩ := hF
    refine eg_getI dX2_gains_6 e2 (Nat.le_of_ble_eq_true rfl) (Nat.le_of_ble_eq_true rfl) rfl ew_298 ?_
    refine eg_ic_gt 27 dX2_gains_9 rfl (fun c3 => ?_) (fun c3 => ?_)
    · replace hF := eg_it c3 hF
      exact eg_sub [1] [(1, .long l1)] rfl (hk0 l1 h (Option.some.inj hF).symm)
    · replace hF := eg_if c3 hF
      refine eg_lload_n (i := 1) 1 dX2_gains_12 rfl rfl ?_
      refine eg_aload_n (i := 0) 0 dX2_gains_13 rfl rfl ?_
      refine eg_iload_n (i := 3) 2 dX2_gains_14 rfl rfl ?_
      replace hF := eg_bind hF; obtain ⟨⟨v5, h4⟩, e6, hF⟩ := hF
      refine eg_callV (c := 2) (n := 1) [.int l3] dX2_gains_15 (mX2_gainOf e6) rfl (fX2_gainOf_O e6) (Nat.le_of_ble_eq_true rfl) rfl ew_1016 ew_1017 ew_1018 ew_108 ew_1019 hy_X2_gainOf rfl (Nat.le_of_ble_eq_true rfl) (Nat.le_of_ble_eq_true rfl) (Nat.le_of_ble_eq_true rfl) ?_
      refine eg_i2l dX2_gains_18 ?_
      refine eg_ladd dX2_gains_19 ?_
      replace hF := eg_bind hF; obtain ⟨v7, e8, hF⟩ := hF
      replace e8 := Option.some.inj e8
      rw [e8]
      refine eg_lstore_n (i := 1) [(1, .long v7), (0, .ref l0), (3, .int l3)] dX2_gains_20 rfl (Nat.le_of_ble_eq_true rfl) rfl ?_
      refine eg_iinc (i := 3) (v := (l3 + (1 : Int32))) 2 [(3, .int (l3 + (1 : Int32))), (1, .long v7), (0, .ref l0)] dX2_gains_21 rfl rfl (Nat.le_of_ble_eq_true rfl) rfl ?_
      refine eg_goto 4 dX2_gains_24 rfl ?_
      exact eg_sub [2, 1, 0] [(0, .ref l0), (1, .long v7), (3, .int (l3 + (1 : Int32)))] rfl (hrec h4 l0 v7 (l3 + (1 : Int32)) hF)
def fX2_gains (h : eg_H) (l0 : Nat) : Option (Int64 × eg_H) :=
  if eg_isO h 2 l0 then (
    (fX2_gains_L4 eg_F h l0 (0 : Int64) (1 : Int32)).bind fun e =>
    match e with
    | (v3, h4) =>
      some (v3, h4)) else none
theorem fX2_gains_O {h : eg_H} {l0 : Nat} {rE : Int64} {hE : eg_H} (hF : fX2_gains h l0 = some (rE, hE)) : eg_isO h 2 l0 := (eg_ifn hF).1
set_option maxRecDepth 20000 in
theorem mX2_gains {h : eg_H} {l0 : Nat} {rE : Int64} {hE : eg_H} (hF : fX2_gains h l0 = some (rE, hE)) : eg_Met yX2_gains cX2_gains 4 (some .long) 3 [.ref l0] h (some (.long rE)) hE := by
  refine eg_enter rfl (Nat.le_of_ble_eq_true rfl) ?_
  show eg_AW (RX2, cX2_gains, 4, 3, none, "gains", (some .long)) (eg_Zm (some (.long rE)) hE h) (eg_nc hE) (eg_ns hE) h 0 [(0, .ref l0)] [] h
  replace hF := (eg_ifn hF).2
  refine eg_lconst (v := (0 : Int64)) dX2_gains_0 (by decide) ?_
  refine eg_lstore_n (i := 1) [(1, .long (0 : Int64)), (0, .ref l0)] dX2_gains_1 rfl (Nat.le_of_ble_eq_true rfl) rfl ?_
  refine eg_iconst (v := (1 : Int32)) dX2_gains_2 (by decide) ?_
  refine eg_istore_n (i := 3) [(3, .int (1 : Int32)), (1, .long (0 : Int64)), (0, .ref l0)] dX2_gains_3 rfl (Nat.le_of_ble_eq_true rfl) rfl ?_
  replace hF := eg_bind hF; obtain ⟨x2, e1, hF⟩ := hF
  refine eg_sub [2, 1, 0] [(0, .ref l0), (1, .long (0 : Int64)), (3, .int (1 : Int32))] rfl (fX2_gains_L4_ok eg_F h l0 (0 : Int64) (1 : Int32) x2 e1 ?_)
  · intro v3 h4 e5
    subst e5
    refine eg_lload_n (i := 1) 0 dX2_gains_27 rfl rfl ?_
    exact eg_lretE dX2_gains_28 hF
theorem dX10_length_0 : decode cX10_length 0 = .ok (.aload_n 0, 1) := by decide +kernel
theorem dX10_length_1 : decode cX10_length 1 = .ok (.getfield 15, 3) := by decide +kernel
theorem dX10_length_4 : decode cX10_length 4 = .ok (.ireturn, 1) := by decide +kernel
def fX10_length (h : eg_H) (l0 : Nat) : Option (Int32 × eg_H) :=
  if eg_isO h 10 l0 then (
    (eg_gI h 10 1 l0).bind fun v1 =>
    some (v1, h)) else none
theorem fX10_length_O {h : eg_H} {l0 : Nat} {rE : Int32} {hE : eg_H} (hF : fX10_length h l0 = some (rE, hE)) : eg_isO h 10 l0 := (eg_ifn hF).1
set_option maxRecDepth 20000 in
theorem mX10_length {h : eg_H} {l0 : Nat} {rE : Int32} {hE : eg_H} (hF : fX10_length h l0 = some (rE, hE)) : eg_Met yX10_length cX10_length 1 (some .int) 1 [.ref l0] h (some (.int rE)) hE := by
  refine eg_enter rfl (Nat.le_of_ble_eq_true rfl) ?_
  show eg_AW (RX10, cX10_length, 1, 1, none, "length", (some .int)) (eg_Zm (some (.int rE)) hE h) (eg_nc hE) (eg_ns hE) h 0 [(0, .ref l0)] [] h
  replace hF := (eg_ifn hF).2
  refine eg_aload_n (i := 0) 0 dX10_length_0 rfl rfl ?_
  replace hF := eg_bind hF; obtain ⟨v1, e2, hF⟩ := hF
  refine eg_getI dX10_length_1 e2 (Nat.le_of_ble_eq_true rfl) (Nat.le_of_ble_eq_true rfl) rfl ew_141 ?_
  exact eg_iretE dX10_length_4 hF
theorem dX10_byteAt_0 : decode cX10_byteAt 0 = .ok (.iload_n 1, 1) := by decide +kernel
theorem dX10_byteAt_1 : decode cX10_byteAt 1 = .ok (.ifCond .lt 20, 3) := by decide +kernel
theorem dX10_byteAt_4 : decode cX10_byteAt 4 = .ok (.iload_n 1, 1) := by decide +kernel
theorem dX10_byteAt_5 : decode cX10_byteAt 5 = .ok (.aload_n 0, 1) := by decide +kernel
theorem dX10_byteAt_6 : decode cX10_byteAt 6 = .ok (.getfield 15, 3) := by decide +kernel
theorem dX10_byteAt_9 : decode cX10_byteAt 9 = .ok (.if_icmp .ge 12, 3) := by decide +kernel
theorem dX10_byteAt_12 : decode cX10_byteAt 12 = .ok (.iload_n 1, 1) := by decide +kernel
theorem dX10_byteAt_13 : decode cX10_byteAt 13 = .ok (.aload_n 0, 1) := by decide +kernel
theorem dX10_byteAt_14 : decode cX10_byteAt 14 = .ok (.getfield 9, 3) := by decide +kernel
theorem dX10_byteAt_17 : decode cX10_byteAt 17 = .ok (.arraylength, 1) := by decide +kernel
theorem dX10_byteAt_18 : decode cX10_byteAt 18 = .ok (.if_icmp .lt 7, 3) := by decide +kernel
theorem dX10_byteAt_21 : decode cX10_byteAt 21 = .ok (.iconst 0, 1) := by decide +kernel
theorem dX10_byteAt_22 : decode cX10_byteAt 22 = .ok (.goto 9, 3) := by decide +kernel
theorem dX10_byteAt_25 : decode cX10_byteAt 25 = .ok (.aload_n 0, 1) := by decide +kernel
theorem dX10_byteAt_26 : decode cX10_byteAt 26 = .ok (.getfield 9, 3) := by decide +kernel
theorem dX10_byteAt_29 : decode cX10_byteAt 29 = .ok (.iload_n 1, 1) := by decide +kernel
theorem dX10_byteAt_30 : decode cX10_byteAt 30 = .ok (.iaload, 1) := by decide +kernel
theorem dX10_byteAt_31 : decode cX10_byteAt 31 = .ok (.ireturn, 1) := by decide +kernel
def fX10_byteAt (h : eg_H) (l0 : Nat) (l1 : Int32) : Option (Int32 × eg_H) :=
  if eg_isO h 10 l0 then (
    if l1 < 0 then
      (some ((0 : Int32), h))
    else
      (eg_gI h 10 1 l0).bind fun v2 =>
      if v2 ≤ l1 then
        (some ((0 : Int32), h))
      else
        (eg_gR h 10 0 l0).bind fun p5 =>
        (eg_al h p5).bind fun v7 =>
        if l1 < v7 then
          ((eg_gR h 10 0 l0).bind fun p10 =>
          (eg_aI h 100 p10 l1).bind fun v12 =>
          some (v12, h))
        else
          some ((0 : Int32), h)) else none
theorem fX10_byteAt_O {h : eg_H} {l0 : Nat} {l1 : Int32} {rE : Int32} {hE : eg_H} (hF : fX10_byteAt h l0 l1 = some (rE, hE)) : eg_isO h 10 l0 := (eg_ifn hF).1
set_option maxRecDepth 20000 in
theorem mX10_byteAt {h : eg_H} {l0 : Nat} {l1 : Int32} {rE : Int32} {hE : eg_H} (hF : fX10_byteAt h l0 l1 = some (rE, hE)) : eg_Met yX10_byteAt cX10_byteAt 2 (some .int) 1 [.ref l0, .int l1] h (some (.int rE)) hE := by
  refine eg_enter rfl (Nat.le_of_ble_eq_true rfl) ?_
  show eg_AW (RX10, cX10_byteAt, 2, 1, none, "byteAt", (some .int)) (eg_Zm (some (.int rE)) hE h) (eg_nc hE) (eg_ns hE) h 0 [(0, .ref l0), (1, .int l1)] [] h
  replace hF := (eg_ifn hF).2
  refine eg_iload_n (i := 1) 1 dX10_byteAt_0 rfl rfl ?_
  refine eg_if_lt 21 dX10_byteAt_1 rfl (fun c1 => ?_) (fun c1 => ?_)
  · replace hF := eg_it c1 hF
    refine eg_iconst (v := (0 : Int32)) dX10_byteAt_21 (by decide) ?_
    refine eg_goto 31 dX10_byteAt_22 rfl ?_
    exact eg_iretE dX10_byteAt_31 hF
  · replace hF := eg_if c1 hF
    refine eg_iload_n (i := 1) 1 dX10_byteAt_4 rfl rfl ?_
    refine eg_aload_n (i := 0) 0 dX10_byteAt_5 rfl rfl ?_
    replace hF := eg_bind hF; obtain ⟨v2, e3, hF⟩ := hF
    refine eg_getI dX10_byteAt_6 e3 (Nat.le_of_ble_eq_true rfl) (Nat.le_of_ble_eq_true rfl) rfl ew_141 ?_
    refine eg_ic_ge 21 dX10_byteAt_9 rfl (fun c4 => ?_) (fun c4 => ?_)
    · replace hF := eg_it c4 hF
      refine eg_iconst (v := (0 : Int32)) dX10_byteAt_21 (by decide) ?_
      refine eg_goto 31 dX10_byteAt_22 rfl ?_
      exact eg_iretE dX10_byteAt_31 hF
    · replace hF := eg_if c4 hF
      refine eg_iload_n (i := 1) 1 dX10_byteAt_12 rfl rfl ?_
      refine eg_aload_n (i := 0) 0 dX10_byteAt_13 rfl rfl ?_
      replace hF := eg_bind hF; obtain ⟨p5, e6, hF⟩ := hF
      refine eg_getR dX10_byteAt_14 e6 (Nat.le_of_ble_eq_true rfl) (Nat.le_of_ble_eq_true rfl) rfl ew_140 ?_
      replace hF := eg_bind hF; obtain ⟨v7, e8, hF⟩ := hF
      refine eg_alen dX10_byteAt_17 e8 ?_
      refine eg_ic_lt 25 dX10_byteAt_18 rfl (fun c9 => ?_) (fun c9 => ?_)
      · replace hF := eg_it c9 hF
        refine eg_aload_n (i := 0) 0 dX10_byteAt_25 rfl rfl ?_
        replace hF := eg_bind hF; obtain ⟨p10, e11, hF⟩ := hF
        refine eg_getR dX10_byteAt_26 e11 (Nat.le_of_ble_eq_true rfl) (Nat.le_of_ble_eq_true rfl) rfl ew_140 ?_
        refine eg_iload_n (i := 1) 1 dX10_byteAt_29 rfl rfl ?_
        replace hF := eg_bind hF; obtain ⟨v12, e13, hF⟩ := hF
        refine eg_iald dX10_byteAt_30 e13 ?_
        exact eg_iretE dX10_byteAt_31 hF
      · replace hF := eg_if c9 hF
        refine eg_iconst (v := (0 : Int32)) dX10_byteAt_21 (by decide) ?_
        refine eg_goto 31 dX10_byteAt_22 rfl ?_
        exact eg_iretE dX10_byteAt_31 hF
theorem dX3_init_0 : decode cX3_init 0 = .ok (.aload_n 0, 1) := by decide +kernel
theorem dX3_init_1 : decode cX3_init 1 = .ok (.invokespecial 3, 3) := by decide +kernel
theorem dX3_init_4 : decode cX3_init 4 = .ok (.aload_n 0, 1) := by decide +kernel
theorem dX3_init_5 : decode cX3_init 5 = .ok (.bipush 24, 2) := by decide +kernel
theorem dX3_init_7 : decode cX3_init 7 = .ok (.newarray .int, 2) := by decide +kernel
theorem dX3_init_9 : decode cX3_init 9 = .ok (.putfield 9, 3) := by decide +kernel
theorem dX3_init_12 : decode cX3_init 12 = .ok (.iconst 0, 1) := by decide +kernel
theorem dX3_init_13 : decode cX3_init 13 = .ok (.istore_n 2, 1) := by decide +kernel
theorem dX3_init_14 : decode cX3_init 14 = .ok (.iconst 0, 1) := by decide +kernel
theorem dX3_init_15 : decode cX3_init 15 = .ok (.istore_n 3, 1) := by decide +kernel
theorem dX3_init_16 : decode cX3_init 16 = .ok (.iload_n 3, 1) := by decide +kernel
theorem dX3_init_17 : decode cX3_init 17 = .ok (.aload_n 1, 1) := by decide +kernel
theorem dX3_init_18 : decode cX3_init 18 = .ok (.invokevirtual 15, 3) := by decide +kernel
theorem dX3_init_21 : decode cX3_init 21 = .ok (.if_icmp .ge 42, 3) := by decide +kernel
theorem dX3_init_24 : decode cX3_init 24 = .ok (.aload_n 1, 1) := by decide +kernel
theorem dX3_init_25 : decode cX3_init 25 = .ok (.iload_n 3, 1) := by decide +kernel
theorem dX3_init_26 : decode cX3_init 26 = .ok (.invokevirtual 21, 3) := by decide +kernel
theorem dX3_init_29 : decode cX3_init 29 = .ok (.bipush 32, 2) := by decide +kernel
theorem dX3_init_31 : decode cX3_init 31 = .ok (.if_icmp .eq 26, 3) := by decide +kernel
theorem dX3_init_34 : decode cX3_init 34 = .ok (.iload_n 2, 1) := by decide +kernel
theorem dX3_init_35 : decode cX3_init 35 = .ok (.bipush 24, 2) := by decide +kernel
theorem dX3_init_37 : decode cX3_init 37 = .ok (.if_icmp .ge 20, 3) := by decide +kernel
theorem dX3_init_40 : decode cX3_init 40 = .ok (.aload_n 0, 1) := by decide +kernel
theorem dX3_init_41 : decode cX3_init 41 = .ok (.getfield 9, 3) := by decide +kernel
theorem dX3_init_44 : decode cX3_init 44 = .ok (.iload_n 2, 1) := by decide +kernel
theorem dX3_init_45 : decode cX3_init 45 = .ok (.aload_n 1, 1) := by decide +kernel
theorem dX3_init_46 : decode cX3_init 46 = .ok (.iload_n 3, 1) := by decide +kernel
theorem dX3_init_47 : decode cX3_init 47 = .ok (.invokevirtual 21, 3) := by decide +kernel
theorem dX3_init_50 : decode cX3_init 50 = .ok (.bipush 48, 2) := by decide +kernel
theorem dX3_init_52 : decode cX3_init 52 = .ok (.isub, 1) := by decide +kernel
theorem dX3_init_53 : decode cX3_init 53 = .ok (.iastore, 1) := by decide +kernel
theorem dX3_init_54 : decode cX3_init 54 = .ok (.iinc 2 1, 3) := by decide +kernel
theorem dX3_init_57 : decode cX3_init 57 = .ok (.iinc 3 1, 3) := by decide +kernel
theorem dX3_init_60 : decode cX3_init 60 = .ok (.goto (-44), 3) := by decide +kernel
theorem dX3_init_63 : decode cX3_init 63 = .ok (.aload_n 0, 1) := by decide +kernel
theorem dX3_init_64 : decode cX3_init 64 = .ok (.iload_n 2, 1) := by decide +kernel
theorem dX3_init_65 : decode cX3_init 65 = .ok (.putfield 25, 3) := by decide +kernel
theorem dX3_init_68 : decode cX3_init 68 = .ok (.return_, 1) := by decide +kernel
def fX3_init_L16 : Nat → eg_H → Nat → Nat → Int32 → Int32 → Option (Nat × Int32 × eg_H)
  | 0, _, _, _, _, _ => none
  | n + 1, h, l0, l1, l2, l3 =>
    (fX10_length h l1).bind fun ⟨v2, h1⟩ =>
    if v2 ≤ l3 then
      (some (l0, l2, h1))
    else
      (fX10_byteAt h1 l1 l3).bind fun ⟨v6, h5⟩ =>
      if v6 = (32 : Int32) then
        (fX3_init_L16 n h5 l0 l1 l2 (l3 + (1 : Int32)))
      else
        if (24 : Int32) ≤ l2 then
          (fX3_init_L16 n h5 l0 l1 l2 (l3 + (1 : Int32)))
        else
          (eg_gR h5 3 0 l0).bind fun p10 =>
          (fX10_byteAt h5 l1 l3).bind fun ⟨v13, h12⟩ =>
          (eg_wI h12 100 p10 l2 (v13 - (48 : Int32))).bind fun h15 =>
          fX3_init_L16 n h15 l0 l1 (l2 + (1 : Int32)) (l3 + (1 : Int32))
set_option maxRecDepth 20000 in
theorem fX3_init_L16_ok {h0 : eg_H} {Z : eg_C → State → Prop} {N S : Nat} : ∀ (n : Nat) (h : eg_H) (l0 : Nat) (l1 : Nat) (l2 : Int32) (l3 : Int32) (eE : Nat × Int32 × eg_H), fX3_init_L16 n h l0 l1 l2 l3 = some eE → (hk0 : ∀ (l0 : Nat) (l2 : Int32) (h : eg_H), eE = (l0, l2, h) → eg_AW (RX3, cX3_init, 4, 2, none, "<init>", none) Z N S h0 63 [(0, .ref l0), (2, .int l2)] [] h) → eg_AW (RX3, cX3_init, 4, 2, none, "<init>", none) Z N S h0 16 [(0, .ref l0), (1, .ref l1), (2, .int l2), (3, .int l3)] [] h := by
  intro n
  induction n with
  | zero => intro h l0 l1 l2 l3 eE hF; exact absurd hF (by intro q; cases q)
  | succ n ih =>
    intro h l0 l1 l2 l3 eE hF hk0
    have hrec := fun (h' : eg_H) (l0 : Nat) (l1 : Nat) (l2 : Int32) (l3 : Int32) hq => ih h' l0 l1 l2 l3 eE hq hk0
    refine eg_iload_n (i := 3) 3 dX3_init_16 rfl rfl ?_
    refine eg_aload_n (i := 1) 1 dX3_init_17 rfl rfl ?_
    replace hF := eg_bind hF; obtain ⟨⟨v2, h1⟩, e3, hF⟩ := hF
    refine eg_callV (c := 10) (n := 0) [] dX3_init_18 (mX10_length e3) rfl (fX10_length_O e3) (Nat.le_of_ble_eq_true rfl) rfl ew_682 ew_423 ew_424 ew_101 ew_425 hy_X10_length rfl (Nat.le_of_ble_eq_true rfl) (Nat.le_of_ble_eq_true rfl) (Nat.le_of_ble_eq_true rfl) ?_
    refine eg_ic_ge 63 dX3_init_21 rfl (fun c4 => ?_) (fun c4 => ?_)
    · replace hF := eg_it c4 hF
      exact eg_sub [0, 2] [(0, .ref l0), (2, .int l2)] rfl (hk0 l0 l2 h1 (Option.some.inj hF).symm)
    · replace hF := eg_if c4 hF
      refine eg_aload_n (i := 1) 1 dX3_init_24 rfl rfl ?_
      refine eg_iload_n (i := 3) 3 dX3_init_25 rfl rfl ?_
      replace hF := eg_bind hF; obtain ⟨⟨v6, h5⟩, e7, hF⟩ := hF
      refine eg_callV (c := 10) (n := 1) [.int l3] dX3_init_26 (mX10_byteAt e7) rfl (fX10_byteAt_O e7) (Nat.le_of_ble_eq_true rfl) rfl ew_683 ew_495 ew_496 ew_101 ew_497 hy_X10_byteAt rfl (Nat.le_of_ble_eq_true rfl) (Nat.le_of_ble_eq_true rfl) (Nat.le_of_ble_eq_true rfl) ?_
      refine eg_bipush (v := (32 : Int32)) dX3_init_29 (by decide) ?_
      refine eg_ic_eq 57 dX3_init_31 rfl (fun c8 => ?_) (fun c8 => ?_)
      · replace hF := eg_it c8 hF
        refine eg_iinc (i := 3) (v := (l3 + (1 : Int32))) 3 [(3, .int (l3 + (1 : Int32))), (0, .ref l0), (1, .ref l1), (2, .int l2)] dX3_init_57 rfl rfl (Nat.le_of_ble_eq_true rfl) rfl ?_
        refine eg_goto 16 dX3_init_60 rfl ?_
        exact eg_sub [1, 2, 3, 0] [(0, .ref l0), (1, .ref l1), (2, .int l2), (3, .int (l3 + (1 : Int32)))] rfl (hrec h5 l0 l1 l2 (l3 + (1 : Int32)) hF)
      · replace hF := eg_if c8 hF
        refine eg_iload_n (i := 2) 2 dX3_init_34 rfl rfl ?_
        refine eg_bipush (v := (24 : Int32)) dX3_init_35 (by decide) ?_
        refine eg_ic_ge 57 dX3_init_37 rfl (fun c9 => ?_) (fun c9 => ?_)
        · replace hF := eg_it c9 hF
          refine eg_iinc (i := 3) (v := (l3 + (1 : Int32))) 3 [(3, .int (l3 + (1 : Int32))), (0, .ref l0), (1, .ref l1), (2, .int l2)] dX3_init_57 rfl rfl (Nat.le_of_ble_eq_true rfl) rfl ?_
          refine eg_goto 16 dX3_init_60 rfl ?_
          exact eg_sub [1, 2, 3, 0] [(0, .ref l0), (1, .ref l1), (2, .int l2), (3, .int (l3 + (1 : Int32)))] rfl (hrec h5 l0 l1 l2 (l3 + (1 : Int32)) hF)
        · replace hF := eg_if c9 hF
          refine eg_aload_n (i := 0) 0 dX3_init_40 rfl rfl ?_
          replace hF := eg_bind hF; obtain ⟨p10, e11, hF⟩ := hF
          refine eg_getR dX3_init_41 e11 (Nat.le_of_ble_eq_true rfl) (Nat.le_of_ble_eq_true rfl) rfl ew_684 ?_
          refine eg_iload_n (i := 2) 2 dX3_init_44 rfl rfl ?_
          refine eg_aload_n (i := 1) 1 dX3_init_45 rfl rfl ?_
          refine eg_iload_n (i := 3) 3 dX3_init_46 rfl rfl ?_
          replace hF := eg_bind hF; obtain ⟨⟨v13, h12⟩, e14, hF⟩ := hF
          refine eg_callV (c := 10) (n := 1) [.int l3] dX3_init_47 (mX10_byteAt e14) rfl (fX10_byteAt_O e14) (Nat.le_of_ble_eq_true rfl) rfl ew_683 ew_495 ew_496 ew_101 ew_497 hy_X10_byteAt rfl (Nat.le_of_ble_eq_true rfl) (Nat.le_of_ble_eq_true rfl) (Nat.le_of_ble_eq_true rfl) ?_
          refine eg_bipush (v := (48 : Int32)) dX3_init_50 (by decide) ?_
          refine eg_isub dX3_init_52 ?_
          replace hF := eg_bind hF; obtain ⟨h15, e16, hF⟩ := hF
          refine eg_iast dX3_init_53 e16 ?_
          refine eg_iinc (i := 2) (v := (l2 + (1 : Int32))) 2 [(2, .int (l2 + (1 : Int32))), (0, .ref l0), (1, .ref l1), (3, .int l3)] dX3_init_54 rfl rfl (Nat.le_of_ble_eq_true rfl) rfl ?_
          refine eg_iinc (i := 3) (v := (l3 + (1 : Int32))) 3 [(3, .int (l3 + (1 : Int32))), (2, .int (l2 + (1 : Int32))), (0, .ref l0), (1, .ref l1)] dX3_init_57 rfl rfl (Nat.le_of_ble_eq_true rfl) rfl ?_
          refine eg_goto 16 dX3_init_60 rfl ?_
          exact eg_sub [2, 3, 1, 0] [(0, .ref l0), (1, .ref l1), (2, .int (l2 + (1 : Int32))), (3, .int (l3 + (1 : Int32)))] rfl (hrec h15 l0 l1 (l2 + (1 : Int32)) (l3 + (1 : Int32)) hF)
def fX3_init (h : eg_H) (l0 : Nat) (l1 : Nat) : Option (eg_H) :=
  (eg_na h 100 (24 : Int32)).bind fun h2 =>
  (some (eg_nc h)).bind fun p1 =>
  (eg_pP h2 3 0 l0 (some p1)).bind fun h5 =>
  (fX3_init_L16 eg_F h5 l0 l1 (0 : Int32) (0 : Int32)).bind fun e =>
  match e with
  | (p9, v10, h11) =>
    (eg_pI h11 3 1 p9 v10).bind fun h12 =>
    some h12
set_option maxRecDepth 20000 in
theorem mX3_init {h : eg_H} {l0 : Nat} {l1 : Nat} {hE : eg_H} (hF : fX3_init h l0 l1 = some hE) : eg_Met yX3_init cX3_init 4 none 2 [.ref l0, .ref l1] h none hE := by
  refine eg_enter rfl (Nat.le_of_ble_eq_true rfl) ?_
  show eg_AW (RX3, cX3_init, 4, 2, none, "<init>", none) (eg_Zm none hE h) (eg_nc hE) (eg_ns hE) h 0 [(0, .ref l0), (1, .ref l1)] [] h
  refine eg_aload_n (i := 0) 0 dX3_init_0 rfl rfl ?_
  refine eg_objInit dX3_init_1 ew_681 (Nat.le_of_ble_eq_true rfl) (Nat.le_of_ble_eq_true rfl) ?_
  refine eg_aload_n (i := 0) 0 dX3_init_4 rfl rfl ?_
  refine eg_bipush (v := (24 : Int32)) dX3_init_5 (by decide) ?_
  replace hF := eg_bind hF; obtain ⟨h2, e3, hF⟩ := hF
  replace hF := eg_bind hF; obtain ⟨p1, e4, hF⟩ := hF
  refine eg_newa .int dX3_init_7 e3 0 (Nat.le_of_ble_eq_true rfl) (Nat.le_of_ble_eq_true rfl) (Nat.le_of_ble_eq_true rfl) (fun _ => rfl) (by decide) rfl ew_156 ?_
  replace e4 := Option.some.inj e4
  rw [e4]
  replace hF := eg_bind hF; obtain ⟨h5, e6, hF⟩ := hF
  refine eg_putR dX3_init_9 e6 (Nat.le_of_ble_eq_true rfl) (Nat.le_of_ble_eq_true rfl) rfl ew_684 (Or.inr ⟨rfl, rfl, rfl⟩) ?_
  refine eg_iconst (v := (0 : Int32)) dX3_init_12 (by decide) ?_
  refine eg_istore_n (i := 2) [(2, .int (0 : Int32)), (0, .ref l0), (1, .ref l1)] dX3_init_13 rfl (Nat.le_of_ble_eq_true rfl) rfl ?_
  refine eg_iconst (v := (0 : Int32)) dX3_init_14 (by decide) ?_
  refine eg_istore_n (i := 3) [(3, .int (0 : Int32)), (2, .int (0 : Int32)), (0, .ref l0), (1, .ref l1)] dX3_init_15 rfl (Nat.le_of_ble_eq_true rfl) rfl ?_
  replace hF := eg_bind hF; obtain ⟨x8, e7, hF⟩ := hF
  refine eg_sub [2, 3, 1, 0] [(0, .ref l0), (1, .ref l1), (2, .int (0 : Int32)), (3, .int (0 : Int32))] rfl (fX3_init_L16_ok eg_F h5 l0 l1 (0 : Int32) (0 : Int32) x8 e7 ?_)
  · intro p9 v10 h11 e14
    subst e14
    refine eg_aload_n (i := 0) 0 dX3_init_63 rfl rfl ?_
    refine eg_iload_n (i := 2) 1 dX3_init_64 rfl rfl ?_
    replace hF := eg_bind hF; obtain ⟨h12, e13, hF⟩ := hF
    refine eg_putI dX3_init_65 e13 (Nat.le_of_ble_eq_true rfl) (Nat.le_of_ble_eq_true rfl) rfl ew_685 (Or.inr ⟨rfl, rfl, rfl⟩) ?_
    exact eg_vretE dX3_init_68 hF
theorem dX3_length_0 : decode cX3_length 0 = .ok (.aload_n 0, 1) := by decide +kernel
theorem dX3_length_1 : decode cX3_length 1 = .ok (.getfield 25, 3) := by decide +kernel
theorem dX3_length_4 : decode cX3_length 4 = .ok (.ireturn, 1) := by decide +kernel
def fX3_length (h : eg_H) (l0 : Nat) : Option (Int32 × eg_H) :=
  if eg_isO h 3 l0 then (
    (eg_gI h 3 1 l0).bind fun v1 =>
    some (v1, h)) else none
theorem fX3_length_O {h : eg_H} {l0 : Nat} {rE : Int32} {hE : eg_H} (hF : fX3_length h l0 = some (rE, hE)) : eg_isO h 3 l0 := (eg_ifn hF).1
set_option maxRecDepth 20000 in
theorem mX3_length {h : eg_H} {l0 : Nat} {rE : Int32} {hE : eg_H} (hF : fX3_length h l0 = some (rE, hE)) : eg_Met yX3_length cX3_length 1 (some .int) 1 [.ref l0] h (some (.int rE)) hE := by
  refine eg_enter rfl (Nat.le_of_ble_eq_true rfl) ?_
  show eg_AW (RX3, cX3_length, 1, 1, none, "length", (some .int)) (eg_Zm (some (.int rE)) hE h) (eg_nc hE) (eg_ns hE) h 0 [(0, .ref l0)] [] h
  replace hF := (eg_ifn hF).2
  refine eg_aload_n (i := 0) 0 dX3_length_0 rfl rfl ?_
  replace hF := eg_bind hF; obtain ⟨v1, e2, hF⟩ := hF
  refine eg_getI dX3_length_1 e2 (Nat.le_of_ble_eq_true rfl) (Nat.le_of_ble_eq_true rfl) rfl ew_685 ?_
  exact eg_iretE dX3_length_4 hF
theorem dX3_heightAt_0 : decode cX3_heightAt 0 = .ok (.iload_n 1, 1) := by decide +kernel
theorem dX3_heightAt_1 : decode cX3_heightAt 1 = .ok (.ifCond .lt 20, 3) := by decide +kernel
theorem dX3_heightAt_4 : decode cX3_heightAt 4 = .ok (.iload_n 1, 1) := by decide +kernel
theorem dX3_heightAt_5 : decode cX3_heightAt 5 = .ok (.aload_n 0, 1) := by decide +kernel
theorem dX3_heightAt_6 : decode cX3_heightAt 6 = .ok (.getfield 25, 3) := by decide +kernel
theorem dX3_heightAt_9 : decode cX3_heightAt 9 = .ok (.if_icmp .ge 12, 3) := by decide +kernel
theorem dX3_heightAt_12 : decode cX3_heightAt 12 = .ok (.iload_n 1, 1) := by decide +kernel
theorem dX3_heightAt_13 : decode cX3_heightAt 13 = .ok (.aload_n 0, 1) := by decide +kernel
theorem dX3_heightAt_14 : decode cX3_heightAt 14 = .ok (.getfield 9, 3) := by decide +kernel
theorem dX3_heightAt_17 : decode cX3_heightAt 17 = .ok (.arraylength, 1) := by decide +kernel
theorem dX3_heightAt_18 : decode cX3_heightAt 18 = .ok (.if_icmp .lt 7, 3) := by decide +kernel
theorem dX3_heightAt_21 : decode cX3_heightAt 21 = .ok (.iconst (-1), 1) := by decide +kernel
theorem dX3_heightAt_22 : decode cX3_heightAt 22 = .ok (.goto 9, 3) := by decide +kernel
theorem dX3_heightAt_25 : decode cX3_heightAt 25 = .ok (.aload_n 0, 1) := by decide +kernel
theorem dX3_heightAt_26 : decode cX3_heightAt 26 = .ok (.getfield 9, 3) := by decide +kernel
theorem dX3_heightAt_29 : decode cX3_heightAt 29 = .ok (.iload_n 1, 1) := by decide +kernel
theorem dX3_heightAt_30 : decode cX3_heightAt 30 = .ok (.iaload, 1) := by decide +kernel
theorem dX3_heightAt_31 : decode cX3_heightAt 31 = .ok (.ireturn, 1) := by decide +kernel
def fX3_heightAt (h : eg_H) (l0 : Nat) (l1 : Int32) : Option (Int32 × eg_H) :=
  if eg_isO h 3 l0 then (
    if l1 < 0 then
      (some ((-1 : Int32), h))
    else
      (eg_gI h 3 1 l0).bind fun v2 =>
      if v2 ≤ l1 then
        (some ((-1 : Int32), h))
      else
        (eg_gR h 3 0 l0).bind fun p5 =>
        (eg_al h p5).bind fun v7 =>
        if l1 < v7 then
          ((eg_gR h 3 0 l0).bind fun p10 =>
          (eg_aI h 100 p10 l1).bind fun v12 =>
          some (v12, h))
        else
          some ((-1 : Int32), h)) else none
theorem fX3_heightAt_O {h : eg_H} {l0 : Nat} {l1 : Int32} {rE : Int32} {hE : eg_H} (hF : fX3_heightAt h l0 l1 = some (rE, hE)) : eg_isO h 3 l0 := (eg_ifn hF).1
set_option maxRecDepth 20000 in
theorem mX3_heightAt {h : eg_H} {l0 : Nat} {l1 : Int32} {rE : Int32} {hE : eg_H} (hF : fX3_heightAt h l0 l1 = some (rE, hE)) : eg_Met yX3_heightAt cX3_heightAt 2 (some .int) 1 [.ref l0, .int l1] h (some (.int rE)) hE := by
  refine eg_enter rfl (Nat.le_of_ble_eq_true rfl) ?_
  show eg_AW (RX3, cX3_heightAt, 2, 1, none, "heightAt", (some .int)) (eg_Zm (some (.int rE)) hE h) (eg_nc hE) (eg_ns hE) h 0 [(0, .ref l0), (1, .int l1)] [] h
  replace hF := (eg_ifn hF).2
  refine eg_iload_n (i := 1) 1 dX3_heightAt_0 rfl rfl ?_
  refine eg_if_lt 21 dX3_heightAt_1 rfl (fun c1 => ?_) (fun c1 => ?_)
  · replace hF := eg_it c1 hF
    refine eg_iconst (v := (-1 : Int32)) dX3_heightAt_21 (by decide) ?_
    refine eg_goto 31 dX3_heightAt_22 rfl ?_
    exact eg_iretE dX3_heightAt_31 hF
  · replace hF := eg_if c1 hF
    refine eg_iload_n (i := 1) 1 dX3_heightAt_4 rfl rfl ?_
    refine eg_aload_n (i := 0) 0 dX3_heightAt_5 rfl rfl ?_
    replace hF := eg_bind hF; obtain ⟨v2, e3, hF⟩ := hF
    refine eg_getI dX3_heightAt_6 e3 (Nat.le_of_ble_eq_true rfl) (Nat.le_of_ble_eq_true rfl) rfl ew_685 ?_
    refine eg_ic_ge 21 dX3_heightAt_9 rfl (fun c4 => ?_) (fun c4 => ?_)
    · replace hF := eg_it c4 hF
      refine eg_iconst (v := (-1 : Int32)) dX3_heightAt_21 (by decide) ?_
      refine eg_goto 31 dX3_heightAt_22 rfl ?_
      exact eg_iretE dX3_heightAt_31 hF
    · replace hF := eg_if c4 hF
      refine eg_iload_n (i := 1) 1 dX3_heightAt_12 rfl rfl ?_
      refine eg_aload_n (i := 0) 0 dX3_heightAt_13 rfl rfl ?_
      replace hF := eg_bind hF; obtain ⟨p5, e6, hF⟩ := hF
      refine eg_getR dX3_heightAt_14 e6 (Nat.le_of_ble_eq_true rfl) (Nat.le_of_ble_eq_true rfl) rfl ew_684 ?_
      replace hF := eg_bind hF; obtain ⟨v7, e8, hF⟩ := hF
      refine eg_alen dX3_heightAt_17 e8 ?_
      refine eg_ic_lt 25 dX3_heightAt_18 rfl (fun c9 => ?_) (fun c9 => ?_)
      · replace hF := eg_it c9 hF
        refine eg_aload_n (i := 0) 0 dX3_heightAt_25 rfl rfl ?_
        replace hF := eg_bind hF; obtain ⟨p10, e11, hF⟩ := hF
        refine eg_getR dX3_heightAt_26 e11 (Nat.le_of_ble_eq_true rfl) (Nat.le_of_ble_eq_true rfl) rfl ew_684 ?_
        refine eg_iload_n (i := 1) 1 dX3_heightAt_29 rfl rfl ?_
        replace hF := eg_bind hF; obtain ⟨v12, e13, hF⟩ := hF
        refine eg_iald dX3_heightAt_30 e13 ?_
        exact eg_iretE dX3_heightAt_31 hF
      · replace hF := eg_if c9 hF
        refine eg_iconst (v := (-1 : Int32)) dX3_heightAt_21 (by decide) ?_
        refine eg_goto 31 dX3_heightAt_22 rfl ?_
        exact eg_iretE dX3_heightAt_31 hF
theorem dX3_heightAfter_0 : decode cX3_heightAfter 0 = .ok (.iload_n 1, 1) := by decide +kernel
theorem dX3_heightAfter_1 : decode cX3_heightAfter 1 = .ok (.iconst 1, 1) := by decide +kernel
theorem dX3_heightAfter_2 : decode cX3_heightAfter 2 = .ok (.iadd, 1) := by decide +kernel
theorem dX3_heightAfter_3 : decode cX3_heightAfter 3 = .ok (.istore_n 2, 1) := by decide +kernel
theorem dX3_heightAfter_4 : decode cX3_heightAfter 4 = .ok (.iload_n 2, 1) := by decide +kernel
theorem dX3_heightAfter_5 : decode cX3_heightAfter 5 = .ok (.aload_n 0, 1) := by decide +kernel
theorem dX3_heightAfter_6 : decode cX3_heightAfter 6 = .ok (.getfield 25, 3) := by decide +kernel
theorem dX3_heightAfter_9 : decode cX3_heightAfter 9 = .ok (.if_icmp .ge 28, 3) := by decide +kernel
theorem dX3_heightAfter_12 : decode cX3_heightAfter 12 = .ok (.aload_n 0, 1) := by decide +kernel
theorem dX3_heightAfter_13 : decode cX3_heightAfter 13 = .ok (.iload_n 2, 1) := by decide +kernel
theorem dX3_heightAfter_14 : decode cX3_heightAfter 14 = .ok (.invokevirtual 28, 3) := by decide +kernel
theorem dX3_heightAfter_17 : decode cX3_heightAfter 17 = .ok (.aload_n 0, 1) := by decide +kernel
theorem dX3_heightAfter_18 : decode cX3_heightAfter 18 = .ok (.iload_n 1, 1) := by decide +kernel
theorem dX3_heightAfter_19 : decode cX3_heightAfter 19 = .ok (.invokevirtual 28, 3) := by decide +kernel
theorem dX3_heightAfter_22 : decode cX3_heightAfter 22 = .ok (.if_icmp .eq 9, 3) := by decide +kernel
theorem dX3_heightAfter_25 : decode cX3_heightAfter 25 = .ok (.aload_n 0, 1) := by decide +kernel
theorem dX3_heightAfter_26 : decode cX3_heightAfter 26 = .ok (.iload_n 2, 1) := by decide +kernel
theorem dX3_heightAfter_27 : decode cX3_heightAfter 27 = .ok (.invokevirtual 28, 3) := by decide +kernel
theorem dX3_heightAfter_30 : decode cX3_heightAfter 30 = .ok (.ireturn, 1) := by decide +kernel
theorem dX3_heightAfter_31 : decode cX3_heightAfter 31 = .ok (.iinc 2 1, 3) := by decide +kernel
theorem dX3_heightAfter_34 : decode cX3_heightAfter 34 = .ok (.goto (-30), 3) := by decide +kernel
theorem dX3_heightAfter_37 : decode cX3_heightAfter 37 = .ok (.iconst (-1), 1) := by decide +kernel
theorem dX3_heightAfter_38 : decode cX3_heightAfter 38 = .ok (.ireturn, 1) := by decide +kernel
def fX3_heightAfter_L4 : Nat → eg_H → Nat → Int32 → Int32 → Option ((eg_H) ⊕ (Nat × Int32 × eg_H))
  | 0, _, _, _, _ => none
  | n + 1, h, l0, l1, l2 =>
    (eg_gI h 3 1 l0).bind fun v1 =>
    if v1 ≤ l2 then
      (some (.inl h))
    else
      (fX3_heightAt h l0 l2).bind fun ⟨v5, h4⟩ =>
      (fX3_heightAt h4 l0 l1).bind fun ⟨v8, h7⟩ =>
      if v5 = v8 then
        (fX3_heightAfter_L4 n h7 l0 l1 (l2 + (1 : Int32)))
      else
        some (.inr (l0, l2, h7))
set_option maxRecDepth 20000 in
theorem fX3_heightAfter_L4_ok {h0 : eg_H} {Z : eg_C → State → Prop} {N S : Nat} : ∀ (n : Nat) (h : eg_H) (l0 : Nat) (l1 : Int32) (l2 : Int32) (eE : (eg_H) ⊕ (Nat × Int32 × eg_H)), fX3_heightAfter_L4 n h l0 l1 l2 = some eE → (hk0 : ∀  (h : eg_H), eE = (.inl h) → eg_AW (RX3, cX3_heightAfter, 3, 2, none, "heightAfter", (some .int)) Z N S h0 37 [] [] h) → (hk1 : ∀ (l0 : Nat) (l2 : Int32) (h : eg_H), eE = (.inr (l0, l2, h)) → eg_AW (RX3, cX3_heightAfter, 3, 2, none, "heightAfter", (some .int)) Z N S h0 25 [(0, .ref l0), (2, .int l2)] [] h) → eg_AW (RX3, cX3_heightAfter, 3, 2, none, "heightAfter", (some .int)) Z N S h0 4 [(0, .ref l0), (1, .int l1), (2, .int l2)] [] h := by
  intro n
  induction n with
  | zero => intro h l0 l1 l2 eE hF; exact absurd hF (by intro q; cases q)
  | succ n ih =>
    intro h l0 l1 l2 eE hF hk0 hk1
    have hrec := fun (h' : eg_H) (l0 : Nat) (l1 : Int32) (l2 : Int32) hq => ih h' l0 l1 l2 eE hq hk0 hk1
    refine eg_iload_n (i := 2) 2 dX3_heightAfter_4 rfl rfl ?_
    refine eg_aload_n (i := 0) 0 dX3_heightAfter_5 rfl rfl ?_
    replace hF := eg_bind hF; obtain ⟨v1, e2, hF⟩ := hF
    refine eg_getI dX3_heightAfter_6 e2 (Nat.le_of_ble_eq_true rfl) (Nat.le_of_ble_eq_true rfl) rfl ew_685 ?_
    refine eg_ic_ge 37 dX3_heightAfter_9 rfl (fun c3 => ?_) (fun c3 => ?_)
    · replace hF := eg_it c3 hF
      exact eg_sub [] [] rfl (hk0 h (Option.some.inj hF).symm)
    · replace hF := eg_if c3 hF
      refine eg_aload_n (i := 0) 0 dX3_heightAfter_12 rfl rfl ?_
      refine eg_iload_n (i := 2) 2 dX3_heightAfter_13 rfl rfl ?_
      replace hF := eg_bind hF; obtain ⟨⟨v5, h4⟩, e6, hF⟩ := hF
      refine eg_callV (c := 3) (n := 1) [.int l2] dX3_heightAfter_14 (mX3_heightAt e6) rfl (fX3_heightAt_O e6) (Nat.le_of_ble_eq_true rfl) rfl ew_1286 ew_1287 ew_1288 ew_119 ew_1289 hy_X3_heightAt rfl (Nat.le_of_ble_eq_true rfl) (Nat.le_of_ble_eq_true rfl) (Nat.le_of_ble_eq_true rfl) ?_
      refine eg_aload_n (i := 0) 0 dX3_heightAfter_17 rfl rfl ?_
      refine eg_iload_n (i := 1) 1 dX3_heightAfter_18 rfl rfl ?_
      replace hF := eg_bind hF; obtain ⟨⟨v8, h7⟩, e9, hF⟩ := hF
      refine eg_callV (c := 3) (n := 1) [.int l1] dX3_heightAfter_19 (mX3_heightAt e9) rfl (fX3_heightAt_O e9) (Nat.le_of_ble_eq_true rfl) rfl ew_1286 ew_1287 ew_1288 ew_119 ew_1289 hy_X3_heightAt rfl (Nat.le_of_ble_eq_true rfl) (Nat.le_of_ble_eq_true rfl) (Nat.le_of_ble_eq_true rfl) ?_
      refine eg_ic_eq 31 dX3_heightAfter_22 rfl (fun c10 => ?_) (fun c10 => ?_)
      · replace hF := eg_it c10 hF
        refine eg_iinc (i := 2) (v := (l2 + (1 : Int32))) 2 [(2, .int (l2 + (1 : Int32))), (0, .ref l0), (1, .int l1)] dX3_heightAfter_31 rfl rfl (Nat.le_of_ble_eq_true rfl) rfl ?_
        refine eg_goto 4 dX3_heightAfter_34 rfl ?_
        exact eg_sub [1, 2, 0] [(0, .ref l0), (1, .int l1), (2, .int (l2 + (1 : Int32)))] rfl (hrec h7 l0 l1 (l2 + (1 : Int32)) hF)
      · replace hF := eg_if c10 hF
        exact eg_sub [0, 2] [(0, .ref l0), (2, .int l2)] rfl (hk1 l0 l2 h7 (Option.some.inj hF).symm)
def fX3_heightAfter (h : eg_H) (l0 : Nat) (l1 : Int32) : Option (Int32 × eg_H) :=
  if eg_isO h 3 l0 then (
    (some ((l1 + (1 : Int32)))).bind fun v1 =>
    (fX3_heightAfter_L4 eg_F h l0 l1 v1).bind fun e =>
    match e with
    | .inl h5 =>
      some ((-1 : Int32), h5)
    | .inr (p7, v8, h9) =>
      (fX3_heightAt h9 p7 v8).bind fun ⟨v11, h10⟩ =>
      some (v11, h10)) else none
theorem fX3_heightAfter_O {h : eg_H} {l0 : Nat} {l1 : Int32} {rE : Int32} {hE : eg_H} (hF : fX3_heightAfter h l0 l1 = some (rE, hE)) : eg_isO h 3 l0 := (eg_ifn hF).1
set_option maxRecDepth 20000 in
theorem mX3_heightAfter {h : eg_H} {l0 : Nat} {l1 : Int32} {rE : Int32} {hE : eg_H} (hF : fX3_heightAfter h l0 l1 = some (rE, hE)) : eg_Met yX3_heightAfter cX3_heightAfter 3 (some .int) 2 [.ref l0, .int l1] h (some (.int rE)) hE := by
  refine eg_enter rfl (Nat.le_of_ble_eq_true rfl) ?_
  show eg_AW (RX3, cX3_heightAfter, 3, 2, none, "heightAfter", (some .int)) (eg_Zm (some (.int rE)) hE h) (eg_nc hE) (eg_ns hE) h 0 [(0, .ref l0), (1, .int l1)] [] h
  replace hF := (eg_ifn hF).2
  refine eg_iload_n (i := 1) 1 dX3_heightAfter_0 rfl rfl ?_
  refine eg_iconst (v := (1 : Int32)) dX3_heightAfter_1 (by decide) ?_
  refine eg_iadd dX3_heightAfter_2 ?_
  replace hF := eg_bind hF; obtain ⟨v1, e2, hF⟩ := hF
  replace e2 := Option.some.inj e2
  rw [e2]
  refine eg_istore_n (i := 2) [(2, .int v1), (0, .ref l0), (1, .int l1)] dX3_heightAfter_3 rfl (Nat.le_of_ble_eq_true rfl) rfl ?_
  replace hF := eg_bind hF; obtain ⟨x4, e3, hF⟩ := hF
  refine eg_sub [1, 2, 0] [(0, .ref l0), (1, .int l1), (2, .int v1)] rfl (fX3_heightAfter_L4_ok eg_F h l0 l1 v1 x4 e3 ?_ ?_)
  · intro h5 e6
    subst e6
    refine eg_iconst (v := (-1 : Int32)) dX3_heightAfter_37 (by decide) ?_
    exact eg_iretE dX3_heightAfter_38 hF
  · intro p7 v8 h9 e13
    subst e13
    refine eg_aload_n (i := 0) 0 dX3_heightAfter_25 rfl rfl ?_
    refine eg_iload_n (i := 2) 1 dX3_heightAfter_26 rfl rfl ?_
    replace hF := eg_bind hF; obtain ⟨⟨v11, h10⟩, e12, hF⟩ := hF
    refine eg_callV (c := 3) (n := 1) [.int v8] dX3_heightAfter_27 (mX3_heightAt e12) rfl (fX3_heightAt_O e12) (Nat.le_of_ble_eq_true rfl) rfl ew_1286 ew_1287 ew_1288 ew_119 ew_1289 hy_X3_heightAt rfl (Nat.le_of_ble_eq_true rfl) (Nat.le_of_ble_eq_true rfl) (Nat.le_of_ble_eq_true rfl) ?_
    exact eg_iretE dX3_heightAfter_30 hF
theorem dX3_turns_0 : decode cX3_turns 0 = .ok (.iconst 0, 1) := by decide +kernel
theorem dX3_turns_1 : decode cX3_turns 1 = .ok (.istore_n 1, 1) := by decide +kernel
theorem dX3_turns_2 : decode cX3_turns 2 = .ok (.iconst 1, 1) := by decide +kernel
theorem dX3_turns_3 : decode cX3_turns 3 = .ok (.istore_n 2, 1) := by decide +kernel
theorem dX3_turns_4 : decode cX3_turns 4 = .ok (.iload_n 2, 1) := by decide +kernel
theorem dX3_turns_5 : decode cX3_turns 5 = .ok (.aload_n 0, 1) := by decide +kernel
theorem dX3_turns_6 : decode cX3_turns 6 = .ok (.getfield 25, 3) := by decide +kernel
theorem dX3_turns_9 : decode cX3_turns 9 = .ok (.if_icmp .ge 66, 3) := by decide +kernel
theorem dX3_turns_12 : decode cX3_turns 12 = .ok (.aload_n 0, 1) := by decide +kernel
theorem dX3_turns_13 : decode cX3_turns 13 = .ok (.iload_n 2, 1) := by decide +kernel
theorem dX3_turns_14 : decode cX3_turns 14 = .ok (.invokevirtual 28, 3) := by decide +kernel
theorem dX3_turns_17 : decode cX3_turns 17 = .ok (.aload_n 0, 1) := by decide +kernel
theorem dX3_turns_18 : decode cX3_turns 18 = .ok (.iload_n 2, 1) := by decide +kernel
theorem dX3_turns_19 : decode cX3_turns 19 = .ok (.iconst 1, 1) := by decide +kernel
theorem dX3_turns_20 : decode cX3_turns 20 = .ok (.isub, 1) := by decide +kernel
theorem dX3_turns_21 : decode cX3_turns 21 = .ok (.invokevirtual 28, 3) := by decide +kernel
theorem dX3_turns_24 : decode cX3_turns 24 = .ok (.isub, 1) := by decide +kernel
theorem dX3_turns_25 : decode cX3_turns 25 = .ok (.istore_n 3, 1) := by decide +kernel
theorem dX3_turns_26 : decode cX3_turns 26 = .ok (.aload_n 0, 1) := by decide +kernel
theorem dX3_turns_27 : decode cX3_turns 27 = .ok (.iload_n 2, 1) := by decide +kernel
theorem dX3_turns_28 : decode cX3_turns 28 = .ok (.invokevirtual 31, 3) := by decide +kernel
theorem dX3_turns_31 : decode cX3_turns 31 = .ok (.aload_n 0, 1) := by decide +kernel
theorem dX3_turns_32 : decode cX3_turns 32 = .ok (.iload_n 2, 1) := by decide +kernel
theorem dX3_turns_33 : decode cX3_turns 33 = .ok (.invokevirtual 28, 3) := by decide +kernel
theorem dX3_turns_36 : decode cX3_turns 36 = .ok (.isub, 1) := by decide +kernel
theorem dX3_turns_37 : decode cX3_turns 37 = .ok (.istore 4, 2) := by decide +kernel
theorem dX3_turns_39 : decode cX3_turns 39 = .ok (.aload_n 0, 1) := by decide +kernel
theorem dX3_turns_40 : decode cX3_turns 40 = .ok (.iload_n 2, 1) := by decide +kernel
theorem dX3_turns_41 : decode cX3_turns 41 = .ok (.invokevirtual 31, 3) := by decide +kernel
theorem dX3_turns_44 : decode cX3_turns 44 = .ok (.iconst (-1), 1) := by decide +kernel
theorem dX3_turns_45 : decode cX3_turns 45 = .ok (.if_icmp .eq 24, 3) := by decide +kernel
theorem dX3_turns_48 : decode cX3_turns 48 = .ok (.iload_n 3, 1) := by decide +kernel
theorem dX3_turns_49 : decode cX3_turns 49 = .ok (.ifCond .le 8, 3) := by decide +kernel
theorem dX3_turns_52 : decode cX3_turns 52 = .ok (.iload 4, 2) := by decide +kernel
theorem dX3_turns_54 : decode cX3_turns 54 = .ok (.ifCond .lt 12, 3) := by decide +kernel
theorem dX3_turns_57 : decode cX3_turns 57 = .ok (.iload_n 3, 1) := by decide +kernel
theorem dX3_turns_58 : decode cX3_turns 58 = .ok (.ifCond .ge 11, 3) := by decide +kernel
theorem dX3_turns_61 : decode cX3_turns 61 = .ok (.iload 4, 2) := by decide +kernel
theorem dX3_turns_63 : decode cX3_turns 63 = .ok (.ifCond .le 6, 3) := by decide +kernel
theorem dX3_turns_66 : decode cX3_turns 66 = .ok (.iinc 1 1, 3) := by decide +kernel
theorem dX3_turns_69 : decode cX3_turns 69 = .ok (.iinc 2 1, 3) := by decide +kernel
theorem dX3_turns_72 : decode cX3_turns 72 = .ok (.goto (-68), 3) := by decide +kernel
theorem dX3_turns_75 : decode cX3_turns 75 = .ok (.iload_n 1, 1) := by decide +kernel
theorem dX3_turns_76 : decode cX3_turns 76 = .ok (.ireturn, 1) := by decide +kernel
def fX3_turns_L4 : Nat → eg_H → Nat → Int32 → Int32 → Option (Int32 × eg_H)
  | 0, _, _, _, _ => none
  | n + 1, h, l0, l1, l2 =>
    (eg_gI h 3 1 l0).bind fun v1 =>
    if v1 ≤ l2 then
      (some (l1, h))
    else
      (fX3_heightAt h l0 l2).bind fun ⟨v5, h4⟩ =>
      (fX3_heightAt h4 l0 (l2 - (1 : Int32))).bind fun ⟨v8, h7⟩ =>
      (some ((v5 - v8))).bind fun v10 =>
      (fX3_heightAfter h7 l0 l2).bind fun ⟨v13, h12⟩ =>
      (fX3_heightAt h12 l0 l2).bind fun ⟨v16, h15⟩ =>
      (some ((v13 - v16))).bind fun v18 =>
      (fX3_heightAfter h15 l0 l2).bind fun ⟨v21, h20⟩ =>
      if v21 = (-1 : Int32) then
        (fX3_turns_L4 n h20 l0 l1 (l2 + (1 : Int32)))
      else
        if v10 ≤ 0 then
          (if 0 ≤ v10 then
            (fX3_turns_L4 n h20 l0 l1 (l2 + (1 : Int32)))
          else
            if v18 ≤ 0 then
              (fX3_turns_L4 n h20 l0 l1 (l2 + (1 : Int32)))
            else
              fX3_turns_L4 n h20 l0 (l1 + (1 : Int32)) (l2 + (1 : Int32)))
        else
          if v18 < 0 then
            (fX3_turns_L4 n h20 l0 (l1 + (1 : Int32)) (l2 + (1 : Int32)))
          else
            if 0 ≤ v10 then
              (fX3_turns_L4 n h20 l0 l1 (l2 + (1 : Int32)))
            else
              if v18 ≤ 0 then
                (fX3_turns_L4 n h20 l0 l1 (l2 + (1 : Int32)))
              else
                fX3_turns_L4 n h20 l0 (l1 + (1 : Int32)) (l2 + (1 : Int32))
set_option maxRecDepth 20000 in
theorem fX3_turns_L4_ok {h0 : eg_H} {Z : eg_C → State → Prop} {N S : Nat} : ∀ (n : Nat) (h : eg_H) (l0 : Nat) (l1 : Int32) (l2 : Int32) (eE : Int32 × eg_H), fX3_turns_L4 n h l0 l1 l2 = some eE → (hk0 : ∀ (l1 : Int32) (h : eg_H), eE = (l1, h) → eg_AW (RX3, cX3_turns, 5, 3, none, "turns", (some .int)) Z N S h0 75 [(1, .int l1)] [] h) → eg_AW (RX3, cX3_turns, 5, 3, none, "turns", (some .int)) Z N S h0 4 [(0, .ref l0), (1, .int l1), (2, .int l2)] [] h := by
  intro n
  induction n with
  | zero => intro h l0 l1 l2 eE hF; exact absurd hF (by intro q; cases q)
  | succ n ih =>
    intro h l0 l1 l2 eE hF hk0
    have hrec := fun (h' : eg_H) (l0 : Nat) (l1 : Int32) (l2 : Int32) hq => ih h' l0 l1 l2 eE hq hk0
    refine eg_iload_n (i := 2) 2 dX3_turns_4 rfl rfl ?_
    refine eg_aload_n (i := 0) 0 dX3_turns_5 rfl rfl ?_
    replace hF := eg_bind hF; obtain ⟨v1, e2, hF⟩ := hF
    refine eg_getI dX3_turns_6 e2 (Nat.le_of_ble_eq_true rfl) (Nat.le_of_ble_eq_true rfl) rfl ew_685 ?_
    refine eg_ic_ge 75 dX3_turns_9 rfl (fun c3 => ?_) (fun c3 => ?_)
    · replace hF := eg_it c3 hF
      exact eg_sub [1] [(1, .int l1)] rfl (hk0 l1 h (Option.some.inj hF).symm)
    · replace hF := eg_if c3 hF
      refine eg_aload_n (i := 0) 0 dX3_turns_12 rfl rfl ?_
      refine eg_iload_n (i := 2) 2 dX3_turns_13 rfl rfl ?_
      replace hF := eg_bind hF; obtain ⟨⟨v5, h4⟩, e6, hF⟩ := hF
      refine eg_callV (c := 3) (n := 1) [.int l2] dX3_turns_14 (mX3_heightAt e6) rfl (fX3_heightAt_O e6) (Nat.le_of_ble_eq_true rfl) rfl ew_1286 ew_1287 ew_1288 ew_119 ew_1289 hy_X3_heightAt rfl (Nat.le_of_ble_eq_true rfl) (Nat.le_of_ble_eq_true rfl) (Nat.le_of_ble_eq_true rfl) ?_
      refine eg_aload_n (i := 0) 0 dX3_turns_17 rfl rfl ?_
      refine eg_iload_n (i := 2) 2 dX3_turns_18 rfl rfl ?_
      refine eg_iconst (v := (1 : Int32)) dX3_turns_19 (by decide) ?_
      refine eg_isub dX3_turns_20 ?_
      replace hF := eg_bind hF; obtain ⟨⟨v8, h7⟩, e9, hF⟩ := hF
      refine eg_callV (c := 3) (n := 1) [.int (l2 - (1 : Int32))] dX3_turns_21 (mX3_heightAt e9) rfl (fX3_heightAt_O e9) (Nat.le_of_ble_eq_true rfl) rfl ew_1286 ew_1287 ew_1288 ew_119 ew_1289 hy_X3_heightAt rfl (Nat.le_of_ble_eq_true rfl) (Nat.le_of_ble_eq_true rfl) (Nat.le_of_ble_eq_true rfl) ?_
      refine eg_isub dX3_turns_24 ?_
      replace hF := eg_bind hF; obtain ⟨v10, e11, hF⟩ := hF
      replace e11 := Option.some.inj e11
      rw [e11]
      refine eg_istore_n (i := 3) [(3, .int v10), (0, .ref l0), (1, .int l1), (2, .int l2)] dX3_turns_25 rfl (Nat.le_of_ble_eq_true rfl) rfl ?_
      refine eg_aload_n (i := 0) 1 dX3_turns_26 rfl rfl ?_
      refine eg_iload_n (i := 2) 3 dX3_turns_27 rfl rfl ?_
      replace hF := eg_bind hF; obtain ⟨⟨v13, h12⟩, e14, hF⟩ := hF
      refine eg_callV (c := 3) (n := 1) [.int l2] dX3_turns_28 (mX3_heightAfter e14) rfl (fX3_heightAfter_O e14) (Nat.le_of_ble_eq_true rfl) rfl ew_1290 ew_1292 ew_48 ew_119 ew_1293 hy_X3_heightAfter rfl (Nat.le_of_ble_eq_true rfl) (Nat.le_of_ble_eq_true rfl) (Nat.le_of_ble_eq_true rfl) ?_
      refine eg_aload_n (i := 0) 1 dX3_turns_31 rfl rfl ?_
      refine eg_iload_n (i := 2) 3 dX3_turns_32 rfl rfl ?_
      replace hF := eg_bind hF; obtain ⟨⟨v16, h15⟩, e17, hF⟩ := hF
      refine eg_callV (c := 3) (n := 1) [.int l2] dX3_turns_33 (mX3_heightAt e17) rfl (fX3_heightAt_O e17) (Nat.le_of_ble_eq_true rfl) rfl ew_1286 ew_1287 ew_1288 ew_119 ew_1289 hy_X3_heightAt rfl (Nat.le_of_ble_eq_true rfl) (Nat.le_of_ble_eq_true rfl) (Nat.le_of_ble_eq_true rfl) ?_
      refine eg_isub dX3_turns_36 ?_
      replace hF := eg_bind hF; obtain ⟨v18, e19, hF⟩ := hF
      replace e19 := Option.some.inj e19
      rw [e19]
      refine eg_istore (i := 4) [(4, .int v18), (3, .int v10), (0, .ref l0), (1, .int l1), (2, .int l2)] dX3_turns_37 (Nat.le_of_ble_eq_true rfl) rfl ?_
      refine eg_aload_n (i := 0) 2 dX3_turns_39 rfl rfl ?_
      refine eg_iload_n (i := 2) 4 dX3_turns_40 rfl rfl ?_
      replace hF := eg_bind hF; obtain ⟨⟨v21, h20⟩, e22, hF⟩ := hF
      refine eg_callV (c := 3) (n := 1) [.int l2] dX3_turns_41 (mX3_heightAfter e22) rfl (fX3_heightAfter_O e22) (Nat.le_of_ble_eq_true rfl) rfl ew_1290 ew_1292 ew_48 ew_119 ew_1293 hy_X3_heightAfter rfl (Nat.le_of_ble_eq_true rfl) (Nat.le_of_ble_eq_true rfl) (Nat.le_of_ble_eq_true rfl) ?_
      refine eg_iconst (v := (-1 : Int32)) dX3_turns_44 (by decide) ?_
      refine eg_ic_eq 69 dX3_turns_45 rfl (fun c23 => ?_) (fun c23 => ?_)
      · replace hF := eg_it c23 hF
        refine eg_iinc (i := 2) (v := (l2 + (1 : Int32))) 4 [(2, .int (l2 + (1 : Int32))), (4, .int v18), (3, .int v10), (0, .ref l0), (1, .int l1)] dX3_turns_69 rfl rfl (Nat.le_of_ble_eq_true rfl) rfl ?_
        refine eg_goto 4 dX3_turns_72 rfl ?_
        exact eg_sub [3, 4, 0] [(0, .ref l0), (1, .int l1), (2, .int (l2 + (1 : Int32)))] rfl (hrec h20 l0 l1 (l2 + (1 : Int32)) hF)
      · replace hF := eg_if c23 hF
        refine eg_iload_n (i := 3) 1 dX3_turns_48 rfl rfl ?_
        refine eg_if_le 57 dX3_turns_49 rfl (fun c24 => ?_) (fun c24 => ?_)
        · replace hF := eg_it c24 hF
          refine eg_iload_n (i := 3) 1 dX3_turns_57 rfl rfl ?_
          refine eg_if_ge 69 dX3_turns_58 rfl (fun c25 => ?_) (fun c25 => ?_)
          · replace hF := eg_it c25 hF
            refine eg_iinc (i := 2) (v := (l2 + (1 : Int32))) 4 [(2, .int (l2 + (1 : Int32))), (4, .int v18), (3, .int v10), (0, .ref l0), (1, .int l1)] dX3_turns_69 rfl rfl (Nat.le_of_ble_eq_true rfl) rfl ?_
            refine eg_goto 4 dX3_turns_72 rfl ?_
            exact eg_sub [3, 4, 0] [(0, .ref l0), (1, .int l1), (2, .int (l2 + (1 : Int32)))] rfl (hrec h20 l0 l1 (l2 + (1 : Int32)) hF)
          · replace hF := eg_if c25 hF
            refine eg_iload (i := 4) 0 dX3_turns_61 rfl ?_
            refine eg_if_le 69 dX3_turns_63 rfl (fun c26 => ?_) (fun c26 => ?_)
            · replace hF := eg_it c26 hF
              refine eg_iinc (i := 2) (v := (l2 + (1 : Int32))) 4 [(2, .int (l2 + (1 : Int32))), (4, .int v18), (3, .int v10), (0, .ref l0), (1, .int l1)] dX3_turns_69 rfl rfl (Nat.le_of_ble_eq_true rfl) rfl ?_
              refine eg_goto 4 dX3_turns_72 rfl ?_
              exact eg_sub [3, 4, 0] [(0, .ref l0), (1, .int l1), (2, .int (l2 + (1 : Int32)))] rfl (hrec h20 l0 l1 (l2 + (1 : Int32)) hF)
            · replace hF := eg_if c26 hF
              refine eg_iinc (i := 1) (v := (l1 + (1 : Int32))) 3 [(1, .int (l1 + (1 : Int32))), (4, .int v18), (3, .int v10), (0, .ref l0), (2, .int l2)] dX3_turns_66 rfl rfl (Nat.le_of_ble_eq_true rfl) rfl ?_
              refine eg_iinc (i := 2) (v := (l2 + (1 : Int32))) 4 [(2, .int (l2 + (1 : Int32))), (1, .int (l1 + (1 : Int32))), (4, .int v18), (3, .int v10), (0, .ref l0)] dX3_turns_69 rfl rfl (Nat.le_of_ble_eq_true rfl) rfl ?_
              refine eg_goto 4 dX3_turns_72 rfl ?_
              exact eg_sub [4, 1, 0] [(0, .ref l0), (1, .int (l1 + (1 : Int32))), (2, .int (l2 + (1 : Int32)))] rfl (hrec h20 l0 (l1 + (1 : Int32)) (l2 + (1 : Int32)) hF)
        · replace hF := eg_if c24 hF
          refine eg_iload (i := 4) 0 dX3_turns_52 rfl ?_
          refine eg_if_lt 66 dX3_turns_54 rfl (fun c27 => ?_) (fun c27 => ?_)
          · replace hF := eg_it c27 hF
            refine eg_iinc (i := 1) (v := (l1 + (1 : Int32))) 3 [(1, .int (l1 + (1 : Int32))), (4, .int v18), (3, .int v10), (0, .ref l0), (2, .int l2)] dX3_turns_66 rfl rfl (Nat.le_of_ble_eq_true rfl) rfl ?_
            refine eg_iinc (i := 2) (v := (l2 + (1 : Int32))) 4 [(2, .int (l2 + (1 : Int32))), (1, .int (l1 + (1 : Int32))), (4, .int v18), (3, .int v10), (0, .ref l0)] dX3_turns_69 rfl rfl (Nat.le_of_ble_eq_true rfl) rfl ?_
            refine eg_goto 4 dX3_turns_72 rfl ?_
            exact eg_sub [4, 1, 0] [(0, .ref l0), (1, .int (l1 + (1 : Int32))), (2, .int (l2 + (1 : Int32)))] rfl (hrec h20 l0 (l1 + (1 : Int32)) (l2 + (1 : Int32)) hF)
          · replace hF := eg_if c27 hF
            refine eg_iload_n (i := 3) 1 dX3_turns_57 rfl rfl ?_
            refine eg_if_ge 69 dX3_turns_58 rfl (fun c28 => ?_) (fun c28 => ?_)
            · replace hF := eg_it c28 hF
              refine eg_iinc (i := 2) (v := (l2 + (1 : Int32))) 4 [(2, .int (l2 + (1 : Int32))), (4, .int v18), (3, .int v10), (0, .ref l0), (1, .int l1)] dX3_turns_69 rfl rfl (Nat.le_of_ble_eq_true rfl) rfl ?_
              refine eg_goto 4 dX3_turns_72 rfl ?_
              exact eg_sub [3, 4, 0] [(0, .ref l0), (1, .int l1), (2, .int (l2 + (1 : Int32)))] rfl (hrec h20 l0 l1 (l2 + (1 : Int32)) hF)
            · replace hF := eg_if c28 hF
              refine eg_iload (i := 4) 0 dX3_turns_61 rfl ?_
              refine eg_if_le 69 dX3_turns_63 rfl (fun c29 => ?_) (fun c29 => ?_)
              · replace hF := eg_it c29 hF
                refine eg_iinc (i := 2) (v := (l2 + (1 : Int32))) 4 [(2, .int (l2 + (1 : Int32))), (4, .int v18), (3, .int v10), (0, .ref l0), (1, .int l1)] dX3_turns_69 rfl rfl (Nat.le_of_ble_eq_true rfl) rfl ?_
                refine eg_goto 4 dX3_turns_72 rfl ?_
                exact eg_sub [3, 4, 0] [(0, .ref l0), (1, .int l1), (2, .int (l2 + (1 : Int32)))] rfl (hrec h20 l0 l1 (l2 + (1 : Int32)) hF)
              · replace hF := eg_if c29 hF
                refine eg_iinc (i := 1) (v := (l1 + (1 : Int32))) 3 [(1, .int (l1 + (1 : Int32))), (4, .int v18), (3, .int v10), (0, .ref l0), (2, .int l2)] dX3_turns_66 rfl rfl (Nat.le_of_ble_eq_true rfl) rfl ?_
                refine eg_iinc (i := 2) (v := (l2 + (1 : Int32))) 4 [(2, .int (l2 + (1 : Int32))), (1, .int (l1 + (1 : Int32))), (4, .int v18), (3, .int v10), (0, .ref l0)] dX3_turns_69 rfl rfl (Nat.le_of_ble_eq_true rfl) rfl ?_
                refine eg_goto 4 dX3_turns_72 rfl ?_
                exact eg_sub [4, 1, 0] [(0, .ref l0), (1, .int (l1 + (1 : Int32))), (2, .int (l2 + (1 : Int32)))] rfl (hrec h20 l0 (l1 + (1 : Int32)) (l2 + (1 : Int32)) hF)
def fX3_turns (h : eg_H) (l0 : Nat) : Option (Int32 × eg_H) :=
  if eg_isO h 3 l0 then (
    (fX3_turns_L4 eg_F h l0 (0 : Int32) (1 : Int32)).bind fun e =>
    match e with
    | (v3, h4) =>
      some (v3, h4)) else none
theorem fX3_turns_O {h : eg_H} {l0 : Nat} {rE : Int32} {hE : eg_H} (hF : fX3_turns h l0 = some (rE, hE)) : eg_isO h 3 l0 := (eg_ifn hF).1
set_option maxRecDepth 20000 in
theorem mX3_turns {h : eg_H} {l0 : Nat} {rE : Int32} {hE : eg_H} (hF : fX3_turns h l0 = some (rE, hE)) : eg_Met yX3_turns cX3_turns 5 (some .int) 3 [.ref l0] h (some (.int rE)) hE := by
  refine eg_enter rfl (Nat.le_of_ble_eq_true rfl) ?_
  show eg_AW (RX3, cX3_turns, 5, 3, none, "turns", (some .int)) (eg_Zm (some (.int rE)) hE h) (eg_nc hE) (eg_ns hE) h 0 [(0, .ref l0)] [] h
  replace hF := (eg_ifn hF).2
  refine eg_iconst (v := (0 : Int32)) dX3_turns_0 (by decide) ?_
  refine eg_istore_n (i := 1) [(1, .int (0 : Int32)), (0, .ref l0)] dX3_turns_1 rfl (Nat.le_of_ble_eq_true rfl) rfl ?_
  refine eg_iconst (v := (1 : Int32)) dX3_turns_2 (by decide) ?_
  refine eg_istore_n (i := 2) [(2, .int (1 : Int32)), (1, .int (0 : Int32)), (0, .ref l0)] dX3_turns_3 rfl (Nat.le_of_ble_eq_true rfl) rfl ?_
  replace hF := eg_bind hF; obtain ⟨x2, e1, hF⟩ := hF
  refine eg_sub [2, 1, 0] [(0, .ref l0), (1, .int (0 : Int32)), (2, .int (1 : Int32))] rfl (fX3_turns_L4_ok eg_F h l0 (0 : Int32) (1 : Int32) x2 e1 ?_)
  · intro v3 h4 e5
    subst e5
    refine eg_iload_n (i := 1) 0 dX3_turns_75 rfl rfl ?_
    exact eg_iretE dX3_turns_76 hF
theorem dX3_differsFrom_0 : decode cX3_differsFrom 0 = .ok (.iconst 0, 1) := by decide +kernel
theorem dX3_differsFrom_1 : decode cX3_differsFrom 1 = .ok (.istore_n 2, 1) := by decide +kernel
theorem dX3_differsFrom_2 : decode cX3_differsFrom 2 = .ok (.iconst 0, 1) := by decide +kernel
theorem dX3_differsFrom_3 : decode cX3_differsFrom 3 = .ok (.istore_n 3, 1) := by decide +kernel
theorem dX3_differsFrom_4 : decode cX3_differsFrom 4 = .ok (.iload_n 3, 1) := by decide +kernel
theorem dX3_differsFrom_5 : decode cX3_differsFrom 5 = .ok (.bipush 24, 2) := by decide +kernel
theorem dX3_differsFrom_7 : decode cX3_differsFrom 7 = .ok (.if_icmp .ge 25, 3) := by decide +kernel
theorem dX3_differsFrom_10 : decode cX3_differsFrom 10 = .ok (.aload_n 0, 1) := by decide +kernel
theorem dX3_differsFrom_11 : decode cX3_differsFrom 11 = .ok (.iload_n 3, 1) := by decide +kernel
theorem dX3_differsFrom_12 : decode cX3_differsFrom 12 = .ok (.invokevirtual 28, 3) := by decide +kernel
theorem dX3_differsFrom_15 : decode cX3_differsFrom 15 = .ok (.aload_n 1, 1) := by decide +kernel
theorem dX3_differsFrom_16 : decode cX3_differsFrom 16 = .ok (.iload_n 3, 1) := by decide +kernel
theorem dX3_differsFrom_17 : decode cX3_differsFrom 17 = .ok (.invokevirtual 28, 3) := by decide +kernel
theorem dX3_differsFrom_20 : decode cX3_differsFrom 20 = .ok (.if_icmp .eq 6, 3) := by decide +kernel
theorem dX3_differsFrom_23 : decode cX3_differsFrom 23 = .ok (.iinc 2 1, 3) := by decide +kernel
theorem dX3_differsFrom_26 : decode cX3_differsFrom 26 = .ok (.iinc 3 1, 3) := by decide +kernel
theorem dX3_differsFrom_29 : decode cX3_differsFrom 29 = .ok (.goto (-25), 3) := by decide +kernel
theorem dX3_differsFrom_32 : decode cX3_differsFrom 32 = .ok (.iload_n 2, 1) := by decide +kernel
theorem dX3_differsFrom_33 : decode cX3_differsFrom 33 = .ok (.ireturn, 1) := by decide +kernel
def fX3_differsFrom_L4 : Nat → eg_H → Nat → Nat → Int32 → Int32 → Option (Int32 × eg_H)
  | 0, _, _, _, _, _ => none
  | n + 1, h, l0, l1, l2, l3 =>
    if (24 : Int32) ≤ l3 then
      (some (l2, h))
    else
      (fX3_heightAt h l0 l3).bind fun ⟨v3, h2⟩ =>
      (fX3_heightAt h2 l1 l3).bind fun ⟨v6, h5⟩ =>
      if v3 = v6 then
        (fX3_differsFrom_L4 n h5 l0 l1 l2 (l3 + (1 : Int32)))
      else
        fX3_differsFrom_L4 n h5 l0 l1 (l2 + (1 : Int32)) (l3 + (1 : Int32))
set_option maxRecDepth 20000 in
theorem fX3_differsFrom_L4_ok {h0 : eg_H} {Z : eg_C → State → Prop} {N S : Nat} : ∀ (n : Nat) (h : eg_H) (l0 : Nat) (l1 : Nat) (l2 : Int32) (l3 : Int32) (eE : Int32 × eg_H), fX3_differsFrom_L4 n h l0 l1 l2 l3 = some eE → (hk0 : ∀ (l2 : Int32) (h : eg_H), eE = (l2, h) → eg_AW (RX3, cX3_differsFrom, 4, 2, none, "differsFrom", (some .int)) Z N S h0 32 [(2, .int l2)] [] h) → eg_AW (RX3, cX3_differsFrom, 4, 2, none, "differsFrom", (some .int)) Z N S h0 4 [(0, .ref l0), (1, .ref l1), (2, .int l2), (3, .int l3)] [] h := by
  intro n
  induction n with
  | zero => intro h l0 l1 l2 l3 eE hF; exact absurd hF (by intro q; cases q)
  | succ n ih =>
    intro h l0 l1 l2 l3 eE hF hk0
    have hrec := fun (h' : eg_H) (l0 : Nat) (l1 : Nat) (l2 : Int32) (l3 : Int32) hq => ih h' l0 l1 l2 l3 eE hq hk0
    refine eg_iload_n (i := 3) 3 dX3_differsFrom_4 rfl rfl ?_
    refine eg_bipush (v := (24 : Int32)) dX3_differsFrom_5 (by decide) ?_
    refine eg_ic_ge 32 dX3_differsFrom_7 rfl (fun c1 => ?_) (fun c1 => ?_)
    · replace hF := eg_it c1 hF
      exact eg_sub [2] [(2, .int l2)] rfl (hk0 l2 h (Option.some.inj hF).symm)
    · replace hF := eg_if c1 hF
      refine eg_aload_n (i := 0) 0 dX3_differsFrom_10 rfl rfl ?_
      refine eg_iload_n (i := 3) 3 dX3_differsFrom_11 rfl rfl ?_
      replace hF := eg_bind hF; obtain ⟨⟨v3, h2⟩, e4, hF⟩ := hF
      refine eg_callV (c := 3) (n := 1) [.int l3] dX3_differsFrom_12 (mX3_heightAt e4) rfl (fX3_heightAt_O e4) (Nat.le_of_ble_eq_true rfl) rfl ew_1286 ew_1287 ew_1288 ew_119 ew_1289 hy_X3_heightAt rfl (Nat.le_of_ble_eq_true rfl) (Nat.le_of_ble_eq_true rfl) (Nat.le_of_ble_eq_true rfl) ?_
      refine eg_aload_n (i := 1) 1 dX3_differsFrom_15 rfl rfl ?_
      refine eg_iload_n (i := 3) 3 dX3_differsFrom_16 rfl rfl ?_
      replace hF := eg_bind hF; obtain ⟨⟨v6, h5⟩, e7, hF⟩ := hF
      refine eg_callV (c := 3) (n := 1) [.int l3] dX3_differsFrom_17 (mX3_heightAt e7) rfl (fX3_heightAt_O e7) (Nat.le_of_ble_eq_true rfl) rfl ew_1286 ew_1287 ew_1288 ew_119 ew_1289 hy_X3_heightAt rfl (Nat.le_of_ble_eq_true rfl) (Nat.le_of_ble_eq_true rfl) (Nat.le_of_ble_eq_true rfl) ?_
      refine eg_ic_eq 26 dX3_differsFrom_20 rfl (fun c8 => ?_) (fun c8 => ?_)
      · replace hF := eg_it c8 hF
        refine eg_iinc (i := 3) (v := (l3 + (1 : Int32))) 3 [(3, .int (l3 + (1 : Int32))), (0, .ref l0), (1, .ref l1), (2, .int l2)] dX3_differsFrom_26 rfl rfl (Nat.le_of_ble_eq_true rfl) rfl ?_
        refine eg_goto 4 dX3_differsFrom_29 rfl ?_
        exact eg_sub [1, 2, 3, 0] [(0, .ref l0), (1, .ref l1), (2, .int l2), (3, .int (l3 + (1 : Int32)))] rfl (hrec h5 l0 l1 l2 (l3 + (1 : Int32)) hF)
      · replace hF := eg_if c8 hF
        refine eg_iinc (i := 2) (v := (l2 + (1 : Int32))) 2 [(2, .int (l2 + (1 : Int32))), (0, .ref l0), (1, .ref l1), (3, .int l3)] dX3_differsFrom_23 rfl rfl (Nat.le_of_ble_eq_true rfl) rfl ?_
        refine eg_iinc (i := 3) (v := (l3 + (1 : Int32))) 3 [(3, .int (l3 + (1 : Int32))), (2, .int (l2 + (1 : Int32))), (0, .ref l0), (1, .ref l1)] dX3_differsFrom_26 rfl rfl (Nat.le_of_ble_eq_true rfl) rfl ?_
        refine eg_goto 4 dX3_differsFrom_29 rfl ?_
        exact eg_sub [2, 3, 1, 0] [(0, .ref l0), (1, .ref l1), (2, .int (l2 + (1 : Int32))), (3, .int (l3 + (1 : Int32)))] rfl (hrec h5 l0 l1 (l2 + (1 : Int32)) (l3 + (1 : Int32)) hF)
def fX3_differsFrom (h : eg_H) (l0 : Nat) (l1 : Nat) : Option (Int32 × eg_H) :=
  if eg_isO h 3 l0 then (
    (fX3_differsFrom_L4 eg_F h l0 l1 (0 : Int32) (0 : Int32)).bind fun e =>
    match e with
    | (v3, h4) =>
      some (v3, h4)) else none
theorem fX3_differsFrom_O {h : eg_H} {l0 : Nat} {l1 : Nat} {rE : Int32} {hE : eg_H} (hF : fX3_differsFrom h l0 l1 = some (rE, hE)) : eg_isO h 3 l0 := (eg_ifn hF).1
set_option maxRecDepth 20000 in
theorem mX3_differsFrom {h : eg_H} {l0 : Nat} {l1 : Nat} {rE : Int32} {hE : eg_H} (hF : fX3_differsFrom h l0 l1 = some (rE, hE)) : eg_Met yX3_differsFrom cX3_differsFrom 4 (some .int) 2 [.ref l0, .ref l1] h (some (.int rE)) hE := by
  refine eg_enter rfl (Nat.le_of_ble_eq_true rfl) ?_
  show eg_AW (RX3, cX3_differsFrom, 4, 2, none, "differsFrom", (some .int)) (eg_Zm (some (.int rE)) hE h) (eg_nc hE) (eg_ns hE) h 0 [(0, .ref l0), (1, .ref l1)] [] h
  replace hF := (eg_ifn hF).2
  refine eg_iconst (v := (0 : Int32)) dX3_differsFrom_0 (by decide) ?_
  refine eg_istore_n (i := 2) [(2, .int (0 : Int32)), (0, .ref l0), (1, .ref l1)] dX3_differsFrom_1 rfl (Nat.le_of_ble_eq_true rfl) rfl ?_
  refine eg_iconst (v := (0 : Int32)) dX3_differsFrom_2 (by decide) ?_
  refine eg_istore_n (i := 3) [(3, .int (0 : Int32)), (2, .int (0 : Int32)), (0, .ref l0), (1, .ref l1)] dX3_differsFrom_3 rfl (Nat.le_of_ble_eq_true rfl) rfl ?_
  replace hF := eg_bind hF; obtain ⟨x2, e1, hF⟩ := hF
  refine eg_sub [2, 3, 1, 0] [(0, .ref l0), (1, .ref l1), (2, .int (0 : Int32)), (3, .int (0 : Int32))] rfl (fX3_differsFrom_L4_ok eg_F h l0 l1 (0 : Int32) (0 : Int32) x2 e1 ?_)
  · intro v3 h4 e5
    subst e5
    refine eg_iload_n (i := 2) 0 dX3_differsFrom_32 rfl rfl ?_
    exact eg_iretE dX3_differsFrom_33 hF
theorem dX5_init_0 : decode cX5_init 0 = .ok (.aload_n 0, 1) := by decide +kernel
theorem dX5_init_1 : decode cX5_init 1 = .ok (.invokespecial 3, 3) := by decide +kernel
theorem dX5_init_4 : decode cX5_init 4 = .ok (.aload_n 0, 1) := by decide +kernel
theorem dX5_init_5 : decode cX5_init 5 = .ok (.bipush 40, 2) := by decide +kernel
theorem dX5_init_7 : decode cX5_init 7 = .ok (.newarray .int, 2) := by decide +kernel
theorem dX5_init_9 : decode cX5_init 9 = .ok (.putfield 9, 3) := by decide +kernel
theorem dX5_init_12 : decode cX5_init 12 = .ok (.aload_n 0, 1) := by decide +kernel
theorem dX5_init_13 : decode cX5_init 13 = .ok (.iconst 5, 1) := by decide +kernel
theorem dX5_init_14 : decode cX5_init 14 = .ok (.newarray .int, 2) := by decide +kernel
theorem dX5_init_16 : decode cX5_init 16 = .ok (.putfield 15, 3) := by decide +kernel
theorem dX5_init_19 : decode cX5_init 19 = .ok (.aload_n 0, 1) := by decide +kernel
theorem dX5_init_20 : decode cX5_init 20 = .ok (.aload_n 1, 1) := by decide +kernel
theorem dX5_init_21 : decode cX5_init 21 = .ok (.iload_n 2, 1) := by decide +kernel
theorem dX5_init_22 : decode cX5_init 22 = .ok (.ifCond .lt 9, 3) := by decide +kernel
theorem dX5_init_25 : decode cX5_init 25 = .ok (.iload_n 2, 1) := by decide +kernel
theorem dX5_init_26 : decode cX5_init 26 = .ok (.aload_n 1, 1) := by decide +kernel
theorem dX5_init_27 : decode cX5_init 27 = .ok (.arraylength, 1) := by decide +kernel
theorem dX5_init_28 : decode cX5_init 28 = .ok (.if_icmp .le 7, 3) := by decide +kernel
theorem dX5_init_31 : decode cX5_init 31 = .ok (.iconst 0, 1) := by decide +kernel
theorem dX5_init_32 : decode cX5_init 32 = .ok (.goto 4, 3) := by decide +kernel
theorem dX5_init_35 : decode cX5_init 35 = .ok (.iload_n 2, 1) := by decide +kernel
theorem dX5_init_36 : decode cX5_init 36 = .ok (.invokestatic 18, 3) := by decide +kernel
theorem dX5_init_39 : decode cX5_init 39 = .ok (.putfield 24, 3) := by decide +kernel
theorem dX5_init_42 : decode cX5_init 42 = .ok (.return_, 1) := by decide +kernel
def fX5_init (h : eg_H) (l0 : Nat) (l1 : Nat) (l2 : Int32) : Option (eg_H) :=
  (eg_na h 100 (40 : Int32)).bind fun h2 =>
  (some (eg_nc h)).bind fun p1 =>
  (eg_pP h2 5 1 l0 (some p1)).bind fun h5 =>
  (eg_na h5 100 (5 : Int32)).bind fun h8 =>
  (some (eg_nc h5)).bind fun p7 =>
  (eg_pP h8 5 2 l0 (some p7)).bind fun h11 =>
  if l2 < 0 then
    ((fJ7_copyOf_59c91 h11 l1 (0 : Int32)).bind fun ⟨p15, h14⟩ =>
    (eg_pP h14 5 0 l0 (some p15)).bind fun h17 =>
    some h17)
  else
    (eg_al h11 l1).bind fun v19 =>
    if l2 ≤ v19 then
      ((fJ7_copyOf_59c91 h11 l1 l2).bind fun ⟨p23, h22⟩ =>
      (eg_pP h22 5 0 l0 (some p23)).bind fun h25 =>
      some h25)
    else
      (fJ7_copyOf_59c91 h11 l1 (0 : Int32)).bind fun ⟨p28, h27⟩ =>
      (eg_pP h27 5 0 l0 (some p28)).bind fun h30 =>
      some h30
set_option maxRecDepth 20000 in
theorem mX5_init {h : eg_H} {l0 : Nat} {l1 : Nat} {l2 : Int32} {hE : eg_H} (hF : fX5_init h l0 l1 l2 = some hE) : eg_Met yX5_init cX5_init 3 none 2 [.ref l0, .ref l1, .int l2] h none hE := by
  refine eg_enter rfl (Nat.le_of_ble_eq_true rfl) ?_
  show eg_AW (RX5, cX5_init, 3, 2, none, "<init>", none) (eg_Zm none hE h) (eg_nc hE) (eg_ns hE) h 0 [(0, .ref l0), (1, .ref l1), (2, .int l2)] [] h
  refine eg_aload_n (i := 0) 0 dX5_init_0 rfl rfl ?_
  refine eg_objInit dX5_init_1 ew_646 (Nat.le_of_ble_eq_true rfl) (Nat.le_of_ble_eq_true rfl) ?_
  refine eg_aload_n (i := 0) 0 dX5_init_4 rfl rfl ?_
  refine eg_bipush (v := (40 : Int32)) dX5_init_5 (by decide) ?_
  replace hF := eg_bind hF; obtain ⟨h2, e3, hF⟩ := hF
  replace hF := eg_bind hF; obtain ⟨p1, e4, hF⟩ := hF
  refine eg_newa .int dX5_init_7 e3 0 (Nat.le_of_ble_eq_true rfl) (Nat.le_of_ble_eq_true rfl) (Nat.le_of_ble_eq_true rfl) (fun _ => rfl) (by decide) rfl ew_156 ?_
  replace e4 := Option.some.inj e4
  rw [e4]
  replace hF := eg_bind hF; obtain ⟨h5, e6, hF⟩ := hF
  refine eg_putR dX5_init_9 e6 (Nat.le_of_ble_eq_true rfl) (Nat.le_of_ble_eq_true rfl) rfl ew_664 (Or.inr ⟨rfl, rfl, rfl⟩) ?_
  refine eg_aload_n (i := 0) 0 dX5_init_12 rfl rfl ?_
  refine eg_iconst (v := (5 : Int32)) dX5_init_13 (by decide) ?_
  replace hF := eg_bind hF; obtain ⟨h8, e9, hF⟩ := hF
  replace hF := eg_bind hF; obtain ⟨p7, e10, hF⟩ := hF
  refine eg_newa .int dX5_init_14 e9 0 (Nat.le_of_ble_eq_true rfl) (Nat.le_of_ble_eq_true rfl) (Nat.le_of_ble_eq_true rfl) (fun _ => rfl) (by decide) rfl ew_156 ?_
  replace e10 := Option.some.inj e10
  rw [e10]
  replace hF := eg_bind hF; obtain ⟨h11, e12, hF⟩ := hF
  refine eg_putR dX5_init_16 e12 (Nat.le_of_ble_eq_true rfl) (Nat.le_of_ble_eq_true rfl) rfl ew_665 (Or.inr ⟨rfl, rfl, rfl⟩) ?_
  refine eg_aload_n (i := 0) 0 dX5_init_19 rfl rfl ?_
  refine eg_aload_n (i := 1) 1 dX5_init_20 rfl rfl ?_
  refine eg_iload_n (i := 2) 2 dX5_init_21 rfl rfl ?_
  refine eg_if_lt 31 dX5_init_22 rfl (fun c13 => ?_) (fun c13 => ?_)
  · replace hF := eg_it c13 hF
    refine eg_iconst (v := (0 : Int32)) dX5_init_31 (by decide) ?_
    refine eg_goto 36 dX5_init_32 rfl ?_
    replace hF := eg_bind hF; obtain ⟨⟨p15, h14⟩, e16, hF⟩ := hF
    refine eg_callS (n := 2) [.ref l1, .int (0 : Int32)] dX5_init_36 (mJ7_copyOf_59c91 e16) rfl ew_647 ew_648 ew_117 ew_649 hy_J7_copyOf_59c91.2 rfl (Nat.le_of_ble_eq_true rfl) (Nat.le_of_ble_eq_true rfl) (Nat.le_of_ble_eq_true rfl) ?_
    replace hF := eg_bind hF; obtain ⟨h17, e18, hF⟩ := hF
    refine eg_putR dX5_init_39 e18 (Nat.le_of_ble_eq_true rfl) (Nat.le_of_ble_eq_true rfl) rfl ew_663 (Or.inr ⟨rfl, rfl, rfl⟩) ?_
    exact eg_vretE dX5_init_42 hF
  · replace hF := eg_if c13 hF
    refine eg_iload_n (i := 2) 2 dX5_init_25 rfl rfl ?_
    refine eg_aload_n (i := 1) 1 dX5_init_26 rfl rfl ?_
    replace hF := eg_bind hF; obtain ⟨v19, e20, hF⟩ := hF
    refine eg_alen dX5_init_27 e20 ?_
    refine eg_ic_le 35 dX5_init_28 rfl (fun c21 => ?_) (fun c21 => ?_)
    · replace hF := eg_it c21 hF
      refine eg_iload_n (i := 2) 2 dX5_init_35 rfl rfl ?_
      replace hF := eg_bind hF; obtain ⟨⟨p23, h22⟩, e24, hF⟩ := hF
      refine eg_callS (n := 2) [.ref l1, .int l2] dX5_init_36 (mJ7_copyOf_59c91 e24) rfl ew_647 ew_648 ew_117 ew_649 hy_J7_copyOf_59c91.2 rfl (Nat.le_of_ble_eq_true rfl) (Nat.le_of_ble_eq_true rfl) (Nat.le_of_ble_eq_true rfl) ?_
      replace hF := eg_bind hF; obtain ⟨h25, e26, hF⟩ := hF
      refine eg_putR dX5_init_39 e26 (Nat.le_of_ble_eq_true rfl) (Nat.le_of_ble_eq_true rfl) rfl ew_663 (Or.inr ⟨rfl, rfl, rfl⟩) ?_
      exact eg_vretE dX5_init_42 hF
    · replace hF := eg_if c21 hF
      refine eg_iconst (v := (0 : Int32)) dX5_init_31 (by decide) ?_
      refine eg_goto 36 dX5_init_32 rfl ?_
      replace hF := eg_bind hF; obtain ⟨⟨p28, h27⟩, e29, hF⟩ := hF
      refine eg_callS (n := 2) [.ref l1, .int (0 : Int32)] dX5_init_36 (mJ7_copyOf_59c91 e29) rfl ew_647 ew_648 ew_117 ew_649 hy_J7_copyOf_59c91.2 rfl (Nat.le_of_ble_eq_true rfl) (Nat.le_of_ble_eq_true rfl) (Nat.le_of_ble_eq_true rfl) ?_
      replace hF := eg_bind hF; obtain ⟨h30, e31, hF⟩ := hF
      refine eg_putR dX5_init_39 e31 (Nat.le_of_ble_eq_true rfl) (Nat.le_of_ble_eq_true rfl) rfl ew_663 (Or.inr ⟨rfl, rfl, rfl⟩) ?_
      exact eg_vretE dX5_init_42 hF
