theorem dX12_undo_0 : decode cX12_undo 0 = .ok (.aload_n 0, 1) := by decide +kernel
theorem dX12_undo_1 : decode cX12_undo 1 = .ok (.getfield 73, 3) := by decide +kernel
theorem dX12_undo_4 : decode cX12_undo 4 = .ok (.invokevirtual 454, 3) := by decide +kernel
theorem dX12_undo_7 : decode cX12_undo 7 = .ok (.ifCond .ne 5, 3) := by decide +kernel
theorem dX12_undo_10 : decode cX12_undo 10 = .ok (.iconst (-1), 1) := by decide +kernel
theorem dX12_undo_11 : decode cX12_undo 11 = .ok (.ireturn, 1) := by decide +kernel
theorem dX12_undo_12 : decode cX12_undo 12 = .ok (.aload_n 0, 1) := by decide +kernel
theorem dX12_undo_13 : decode cX12_undo 13 = .ok (.getfield 73, 3) := by decide +kernel
theorem dX12_undo_16 : decode cX12_undo 16 = .ok (.invokevirtual 484, 3) := by decide +kernel
theorem dX12_undo_19 : decode cX12_undo 19 = .ok (.aload_n 0, 1) := by decide +kernel
theorem dX12_undo_20 : decode cX12_undo 20 = .ok (.getfield 73, 3) := by decide +kernel
theorem dX12_undo_23 : decode cX12_undo 23 = .ok (.invokevirtual 454, 3) := by decide +kernel
theorem dX12_undo_26 : decode cX12_undo 26 = .ok (.ireturn, 1) := by decide +kernel
def fX12_undo (h : eg_H) (l0 : Nat) : Option (Int32 × eg_H) :=
  if eg_isO h 12 l0 then (
    (eg_gR h 12 11 l0).bind fun p1 =>
    (fX1_size h p1).bind fun ⟨v4, h3⟩ =>
    if v4 = 0 then
      (some ((-1 : Int32), h3))
    else
      (eg_gR h3 12 11 l0).bind fun p7 =>
      (fX1_dropLatest h3 p7).bind fun h9 =>
      (eg_gR h9 12 11 l0).bind fun p11 =>
      (fX1_size h9 p11).bind fun ⟨v14, h13⟩ =>
      some (v14, h13)) else none
theorem fX12_undo_O {h : eg_H} {l0 : Nat} {rE : Int32} {hE : eg_H} (hF : fX12_undo h l0 = some (rE, hE)) : eg_isO h 12 l0 := (eg_ifn hF).1
set_option maxRecDepth 20000 in
theorem mX12_undo {h : eg_H} {l0 : Nat} {rE : Int32} {hE : eg_H} (hF : fX12_undo h l0 = some (rE, hE)) : eg_Met yX12_undo cX12_undo 1 (some .int) 2 [.ref l0] h (some (.int rE)) hE := by
  refine eg_enter rfl (Nat.le_of_ble_eq_true rfl) ?_
  show eg_AW (RX12, cX12_undo, 1, 2, none, "undo", (some .int)) (eg_Zm (some (.int rE)) hE h) (eg_nc hE) (eg_ns hE) h 0 [(0, .ref l0)] [] h
  replace hF := (eg_ifn hF).2
  refine eg_aload_n (i := 0) 0 dX12_undo_0 rfl rfl ?_
  replace hF := eg_bind hF; obtain ⟨p1, e2, hF⟩ := hF
  refine eg_getR dX12_undo_1 e2 (Nat.le_of_ble_eq_true rfl) (Nat.le_of_ble_eq_true rfl) rfl ew_367 ?_
  replace hF := eg_bind hF; obtain ⟨⟨v4, h3⟩, e5, hF⟩ := hF
  refine eg_callV (c := 1) (n := 0) [] dX12_undo_4 (mX1_size e5) rfl (fX1_size_O e5) (Nat.le_of_ble_eq_true rfl) rfl ew_1246 ew_1247 ew_1248 ew_105 ew_1249 hy_X1_size rfl (Nat.le_of_ble_eq_true rfl) (Nat.le_of_ble_eq_true rfl) (Nat.le_of_ble_eq_true rfl) ?_
  refine eg_if_ne 12 dX12_undo_7 rfl (fun c6 => ?_) (fun c6 => ?_)
  · replace hF := eg_it c6 hF
    refine eg_iconst (v := (-1 : Int32)) dX12_undo_10 (by decide) ?_
    exact eg_iretE dX12_undo_11 hF
  · replace hF := eg_if c6 hF
    refine eg_aload_n (i := 0) 0 dX12_undo_12 rfl rfl ?_
    replace hF := eg_bind hF; obtain ⟨p7, e8, hF⟩ := hF
    refine eg_getR dX12_undo_13 e8 (Nat.le_of_ble_eq_true rfl) (Nat.le_of_ble_eq_true rfl) rfl ew_367 ?_
    replace hF := eg_bind hF; obtain ⟨h9, e10, hF⟩ := hF
    refine eg_callV (c := 1) (n := 0) [] dX12_undo_16 (mX1_dropLatest e10) rfl (fX1_dropLatest_O e10) (Nat.le_of_ble_eq_true rfl) rfl ew_1329 ew_1330 ew_1331 ew_105 ew_1332 hy_X1_dropLatest rfl (Nat.le_of_ble_eq_true rfl) (Nat.le_of_ble_eq_true rfl) (Nat.le_of_ble_eq_true rfl) ?_
    refine eg_aload_n (i := 0) 0 dX12_undo_19 rfl rfl ?_
    replace hF := eg_bind hF; obtain ⟨p11, e12, hF⟩ := hF
    refine eg_getR dX12_undo_20 e12 (Nat.le_of_ble_eq_true rfl) (Nat.le_of_ble_eq_true rfl) rfl ew_367 ?_
    replace hF := eg_bind hF; obtain ⟨⟨v14, h13⟩, e15, hF⟩ := hF
    refine eg_callV (c := 1) (n := 0) [] dX12_undo_23 (mX1_size e15) rfl (fX1_size_O e15) (Nat.le_of_ble_eq_true rfl) rfl ew_1246 ew_1247 ew_1248 ew_105 ew_1249 hy_X1_size rfl (Nat.le_of_ble_eq_true rfl) (Nat.le_of_ble_eq_true rfl) (Nat.le_of_ble_eq_true rfl) ?_
    exact eg_iretE dX12_undo_26 hF
theorem dX12_image_0 : decode cX12_image 0 = .ok (.aload_n 0, 1) := by decide +kernel
theorem dX12_image_1 : decode cX12_image 1 = .ok (.getfield 35, 3) := by decide +kernel
theorem dX12_image_4 : decode cX12_image 4 = .ok (.invokevirtual 188, 3) := by decide +kernel
theorem dX12_image_7 : decode cX12_image 7 = .ok (.ifCond .ne 5, 3) := by decide +kernel
theorem dX12_image_10 : decode cX12_image 10 = .ok (.iconst (-1), 1) := by decide +kernel
theorem dX12_image_11 : decode cX12_image 11 = .ok (.ireturn, 1) := by decide +kernel
theorem dX12_image_12 : decode cX12_image 12 = .ok (.iconst 0, 1) := by decide +kernel
theorem dX12_image_13 : decode cX12_image 13 = .ok (.istore_n 1, 1) := by decide +kernel
theorem dX12_image_14 : decode cX12_image 14 = .ok (.iload_n 1, 1) := by decide +kernel
theorem dX12_image_15 : decode cX12_image 15 = .ok (.iconst 4, 1) := by decide +kernel
theorem dX12_image_16 : decode cX12_image 16 = .ok (.if_icmp .ge 23, 3) := by decide +kernel
theorem dX12_image_19 : decode cX12_image 19 = .ok (.aload_n 0, 1) := by decide +kernel
theorem dX12_image_20 : decode cX12_image 20 = .ok (.getfield 79, 3) := by decide +kernel
theorem dX12_image_23 : decode cX12_image 23 = .ok (.iload_n 1, 1) := by decide +kernel
theorem dX12_image_24 : decode cX12_image 24 = .ok (.aload_n 0, 1) := by decide +kernel
theorem dX12_image_25 : decode cX12_image 25 = .ok (.getfield 35, 3) := by decide +kernel
theorem dX12_image_28 : decode cX12_image 28 = .ok (.iload_n 1, 1) := by decide +kernel
theorem dX12_image_29 : decode cX12_image 29 = .ok (.invokevirtual 209, 3) := by decide +kernel
theorem dX12_image_32 : decode cX12_image 32 = .ok (.iastore, 1) := by decide +kernel
theorem dX12_image_33 : decode cX12_image 33 = .ok (.iinc 1 1, 3) := by decide +kernel
theorem dX12_image_36 : decode cX12_image 36 = .ok (.goto (-22), 3) := by decide +kernel
theorem dX12_image_39 : decode cX12_image 39 = .ok (.aload_n 0, 1) := by decide +kernel
theorem dX12_image_40 : decode cX12_image 40 = .ok (.getfield 76, 3) := by decide +kernel
theorem dX12_image_43 : decode cX12_image 43 = .ok (.aload_n 0, 1) := by decide +kernel
theorem dX12_image_44 : decode cX12_image 44 = .ok (.getfield 73, 3) := by decide +kernel
theorem dX12_image_47 : decode cX12_image 47 = .ok (.invokevirtual 487, 3) := by decide +kernel
theorem dX12_image_50 : decode cX12_image 50 = .ok (.aload_n 0, 1) := by decide +kernel
theorem dX12_image_51 : decode cX12_image 51 = .ok (.iconst 1, 1) := by decide +kernel
theorem dX12_image_52 : decode cX12_image 52 = .ok (.putfield 83, 3) := by decide +kernel
theorem dX12_image_55 : decode cX12_image 55 = .ok (.aload_n 0, 1) := by decide +kernel
theorem dX12_image_56 : decode cX12_image 56 = .ok (.getfield 73, 3) := by decide +kernel
theorem dX12_image_59 : decode cX12_image 59 = .ok (.invokevirtual 454, 3) := by decide +kernel
theorem dX12_image_62 : decode cX12_image 62 = .ok (.ireturn, 1) := by decide +kernel
def fX12_image_L14 : Nat → eg_H → Nat → Int32 → Option (Nat × eg_H)
  | 0, _, _, _ => none
  | n + 1, h, l0, l1 =>
    if (4 : Int32) ≤ l1 then
      (some (l0, h))
    else
      (eg_gR h 12 13 l0).bind fun p2 =>
      (eg_gR h 12 3 l0).bind fun p4 =>
      (fX7_told h p4 l1).bind fun ⟨v7, h6⟩ =>
      (eg_wI h6 100 p2 l1 v7).bind fun h9 =>
      fX12_image_L14 n h9 l0 (l1 + (1 : Int32))
set_option maxRecDepth 20000 in
theorem fX12_image_L14_ok {h0 : eg_H} {Z : eg_C → State → Prop} {N S : Nat} : ∀ (n : Nat) (h : eg_H) (l0 : Nat) (l1 : Int32) (eE : Nat × eg_H), fX12_image_L14 n h l0 l1 = some eE → (hk0 : ∀ (l0 : Nat) (h : eg_H), eE = (l0, h) → eg_AW (RX12, cX12_image, 2, 3, none, "image", (some .int)) Z N S h0 39 [(0, .ref l0)] [] h) → eg_AW (RX12, cX12_image, 2, 3, none, "image", (some .int)) Z N S h0 14 [(0, .ref l0), (1, .int l1)] [] h := by
  intro n
  induction n with
  | zero => intro h l0 l1 eE hF; exact absurd hF (by intro q; cases q)
  | succ n ih =>
    intro h l0 l1 eE hF hk0
    have hrec := fun (h' : eg_H) (l0 : Nat) (l1 : Int32) hq => ih h' l0 l1 eE hq hk0
    refine eg_iload_n (i := 1) 1 dX12_image_14 rfl rfl ?_
    refine eg_iconst (v := (4 : Int32)) dX12_image_15 (by decide) ?_
    refine eg_ic_ge 39 dX12_image_16 rfl (fun c1 => ?_) (fun c1 => ?_)
    · replace hF := eg_it c1 hF
      exact eg_sub [0] [(0, .ref l0)] rfl (hk0 l0 h (Option.some.inj hF).symm)
    · replace hF := eg_if c1 hF
      refine eg_aload_n (i := 0) 0 dX12_image_19 rfl rfl ?_
      replace hF := eg_bind hF; obtain ⟨p2, e3, hF⟩ := hF
      refine eg_getR dX12_image_20 e3 (Nat.le_of_ble_eq_true rfl) (Nat.le_of_ble_eq_true rfl) rfl ew_369 ?_
      refine eg_iload_n (i := 1) 1 dX12_image_23 rfl rfl ?_
      refine eg_aload_n (i := 0) 0 dX12_image_24 rfl rfl ?_
      replace hF := eg_bind hF; obtain ⟨p4, e5, hF⟩ := hF
      refine eg_getR dX12_image_25 e5 (Nat.le_of_ble_eq_true rfl) (Nat.le_of_ble_eq_true rfl) rfl ew_359 ?_
      refine eg_iload_n (i := 1) 1 dX12_image_28 rfl rfl ?_
      replace hF := eg_bind hF; obtain ⟨⟨v7, h6⟩, e8, hF⟩ := hF
      refine eg_callV (c := 7) (n := 1) [.int l1] dX12_image_29 (mX7_told e8) rfl (fX7_told_O e8) (Nat.le_of_ble_eq_true rfl) rfl ew_717 ew_718 ew_719 ew_104 ew_720 hy_X7_told rfl (Nat.le_of_ble_eq_true rfl) (Nat.le_of_ble_eq_true rfl) (Nat.le_of_ble_eq_true rfl) ?_
      replace hF := eg_bind hF; obtain ⟨h9, e10, hF⟩ := hF
      refine eg_iast dX12_image_32 e10 ?_
      refine eg_iinc (i := 1) (v := (l1 + (1 : Int32))) 1 [(1, .int (l1 + (1 : Int32))), (0, .ref l0)] dX12_image_33 rfl rfl (Nat.le_of_ble_eq_true rfl) rfl ?_
      refine eg_goto 14 dX12_image_36 rfl ?_
      exact eg_sub [1, 0] [(0, .ref l0), (1, .int (l1 + (1 : Int32)))] rfl (hrec h9 l0 (l1 + (1 : Int32)) hF)
def fX12_image (h : eg_H) (l0 : Nat) : Option (Int32 × eg_H) :=
  if eg_isO h 12 l0 then (
    (eg_gR h 12 3 l0).bind fun p1 =>
    (fX7_isTold h p1).bind fun ⟨v4, h3⟩ =>
    if v4 = 0 then
      (some ((-1 : Int32), h3))
    else
      (fX12_image_L14 eg_F h3 l0 (0 : Int32)).bind fun e =>
      match e with
      | (p9, h10) =>
        (eg_gR h10 12 12 p9).bind fun p11 =>
        (eg_gR h10 12 11 p9).bind fun p13 =>
        (fX1_copyFrom h10 p11 p13).bind fun h15 =>
        (eg_pZ h15 12 14 p9 (1 : Int32)).bind fun h17 =>
        (eg_gR h17 12 11 p9).bind fun p19 =>
        (fX1_size h17 p19).bind fun ⟨v22, h21⟩ =>
        some (v22, h21)) else none
theorem fX12_image_O {h : eg_H} {l0 : Nat} {rE : Int32} {hE : eg_H} (hF : fX12_image h l0 = some (rE, hE)) : eg_isO h 12 l0 := (eg_ifn hF).1
set_option maxRecDepth 20000 in
theorem mX12_image {h : eg_H} {l0 : Nat} {rE : Int32} {hE : eg_H} (hF : fX12_image h l0 = some (rE, hE)) : eg_Met yX12_image cX12_image 2 (some .int) 3 [.ref l0] h (some (.int rE)) hE := by
  refine eg_enter rfl (Nat.le_of_ble_eq_true rfl) ?_
  show eg_AW (RX12, cX12_image, 2, 3, none, "image", (some .int)) (eg_Zm (some (.int rE)) hE h) (eg_nc hE) (eg_ns hE) h 0 [(0, .ref l0)] [] h
  replace hF := (eg_ifn hF).2
  refine eg_aload_n (i := 0) 0 dX12_image_0 rfl rfl ?_
  replace hF := eg_bind hF; obtain ⟨p1, e2, hF⟩ := hF
  refine eg_getR dX12_image_1 e2 (Nat.le_of_ble_eq_true rfl) (Nat.le_of_ble_eq_true rfl) rfl ew_359 ?_
  replace hF := eg_bind hF; obtain ⟨⟨v4, h3⟩, e5, hF⟩ := hF
  refine eg_callV (c := 7) (n := 0) [] dX12_image_4 (mX7_isTold e5) rfl (fX7_isTold_O e5) (Nat.le_of_ble_eq_true rfl) rfl ew_707 ew_708 ew_709 ew_104 ew_710 hy_X7_isTold rfl (Nat.le_of_ble_eq_true rfl) (Nat.le_of_ble_eq_true rfl) (Nat.le_of_ble_eq_true rfl) ?_
  refine eg_if_ne 12 dX12_image_7 rfl (fun c6 => ?_) (fun c6 => ?_)
  · replace hF := eg_it c6 hF
    refine eg_iconst (v := (-1 : Int32)) dX12_image_10 (by decide) ?_
    exact eg_iretE dX12_image_11 hF
  · replace hF := eg_if c6 hF
    refine eg_iconst (v := (0 : Int32)) dX12_image_12 (by decide) ?_
    refine eg_istore_n (i := 1) [(1, .int (0 : Int32)), (0, .ref l0)] dX12_image_13 rfl (Nat.le_of_ble_eq_true rfl) rfl ?_
    replace hF := eg_bind hF; obtain ⟨x8, e7, hF⟩ := hF
    refine eg_sub [1, 0] [(0, .ref l0), (1, .int (0 : Int32))] rfl (fX12_image_L14_ok eg_F h3 l0 (0 : Int32) x8 e7 ?_)
    · intro p9 h10 e24
      subst e24
      refine eg_aload_n (i := 0) 0 dX12_image_39 rfl rfl ?_
      replace hF := eg_bind hF; obtain ⟨p11, e12, hF⟩ := hF
      refine eg_getR dX12_image_40 e12 (Nat.le_of_ble_eq_true rfl) (Nat.le_of_ble_eq_true rfl) rfl ew_368 ?_
      refine eg_aload_n (i := 0) 0 dX12_image_43 rfl rfl ?_
      replace hF := eg_bind hF; obtain ⟨p13, e14, hF⟩ := hF
      refine eg_getR dX12_image_44 e14 (Nat.le_of_ble_eq_true rfl) (Nat.le_of_ble_eq_true rfl) rfl ew_367 ?_
      replace hF := eg_bind hF; obtain ⟨h15, e16, hF⟩ := hF
      refine eg_callV (c := 1) (n := 1) [.ref p13] dX12_image_47 (mX1_copyFrom e16) rfl (fX1_copyFrom_O e16) (Nat.le_of_ble_eq_true rfl) rfl ew_1337 ew_1338 ew_1339 ew_105 ew_1340 hy_X1_copyFrom rfl (Nat.le_of_ble_eq_true rfl) (Nat.le_of_ble_eq_true rfl) (Nat.le_of_ble_eq_true rfl) ?_
      refine eg_aload_n (i := 0) 0 dX12_image_50 rfl rfl ?_
      refine eg_iconst (v := (1 : Int32)) dX12_image_51 (by decide) ?_
      replace hF := eg_bind hF; obtain ⟨h17, e18, hF⟩ := hF
      refine eg_putZ dX12_image_52 e18 (Nat.le_of_ble_eq_true rfl) (Nat.le_of_ble_eq_true rfl) rfl ew_370 rfl ?_
      refine eg_aload_n (i := 0) 0 dX12_image_55 rfl rfl ?_
      replace hF := eg_bind hF; obtain ⟨p19, e20, hF⟩ := hF
      refine eg_getR dX12_image_56 e20 (Nat.le_of_ble_eq_true rfl) (Nat.le_of_ble_eq_true rfl) rfl ew_367 ?_
      replace hF := eg_bind hF; obtain ⟨⟨v22, h21⟩, e23, hF⟩ := hF
      refine eg_callV (c := 1) (n := 0) [] dX12_image_59 (mX1_size e23) rfl (fX1_size_O e23) (Nat.le_of_ble_eq_true rfl) rfl ew_1246 ew_1247 ew_1248 ew_105 ew_1249 hy_X1_size rfl (Nat.le_of_ble_eq_true rfl) (Nat.le_of_ble_eq_true rfl) (Nat.le_of_ble_eq_true rfl) ?_
      exact eg_iretE dX12_image_62 hF
theorem dX12_back_0 : decode cX12_back 0 = .ok (.aload_n 0, 1) := by decide +kernel
theorem dX12_back_1 : decode cX12_back 1 = .ok (.getfield 83, 3) := by decide +kernel
theorem dX12_back_4 : decode cX12_back 4 = .ok (.ifCond .ne 5, 3) := by decide +kernel
theorem dX12_back_7 : decode cX12_back 7 = .ok (.iconst (-1), 1) := by decide +kernel
theorem dX12_back_8 : decode cX12_back 8 = .ok (.ireturn, 1) := by decide +kernel
theorem dX12_back_9 : decode cX12_back 9 = .ok (.iconst 0, 1) := by decide +kernel
theorem dX12_back_10 : decode cX12_back 10 = .ok (.istore_n 1, 1) := by decide +kernel
theorem dX12_back_11 : decode cX12_back 11 = .ok (.iload_n 1, 1) := by decide +kernel
theorem dX12_back_12 : decode cX12_back 12 = .ok (.iconst 4, 1) := by decide +kernel
theorem dX12_back_13 : decode cX12_back 13 = .ok (.if_icmp .ge 23, 3) := by decide +kernel
theorem dX12_back_16 : decode cX12_back 16 = .ok (.aload_n 0, 1) := by decide +kernel
theorem dX12_back_17 : decode cX12_back 17 = .ok (.getfield 35, 3) := by decide +kernel
theorem dX12_back_20 : decode cX12_back 20 = .ok (.iload_n 1, 1) := by decide +kernel
theorem dX12_back_21 : decode cX12_back 21 = .ok (.aload_n 0, 1) := by decide +kernel
theorem dX12_back_22 : decode cX12_back 22 = .ok (.getfield 79, 3) := by decide +kernel
theorem dX12_back_25 : decode cX12_back 25 = .ok (.iload_n 1, 1) := by decide +kernel
theorem dX12_back_26 : decode cX12_back 26 = .ok (.iaload, 1) := by decide +kernel
theorem dX12_back_27 : decode cX12_back 27 = .ok (.invokevirtual 212, 3) := by decide +kernel
theorem dX12_back_30 : decode cX12_back 30 = .ok (.iinc 1 1, 3) := by decide +kernel
theorem dX12_back_33 : decode cX12_back 33 = .ok (.goto (-22), 3) := by decide +kernel
theorem dX12_back_36 : decode cX12_back 36 = .ok (.aload_n 0, 1) := by decide +kernel
theorem dX12_back_37 : decode cX12_back 37 = .ok (.getfield 73, 3) := by decide +kernel
theorem dX12_back_40 : decode cX12_back 40 = .ok (.aload_n 0, 1) := by decide +kernel
theorem dX12_back_41 : decode cX12_back 41 = .ok (.getfield 76, 3) := by decide +kernel
theorem dX12_back_44 : decode cX12_back 44 = .ok (.invokevirtual 487, 3) := by decide +kernel
theorem dX12_back_47 : decode cX12_back 47 = .ok (.aload_n 0, 1) := by decide +kernel
theorem dX12_back_48 : decode cX12_back 48 = .ok (.getfield 101, 3) := by decide +kernel
theorem dX12_back_51 : decode cX12_back 51 = .ok (.invokevirtual 200, 3) := by decide +kernel
theorem dX12_back_54 : decode cX12_back 54 = .ok (.aload_n 0, 1) := by decide +kernel
theorem dX12_back_55 : decode cX12_back 55 = .ok (.getfield 73, 3) := by decide +kernel
theorem dX12_back_58 : decode cX12_back 58 = .ok (.invokevirtual 454, 3) := by decide +kernel
theorem dX12_back_61 : decode cX12_back 61 = .ok (.ireturn, 1) := by decide +kernel
def fX12_back_L11 : Nat → eg_H → Nat → Int32 → Option (Nat × eg_H)
  | 0, _, _, _ => none
  | n + 1, h, l0, l1 =>
    if (4 : Int32) ≤ l1 then
      (some (l0, h))
    else
      (eg_gR h 12 3 l0).bind fun p2 =>
      (eg_gR h 12 13 l0).bind fun p4 =>
      (eg_aI h 100 p4 l1).bind fun v6 =>
      (fX7_tell h p2 l1 v6).bind fun h8 =>
      fX12_back_L11 n h8 l0 (l1 + (1 : Int32))
set_option maxRecDepth 20000 in
theorem fX12_back_L11_ok {h0 : eg_H} {Z : eg_C → State → Prop} {N S : Nat} : ∀ (n : Nat) (h : eg_H) (l0 : Nat) (l1 : Int32) (eE : Nat × eg_H), fX12_back_L11 n h l0 l1 = some eE → (hk0 : ∀ (l0 : Nat) (h : eg_H), eE = (l0, h) → eg_AW (RX12, cX12_back, 2, 3, none, "back", (some .int)) Z N S h0 36 [(0, .ref l0)] [] h) → eg_AW (RX12, cX12_back, 2, 3, none, "back", (some .int)) Z N S h0 11 [(0, .ref l0), (1, .int l1)] [] h := by
  intro n
  induction n with
  | zero => intro h l0 l1 eE hF; exact absurd hF (by intro q; cases q)
  | succ n ih =>
    intro h l0 l1 eE hF hk0
    have hrec := fun (h' : eg_H) (l0 : Nat) (l1 : Int32) hq => ih h' l0 l1 eE hq hk0
    refine eg_iload_n (i := 1) 1 dX12_back_11 rfl rfl ?_
    refine eg_iconst (v := (4 : Int32)) dX12_back_12 (by decide) ?_
    refine eg_ic_ge 36 dX12_back_13 rfl (fun c1 => ?_) (fun c1 => ?_)
    · replace hF := eg_it c1 hF
      exact eg_sub [0] [(0, .ref l0)] rfl (hk0 l0 h (Option.some.inj hF).symm)
    · replace hF := eg_if c1 hF
      refine eg_aload_n (i := 0) 0 dX12_back_16 rfl rfl ?_
      replace hF := eg_bind hF; obtain ⟨p2, e3, hF⟩ := hF
      refine eg_getR dX12_back_17 e3 (Nat.le_of_ble_eq_true rfl) (Nat.le_of_ble_eq_true rfl) rfl ew_359 ?_
      refine eg_iload_n (i := 1) 1 dX12_back_20 rfl rfl ?_
      refine eg_aload_n (i := 0) 0 dX12_back_21 rfl rfl ?_
      replace hF := eg_bind hF; obtain ⟨p4, e5, hF⟩ := hF
      refine eg_getR dX12_back_22 e5 (Nat.le_of_ble_eq_true rfl) (Nat.le_of_ble_eq_true rfl) rfl ew_369 ?_
      refine eg_iload_n (i := 1) 1 dX12_back_25 rfl rfl ?_
      replace hF := eg_bind hF; obtain ⟨v6, e7, hF⟩ := hF
      refine eg_iald dX12_back_26 e7 ?_
      replace hF := eg_bind hF; obtain ⟨h8, e9, hF⟩ := hF
      refine eg_callV (c := 7) (n := 2) [.int l1, .int v6] dX12_back_27 (mX7_tell e9) rfl (fX7_tell_O e9) (Nat.le_of_ble_eq_true rfl) rfl ew_721 ew_722 ew_723 ew_104 ew_724 hy_X7_tell rfl (Nat.le_of_ble_eq_true rfl) (Nat.le_of_ble_eq_true rfl) (Nat.le_of_ble_eq_true rfl) ?_
      refine eg_iinc (i := 1) (v := (l1 + (1 : Int32))) 1 [(1, .int (l1 + (1 : Int32))), (0, .ref l0)] dX12_back_30 rfl rfl (Nat.le_of_ble_eq_true rfl) rfl ?_
      refine eg_goto 11 dX12_back_33 rfl ?_
      exact eg_sub [1, 0] [(0, .ref l0), (1, .int (l1 + (1 : Int32)))] rfl (hrec h8 l0 (l1 + (1 : Int32)) hF)
def fX12_back (h : eg_H) (l0 : Nat) : Option (Int32 × eg_H) :=
  if eg_isO h 12 l0 then (
    (eg_gI h 12 14 l0).bind fun v1 =>
    if v1 = 0 then
      (some ((-1 : Int32), h))
    else
      (fX12_back_L11 eg_F h l0 (0 : Int32)).bind fun e =>
      match e with
      | (p6, h7) =>
        (eg_gR h7 12 11 p6).bind fun p8 =>
        (eg_gR h7 12 12 p6).bind fun p10 =>
        (fX1_copyFrom h7 p8 p10).bind fun h12 =>
        (eg_gR h12 12 16 p6).bind fun p14 =>
        (fX0_forget h12 p14).bind fun h16 =>
        (eg_gR h16 12 11 p6).bind fun p18 =>
        (fX1_size h16 p18).bind fun ⟨v21, h20⟩ =>
        some (v21, h20)) else none
theorem fX12_back_O {h : eg_H} {l0 : Nat} {rE : Int32} {hE : eg_H} (hF : fX12_back h l0 = some (rE, hE)) : eg_isO h 12 l0 := (eg_ifn hF).1
set_option maxRecDepth 20000 in
theorem mX12_back {h : eg_H} {l0 : Nat} {rE : Int32} {hE : eg_H} (hF : fX12_back h l0 = some (rE, hE)) : eg_Met yX12_back cX12_back 2 (some .int) 3 [.ref l0] h (some (.int rE)) hE := by
  refine eg_enter rfl (Nat.le_of_ble_eq_true rfl) ?_
  show eg_AW (RX12, cX12_back, 2, 3, none, "back", (some .int)) (eg_Zm (some (.int rE)) hE h) (eg_nc hE) (eg_ns hE) h 0 [(0, .ref l0)] [] h
  replace hF := (eg_ifn hF).2
  refine eg_aload_n (i := 0) 0 dX12_back_0 rfl rfl ?_
  replace hF := eg_bind hF; obtain ⟨v1, e2, hF⟩ := hF
  refine eg_getI dX12_back_1 e2 (Nat.le_of_ble_eq_true rfl) (Nat.le_of_ble_eq_true rfl) rfl ew_370 ?_
  refine eg_if_ne 9 dX12_back_4 rfl (fun c3 => ?_) (fun c3 => ?_)
  · replace hF := eg_it c3 hF
    refine eg_iconst (v := (-1 : Int32)) dX12_back_7 (by decide) ?_
    exact eg_iretE dX12_back_8 hF
  · replace hF := eg_if c3 hF
    refine eg_iconst (v := (0 : Int32)) dX12_back_9 (by decide) ?_
    refine eg_istore_n (i := 1) [(1, .int (0 : Int32)), (0, .ref l0)] dX12_back_10 rfl (Nat.le_of_ble_eq_true rfl) rfl ?_
    replace hF := eg_bind hF; obtain ⟨x5, e4, hF⟩ := hF
    refine eg_sub [1, 0] [(0, .ref l0), (1, .int (0 : Int32))] rfl (fX12_back_L11_ok eg_F h l0 (0 : Int32) x5 e4 ?_)
    · intro p6 h7 e23
      subst e23
      refine eg_aload_n (i := 0) 0 dX12_back_36 rfl rfl ?_
      replace hF := eg_bind hF; obtain ⟨p8, e9, hF⟩ := hF
      refine eg_getR dX12_back_37 e9 (Nat.le_of_ble_eq_true rfl) (Nat.le_of_ble_eq_true rfl) rfl ew_367 ?_
      refine eg_aload_n (i := 0) 0 dX12_back_40 rfl rfl ?_
      replace hF := eg_bind hF; obtain ⟨p10, e11, hF⟩ := hF
      refine eg_getR dX12_back_41 e11 (Nat.le_of_ble_eq_true rfl) (Nat.le_of_ble_eq_true rfl) rfl ew_368 ?_
      replace hF := eg_bind hF; obtain ⟨h12, e13, hF⟩ := hF
      refine eg_callV (c := 1) (n := 1) [.ref p10] dX12_back_44 (mX1_copyFrom e13) rfl (fX1_copyFrom_O e13) (Nat.le_of_ble_eq_true rfl) rfl ew_1337 ew_1338 ew_1339 ew_105 ew_1340 hy_X1_copyFrom rfl (Nat.le_of_ble_eq_true rfl) (Nat.le_of_ble_eq_true rfl) (Nat.le_of_ble_eq_true rfl) ?_
      refine eg_aload_n (i := 0) 0 dX12_back_47 rfl rfl ?_
      replace hF := eg_bind hF; obtain ⟨p14, e15, hF⟩ := hF
      refine eg_getR dX12_back_48 e15 (Nat.le_of_ble_eq_true rfl) (Nat.le_of_ble_eq_true rfl) rfl ew_372 ?_
      replace hF := eg_bind hF; obtain ⟨h16, e17, hF⟩ := hF
      refine eg_callV (c := 0) (n := 0) [] dX12_back_51 (mX0_forget e17) rfl (fX0_forget_O e17) (Nat.le_of_ble_eq_true rfl) rfl ew_625 ew_626 ew_627 ew_107 ew_628 hy_X0_forget rfl (Nat.le_of_ble_eq_true rfl) (Nat.le_of_ble_eq_true rfl) (Nat.le_of_ble_eq_true rfl) ?_
      refine eg_aload_n (i := 0) 0 dX12_back_54 rfl rfl ?_
      replace hF := eg_bind hF; obtain ⟨p18, e19, hF⟩ := hF
      refine eg_getR dX12_back_55 e19 (Nat.le_of_ble_eq_true rfl) (Nat.le_of_ble_eq_true rfl) rfl ew_367 ?_
      replace hF := eg_bind hF; obtain ⟨⟨v21, h20⟩, e22, hF⟩ := hF
      refine eg_callV (c := 1) (n := 0) [] dX12_back_58 (mX1_size e22) rfl (fX1_size_O e22) (Nat.le_of_ble_eq_true rfl) rfl ew_1246 ew_1247 ew_1248 ew_105 ew_1249 hy_X1_size rfl (Nat.le_of_ble_eq_true rfl) (Nat.le_of_ble_eq_true rfl) (Nat.le_of_ble_eq_true rfl) ?_
      exact eg_iretE dX12_back_61 hF
theorem dX12_count_0 : decode cX12_count 0 = .ok (.iload_n 1, 1) := by decide +kernel
theorem dX12_count_1 : decode cX12_count 1 = .ok (.tableswitch 141 0 12 #[67, 75, 83, 88, 96, 96, 96, 96, 107, 112, 120, 128, 133], 67) := by decide +kernel
theorem dX12_count_68 : decode cX12_count 68 = .ok (.aload_n 0, 1) := by decide +kernel
theorem dX12_count_69 : decode cX12_count 69 = .ok (.getfield 35, 3) := by decide +kernel
theorem dX12_count_72 : decode cX12_count 72 = .ok (.invokevirtual 159, 3) := by decide +kernel
theorem dX12_count_75 : decode cX12_count 75 = .ok (.ireturn, 1) := by decide +kernel
theorem dX12_count_76 : decode cX12_count 76 = .ok (.aload_n 0, 1) := by decide +kernel
theorem dX12_count_77 : decode cX12_count 77 = .ok (.getfield 35, 3) := by decide +kernel
theorem dX12_count_80 : decode cX12_count 80 = .ok (.invokevirtual 287, 3) := by decide +kernel
theorem dX12_count_83 : decode cX12_count 83 = .ok (.ireturn, 1) := by decide +kernel
theorem dX12_count_84 : decode cX12_count 84 = .ok (.aload_n 0, 1) := by decide +kernel
theorem dX12_count_85 : decode cX12_count 85 = .ok (.getfield 45, 3) := by decide +kernel
theorem dX12_count_88 : decode cX12_count 88 = .ok (.ireturn, 1) := by decide +kernel
theorem dX12_count_89 : decode cX12_count 89 = .ok (.aload_n 0, 1) := by decide +kernel
theorem dX12_count_90 : decode cX12_count 90 = .ok (.getfield 10, 3) := by decide +kernel
theorem dX12_count_93 : decode cX12_count 93 = .ok (.invokevirtual 123, 3) := by decide +kernel
theorem dX12_count_96 : decode cX12_count 96 = .ok (.ireturn, 1) := by decide +kernel
theorem dX12_count_97 : decode cX12_count 97 = .ok (.aload_n 0, 1) := by decide +kernel
theorem dX12_count_98 : decode cX12_count 98 = .ok (.getfield 35, 3) := by decide +kernel
theorem dX12_count_101 : decode cX12_count 101 = .ok (.iload_n 1, 1) := by decide +kernel
theorem dX12_count_102 : decode cX12_count 102 = .ok (.iconst 4, 1) := by decide +kernel
theorem dX12_count_103 : decode cX12_count 103 = .ok (.isub, 1) := by decide +kernel
theorem dX12_count_104 : decode cX12_count 104 = .ok (.invokevirtual 209, 3) := by decide +kernel
theorem dX12_count_107 : decode cX12_count 107 = .ok (.ireturn, 1) := by decide +kernel
theorem dX12_count_108 : decode cX12_count 108 = .ok (.aload_n 0, 1) := by decide +kernel
theorem dX12_count_109 : decode cX12_count 109 = .ok (.getfield 49, 3) := by decide +kernel
theorem dX12_count_112 : decode cX12_count 112 = .ok (.ireturn, 1) := by decide +kernel
theorem dX12_count_113 : decode cX12_count 113 = .ok (.aload_n 0, 1) := by decide +kernel
theorem dX12_count_114 : decode cX12_count 114 = .ok (.getfield 66, 3) := by decide +kernel
theorem dX12_count_117 : decode cX12_count 117 = .ok (.invokevirtual 454, 3) := by decide +kernel
theorem dX12_count_120 : decode cX12_count 120 = .ok (.ireturn, 1) := by decide +kernel
theorem dX12_count_121 : decode cX12_count 121 = .ok (.aload_n 0, 1) := by decide +kernel
theorem dX12_count_122 : decode cX12_count 122 = .ok (.getfield 73, 3) := by decide +kernel
theorem dX12_count_125 : decode cX12_count 125 = .ok (.invokevirtual 454, 3) := by decide +kernel
theorem dX12_count_128 : decode cX12_count 128 = .ok (.ireturn, 1) := by decide +kernel
theorem dX12_count_129 : decode cX12_count 129 = .ok (.aload_n 0, 1) := by decide +kernel
theorem dX12_count_130 : decode cX12_count 130 = .ok (.getfield 58, 3) := by decide +kernel
theorem dX12_count_133 : decode cX12_count 133 = .ok (.ireturn, 1) := by decide +kernel
theorem dX12_count_134 : decode cX12_count 134 = .ok (.aload_n 0, 1) := by decide +kernel
theorem dX12_count_135 : decode cX12_count 135 = .ok (.getfield 70, 3) := by decide +kernel
theorem dX12_count_138 : decode cX12_count 138 = .ok (.invokevirtual 454, 3) := by decide +kernel
theorem dX12_count_141 : decode cX12_count 141 = .ok (.ireturn, 1) := by decide +kernel
theorem dX12_count_142 : decode cX12_count 142 = .ok (.ldc 223, 2) := by decide +kernel
theorem dX12_count_144 : decode cX12_count 144 = .ok (.ireturn, 1) := by decide +kernel
def fX12_count (h : eg_H) (l0 : Nat) (l1 : Int32) : Option (Int32 × eg_H) :=
  if eg_isO h 12 l0 then (
    if l1 = (0 : Int32) then
      ((eg_gR h 12 3 l0).bind fun p2 =>
      (fX7_persons h p2).bind fun ⟨v5, h4⟩ =>
      some (v5, h4))
    else
    if l1 = (1 : Int32) then
      ((eg_gR h 12 3 l0).bind fun p8 =>
      (fX7_eggs h p8).bind fun ⟨v11, h10⟩ =>
      some (v11, h10))
    else
    if l1 = (2 : Int32) then
      ((eg_gI h 12 5 l0).bind fun v14 =>
      some (v14, h))
    else
    if l1 = (3 : Int32) then
      ((eg_gR h 12 0 l0).bind fun p17 =>
      (fX10_length h p17).bind fun ⟨v20, h19⟩ =>
      some (v20, h19))
    else
    if l1 = (4 : Int32) then
      ((eg_gR h 12 3 l0).bind fun p23 =>
      (fX7_told h p23 (l1 - (4 : Int32))).bind fun ⟨v26, h25⟩ =>
      some (v26, h25))
    else
    if l1 = (5 : Int32) then
      ((eg_gR h 12 3 l0).bind fun p29 =>
      (fX7_told h p29 (l1 - (4 : Int32))).bind fun ⟨v32, h31⟩ =>
      some (v32, h31))
    else
    if l1 = (6 : Int32) then
      ((eg_gR h 12 3 l0).bind fun p35 =>
      (fX7_told h p35 (l1 - (4 : Int32))).bind fun ⟨v38, h37⟩ =>
      some (v38, h37))
    else
    if l1 = (7 : Int32) then
      ((eg_gR h 12 3 l0).bind fun p41 =>
      (fX7_told h p41 (l1 - (4 : Int32))).bind fun ⟨v44, h43⟩ =>
      some (v44, h43))
    else
    if l1 = (8 : Int32) then
      ((eg_gI h 12 6 l0).bind fun v47 =>
      some (v47, h))
    else
    if l1 = (9 : Int32) then
      ((eg_gR h 12 9 l0).bind fun p50 =>
      (fX1_size h p50).bind fun ⟨v53, h52⟩ =>
      some (v53, h52))
    else
    if l1 = (10 : Int32) then
      ((eg_gR h 12 11 l0).bind fun p56 =>
      (fX1_size h p56).bind fun ⟨v59, h58⟩ =>
      some (v59, h58))
    else
    if l1 = (11 : Int32) then
      ((eg_gI h 12 8 l0).bind fun v62 =>
      some (v62, h))
    else
    if l1 = (12 : Int32) then
      ((eg_gR h 12 10 l0).bind fun p65 =>
      (fX1_size h p65).bind fun ⟨v68, h67⟩ =>
      some (v68, h67))
    else
    some ((-1000000 : Int32), h)) else none
theorem fX12_count_O {h : eg_H} {l0 : Nat} {l1 : Int32} {rE : Int32} {hE : eg_H} (hF : fX12_count h l0 l1 = some (rE, hE)) : eg_isO h 12 l0 := (eg_ifn hF).1
set_option maxRecDepth 20000 in
theorem mX12_count {h : eg_H} {l0 : Nat} {l1 : Int32} {rE : Int32} {hE : eg_H} (hF : fX12_count h l0 l1 = some (rE, hE)) : eg_Met yX12_count cX12_count 2 (some .int) 2 [.ref l0, .int l1] h (some (.int rE)) hE := by
  refine eg_enter rfl (Nat.le_of_ble_eq_true rfl) ?_
  show eg_AW (RX12, cX12_count, 2, 2, none, "count", (some .int)) (eg_Zm (some (.int rE)) hE h) (eg_nc hE) (eg_ns hE) h 0 [(0, .ref l0), (1, .int l1)] [] h
  replace hF := (eg_ifn hF).2
  refine eg_iload_n (i := 1) 1 dX12_count_0 rfl rfl ?_
  by_cases c1 : l1 = (0 : Int32)
  · replace hF := eg_it c1 hF
    refine eg_tIn 68 c1 dX12_count_1 (by decide) (by decide) rfl rfl ?_
    refine eg_aload_n (i := 0) 0 dX12_count_68 rfl rfl ?_
    replace hF := eg_bind hF; obtain ⟨p2, e3, hF⟩ := hF
    refine eg_getR dX12_count_69 e3 (Nat.le_of_ble_eq_true rfl) (Nat.le_of_ble_eq_true rfl) rfl ew_359 ?_
    replace hF := eg_bind hF; obtain ⟨⟨v5, h4⟩, e6, hF⟩ := hF
    refine eg_callV (c := 7) (n := 0) [] dX12_count_72 (mX7_persons e6) rfl (fX7_persons_O e6) (Nat.le_of_ble_eq_true rfl) rfl ew_629 ew_630 ew_631 ew_104 ew_632 hy_X7_persons rfl (Nat.le_of_ble_eq_true rfl) (Nat.le_of_ble_eq_true rfl) (Nat.le_of_ble_eq_true rfl) ?_
    exact eg_iretE dX12_count_75 hF
  replace hF := eg_if c1 hF
  by_cases c7 : l1 = (1 : Int32)
  · replace hF := eg_it c7 hF
    refine eg_tIn 76 c7 dX12_count_1 (by decide) (by decide) rfl rfl ?_
    refine eg_aload_n (i := 0) 0 dX12_count_76 rfl rfl ?_
    replace hF := eg_bind hF; obtain ⟨p8, e9, hF⟩ := hF
    refine eg_getR dX12_count_77 e9 (Nat.le_of_ble_eq_true rfl) (Nat.le_of_ble_eq_true rfl) rfl ew_359 ?_
    replace hF := eg_bind hF; obtain ⟨⟨v11, h10⟩, e12, hF⟩ := hF
    refine eg_callV (c := 7) (n := 0) [] dX12_count_80 (mX7_eggs e12) rfl (fX7_eggs_O e12) (Nat.le_of_ble_eq_true rfl) rfl ew_922 ew_923 ew_924 ew_104 ew_925 hy_X7_eggs rfl (Nat.le_of_ble_eq_true rfl) (Nat.le_of_ble_eq_true rfl) (Nat.le_of_ble_eq_true rfl) ?_
    exact eg_iretE dX12_count_83 hF
  replace hF := eg_if c7 hF
  by_cases c13 : l1 = (2 : Int32)
  · replace hF := eg_it c13 hF
    refine eg_tIn 84 c13 dX12_count_1 (by decide) (by decide) rfl rfl ?_
    refine eg_aload_n (i := 0) 0 dX12_count_84 rfl rfl ?_
    replace hF := eg_bind hF; obtain ⟨v14, e15, hF⟩ := hF
    refine eg_getI dX12_count_85 e15 (Nat.le_of_ble_eq_true rfl) (Nat.le_of_ble_eq_true rfl) rfl ew_361 ?_
    exact eg_iretE dX12_count_88 hF
  replace hF := eg_if c13 hF
  by_cases c16 : l1 = (3 : Int32)
  · replace hF := eg_it c16 hF
    refine eg_tIn 89 c16 dX12_count_1 (by decide) (by decide) rfl rfl ?_
    refine eg_aload_n (i := 0) 0 dX12_count_89 rfl rfl ?_
    replace hF := eg_bind hF; obtain ⟨p17, e18, hF⟩ := hF
    refine eg_getR dX12_count_90 e18 (Nat.le_of_ble_eq_true rfl) (Nat.le_of_ble_eq_true rfl) rfl ew_356 ?_
    replace hF := eg_bind hF; obtain ⟨⟨v20, h19⟩, e21, hF⟩ := hF
    refine eg_callV (c := 10) (n := 0) [] dX12_count_93 (mX10_length e21) rfl (fX10_length_O e21) (Nat.le_of_ble_eq_true rfl) rfl ew_422 ew_423 ew_424 ew_101 ew_425 hy_X10_length rfl (Nat.le_of_ble_eq_true rfl) (Nat.le_of_ble_eq_true rfl) (Nat.le_of_ble_eq_true rfl) ?_
    exact eg_iretE dX12_count_96 hF
  replace hF := eg_if c16 hF
  by_cases c22 : l1 = (4 : Int32)
  · replace hF := eg_it c22 hF
    refine eg_tIn 97 c22 dX12_count_1 (by decide) (by decide) rfl rfl ?_
    refine eg_aload_n (i := 0) 0 dX12_count_97 rfl rfl ?_
    replace hF := eg_bind hF; obtain ⟨p23, e24, hF⟩ := hF
    refine eg_getR dX12_count_98 e24 (Nat.le_of_ble_eq_true rfl) (Nat.le_of_ble_eq_true rfl) rfl ew_359 ?_
    refine eg_iload_n (i := 1) 1 dX12_count_101 rfl rfl ?_
    refine eg_iconst (v := (4 : Int32)) dX12_count_102 (by decide) ?_
    refine eg_isub dX12_count_103 ?_
    replace hF := eg_bind hF; obtain ⟨⟨v26, h25⟩, e27, hF⟩ := hF
    refine eg_callV (c := 7) (n := 1) [.int (l1 - (4 : Int32))] dX12_count_104 (mX7_told e27) rfl (fX7_told_O e27) (Nat.le_of_ble_eq_true rfl) rfl ew_717 ew_718 ew_719 ew_104 ew_720 hy_X7_told rfl (Nat.le_of_ble_eq_true rfl) (Nat.le_of_ble_eq_true rfl) (Nat.le_of_ble_eq_true rfl) ?_
    exact eg_iretE dX12_count_107 hF
  replace hF := eg_if c22 hF
  by_cases c28 : l1 = (5 : Int32)
  · replace hF := eg_it c28 hF
    refine eg_tIn 97 c28 dX12_count_1 (by decide) (by decide) rfl rfl ?_
    refine eg_aload_n (i := 0) 0 dX12_count_97 rfl rfl ?_
    replace hF := eg_bind hF; obtain ⟨p29, e30, hF⟩ := hF
    refine eg_getR dX12_count_98 e30 (Nat.le_of_ble_eq_true rfl) (Nat.le_of_ble_eq_true rfl) rfl ew_359 ?_
    refine eg_iload_n (i := 1) 1 dX12_count_101 rfl rfl ?_
    refine eg_iconst (v := (4 : Int32)) dX12_count_102 (by decide) ?_
    refine eg_isub dX12_count_103 ?_
    replace hF := eg_bind hF; obtain ⟨⟨v32, h31⟩, e33, hF⟩ := hF
    refine eg_callV (c := 7) (n := 1) [.int (l1 - (4 : Int32))] dX12_count_104 (mX7_told e33) rfl (fX7_told_O e33) (Nat.le_of_ble_eq_true rfl) rfl ew_717 ew_718 ew_719 ew_104 ew_720 hy_X7_told rfl (Nat.le_of_ble_eq_true rfl) (Nat.le_of_ble_eq_true rfl) (Nat.le_of_ble_eq_true rfl) ?_
    exact eg_iretE dX12_count_107 hF
  replace hF := eg_if c28 hF
  by_cases c34 : l1 = (6 : Int32)
  · replace hF := eg_it c34 hF
    refine eg_tIn 97 c34 dX12_count_1 (by decide) (by decide) rfl rfl ?_
    refine eg_aload_n (i := 0) 0 dX12_count_97 rfl rfl ?_
    replace hF := eg_bind hF; obtain ⟨p35, e36, hF⟩ := hF
    refine eg_getR dX12_count_98 e36 (Nat.le_of_ble_eq_true rfl) (Nat.le_of_ble_eq_true rfl) rfl ew_359 ?_
    refine eg_iload_n (i := 1) 1 dX12_count_101 rfl rfl ?_
    refine eg_iconst (v := (4 : Int32)) dX12_count_102 (by decide) ?_
    refine eg_isub dX12_count_103 ?_
    replace hF := eg_bind hF; obtain ⟨⟨v38, h37⟩, e39, hF⟩ := hF
    refine eg_callV (c := 7) (n := 1) [.int (l1 - (4 : Int32))] dX12_count_104 (mX7_told e39) rfl (fX7_told_O e39) (Nat.le_of_ble_eq_true rfl) rfl ew_717 ew_718 ew_719 ew_104 ew_720 hy_X7_told rfl (Nat.le_of_ble_eq_true rfl) (Nat.le_of_ble_eq_true rfl) (Nat.le_of_ble_eq_true rfl) ?_
    exact eg_iretE dX12_count_107 hF
  replace hF := eg_if c34 hF
  by_cases c40 : l1 = (7 : Int32)
  · replace hF := eg_it c40 hF
    refine eg_tIn 97 c40 dX12_count_1 (by decide) (by decide) rfl rfl ?_
    refine eg_aload_n (i := 0) 0 dX12_count_97 rfl rfl ?_
    replace hF := eg_bind hF; obtain ⟨p41, e42, hF⟩ := hF
    refine eg_getR dX12_count_98 e42 (Nat.le_of_ble_eq_true rfl) (Nat.le_of_ble_eq_true rfl) rfl ew_359 ?_
    refine eg_iload_n (i := 1) 1 dX12_count_101 rfl rfl ?_
    refine eg_iconst (v := (4 : Int32)) dX12_count_102 (by decide) ?_
    refine eg_isub dX12_count_103 ?_
    replace hF := eg_bind hF; obtain ⟨⟨v44, h43⟩, e45, hF⟩ := hF
    refine eg_callV (c := 7) (n := 1) [.int (l1 - (4 : Int32))] dX12_count_104 (mX7_told e45) rfl (fX7_told_O e45) (Nat.le_of_ble_eq_true rfl) rfl ew_717 ew_718 ew_719 ew_104 ew_720 hy_X7_told rfl (Nat.le_of_ble_eq_true rfl) (Nat.le_of_ble_eq_true rfl) (Nat.le_of_ble_eq_true rfl) ?_
    exact eg_iretE dX12_count_107 hF
  replace hF := eg_if c40 hF
  by_cases c46 : l1 = (8 : Int32)
  · replace hF := eg_it c46 hF
    refine eg_tIn 108 c46 dX12_count_1 (by decide) (by decide) rfl rfl ?_
    refine eg_aload_n (i := 0) 0 dX12_count_108 rfl rfl ?_
    replace hF := eg_bind hF; obtain ⟨v47, e48, hF⟩ := hF
    refine eg_getI dX12_count_109 e48 (Nat.le_of_ble_eq_true rfl) (Nat.le_of_ble_eq_true rfl) rfl ew_362 ?_
    exact eg_iretE dX12_count_112 hF
  replace hF := eg_if c46 hF
  by_cases c49 : l1 = (9 : Int32)
  · replace hF := eg_it c49 hF
    refine eg_tIn 113 c49 dX12_count_1 (by decide) (by decide) rfl rfl ?_
    refine eg_aload_n (i := 0) 0 dX12_count_113 rfl rfl ?_
    replace hF := eg_bind hF; obtain ⟨p50, e51, hF⟩ := hF
    refine eg_getR dX12_count_114 e51 (Nat.le_of_ble_eq_true rfl) (Nat.le_of_ble_eq_true rfl) rfl ew_365 ?_
    replace hF := eg_bind hF; obtain ⟨⟨v53, h52⟩, e54, hF⟩ := hF
    refine eg_callV (c := 1) (n := 0) [] dX12_count_117 (mX1_size e54) rfl (fX1_size_O e54) (Nat.le_of_ble_eq_true rfl) rfl ew_1246 ew_1247 ew_1248 ew_105 ew_1249 hy_X1_size rfl (Nat.le_of_ble_eq_true rfl) (Nat.le_of_ble_eq_true rfl) (Nat.le_of_ble_eq_true rfl) ?_
    exact eg_iretE dX12_count_120 hF
  replace hF := eg_if c49 hF
  by_cases c55 : l1 = (10 : Int32)
  · replace hF := eg_it c55 hF
    refine eg_tIn 121 c55 dX12_count_1 (by decide) (by decide) rfl rfl ?_
    refine eg_aload_n (i := 0) 0 dX12_count_121 rfl rfl ?_
    replace hF := eg_bind hF; obtain ⟨p56, e57, hF⟩ := hF
    refine eg_getR dX12_count_122 e57 (Nat.le_of_ble_eq_true rfl) (Nat.le_of_ble_eq_true rfl) rfl ew_367 ?_
    replace hF := eg_bind hF; obtain ⟨⟨v59, h58⟩, e60, hF⟩ := hF
    refine eg_callV (c := 1) (n := 0) [] dX12_count_125 (mX1_size e60) rfl (fX1_size_O e60) (Nat.le_of_ble_eq_true rfl) rfl ew_1246 ew_1247 ew_1248 ew_105 ew_1249 hy_X1_size rfl (Nat.le_of_ble_eq_true rfl) (Nat.le_of_ble_eq_true rfl) (Nat.le_of_ble_eq_true rfl) ?_
    exact eg_iretE dX12_count_128 hF
  replace hF := eg_if c55 hF
  by_cases c61 : l1 = (11 : Int32)
  · replace hF := eg_it c61 hF
    refine eg_tIn 129 c61 dX12_count_1 (by decide) (by decide) rfl rfl ?_
    refine eg_aload_n (i := 0) 0 dX12_count_129 rfl rfl ?_
    replace hF := eg_bind hF; obtain ⟨v62, e63, hF⟩ := hF
    refine eg_getI dX12_count_130 e63 (Nat.le_of_ble_eq_true rfl) (Nat.le_of_ble_eq_true rfl) rfl ew_364 ?_
    exact eg_iretE dX12_count_133 hF
  replace hF := eg_if c61 hF
  by_cases c64 : l1 = (12 : Int32)
  · replace hF := eg_it c64 hF
    refine eg_tIn 134 c64 dX12_count_1 (by decide) (by decide) rfl rfl ?_
    refine eg_aload_n (i := 0) 0 dX12_count_134 rfl rfl ?_
    replace hF := eg_bind hF; obtain ⟨p65, e66, hF⟩ := hF
    refine eg_getR dX12_count_135 e66 (Nat.le_of_ble_eq_true rfl) (Nat.le_of_ble_eq_true rfl) rfl ew_366 ?_
    replace hF := eg_bind hF; obtain ⟨⟨v68, h67⟩, e69, hF⟩ := hF
    refine eg_callV (c := 1) (n := 0) [] dX12_count_138 (mX1_size e69) rfl (fX1_size_O e69) (Nat.le_of_ble_eq_true rfl) rfl ew_1246 ew_1247 ew_1248 ew_105 ew_1249 hy_X1_size rfl (Nat.le_of_ble_eq_true rfl) (Nat.le_of_ble_eq_true rfl) (Nat.le_of_ble_eq_true rfl) ?_
    exact eg_iretE dX12_count_141 hF
  replace hF := eg_if c64 hF
  refine eg_tOut 142 dX12_count_1 (by
    have z0 := lv_neT c1 (show ((0 : Int32)).toInt = 0 from rfl)
    have z1 := lv_neT c7 (show ((1 : Int32)).toInt = 1 from rfl)
    have z2 := lv_neT c13 (show ((2 : Int32)).toInt = 2 from rfl)
    have z3 := lv_neT c16 (show ((3 : Int32)).toInt = 3 from rfl)
    have z4 := lv_neT c22 (show ((4 : Int32)).toInt = 4 from rfl)
    have z5 := lv_neT c28 (show ((5 : Int32)).toInt = 5 from rfl)
    have z6 := lv_neT c34 (show ((6 : Int32)).toInt = 6 from rfl)
    have z7 := lv_neT c40 (show ((7 : Int32)).toInt = 7 from rfl)
    have z8 := lv_neT c46 (show ((8 : Int32)).toInt = 8 from rfl)
    have z9 := lv_neT c49 (show ((9 : Int32)).toInt = 9 from rfl)
    have z10 := lv_neT c55 (show ((10 : Int32)).toInt = 10 from rfl)
    have z11 := lv_neT c61 (show ((11 : Int32)).toInt = 11 from rfl)
    have z12 := lv_neT c64 (show ((12 : Int32)).toInt = 12 from rfl)
    omega) rfl ?_
  refine eg_ldc (v := (-1000000 : Int32)) dX12_count_142 ew_739 ?_
  exact eg_iretE dX12_count_144 hF
theorem dX13_init_0 : decode cX13_init 0 = .ok (.aload_n 0, 1) := by decide +kernel
theorem dX13_init_1 : decode cX13_init 1 = .ok (.invokespecial 1, 3) := by decide +kernel
theorem dX13_init_4 : decode cX13_init 4 = .ok (.aload_n 0, 1) := by decide +kernel
theorem dX13_init_5 : decode cX13_init 5 = .ok (.sipush 160, 3) := by decide +kernel
theorem dX13_init_8 : decode cX13_init 8 = .ok (.newarray .byte, 2) := by decide +kernel
theorem dX13_init_10 : decode cX13_init 10 = .ok (.putfield 9, 3) := by decide +kernel
theorem dX13_init_13 : decode cX13_init 13 = .ok (.aload_n 0, 1) := by decide +kernel
theorem dX13_init_14 : decode cX13_init 14 = .ok (.sipush 640, 3) := by decide +kernel
theorem dX13_init_17 : decode cX13_init 17 = .ok (.newarray .byte, 2) := by decide +kernel
theorem dX13_init_19 : decode cX13_init 19 = .ok (.putfield 13, 3) := by decide +kernel
theorem dX13_init_22 : decode cX13_init 22 = .ok (.aload_n 0, 1) := by decide +kernel
theorem dX13_init_23 : decode cX13_init 23 = .ok (.iconst 4, 1) := by decide +kernel
theorem dX13_init_24 : decode cX13_init 24 = .ok (.newarray .int, 2) := by decide +kernel
theorem dX13_init_26 : decode cX13_init 26 = .ok (.putfield 16, 3) := by decide +kernel
theorem dX13_init_29 : decode cX13_init 29 = .ok (.aload_n 0, 1) := by decide +kernel
theorem dX13_init_30 : decode cX13_init 30 = .ok (.sipush 128, 3) := by decide +kernel
theorem dX13_init_33 : decode cX13_init 33 = .ok (.newarray .int, 2) := by decide +kernel
theorem dX13_init_35 : decode cX13_init 35 = .ok (.putfield 20, 3) := by decide +kernel
theorem dX13_init_38 : decode cX13_init 38 = .ok (.aload_n 0, 1) := by decide +kernel
theorem dX13_init_39 : decode cX13_init 39 = .ok (.aload_n 0, 1) := by decide +kernel
theorem dX13_init_40 : decode cX13_init 40 = .ok (.getfield 9, 3) := by decide +kernel
theorem dX13_init_43 : decode cX13_init 43 = .ok (.putfield 23, 3) := by decide +kernel
theorem dX13_init_46 : decode cX13_init 46 = .ok (.aload_n 0, 1) := by decide +kernel
theorem dX13_init_47 : decode cX13_init 47 = .ok (.ldc 26, 2) := by decide +kernel
theorem dX13_init_49 : decode cX13_init 49 = .ok (.putfield 28, 3) := by decide +kernel
theorem dX13_init_52 : decode cX13_init 52 = .ok (.aload_n 0, 1) := by decide +kernel
theorem dX13_init_53 : decode cX13_init 53 = .ok (.ldc 32, 2) := by decide +kernel
theorem dX13_init_55 : decode cX13_init 55 = .ok (.putfield 34, 3) := by decide +kernel
theorem dX13_init_58 : decode cX13_init 58 = .ok (.aload_n 0, 1) := by decide +kernel
theorem dX13_init_59 : decode cX13_init 59 = .ok (.iconst 4, 1) := by decide +kernel
theorem dX13_init_60 : decode cX13_init 60 = .ok (.newarray .int, 2) := by decide +kernel
theorem dX13_init_62 : decode cX13_init 62 = .ok (.putfield 37, 3) := by decide +kernel
theorem dX13_init_65 : decode cX13_init 65 = .ok (.aload_n 0, 1) := by decide +kernel
theorem dX13_init_66 : decode cX13_init 66 = .ok (.iconst 4, 1) := by decide +kernel
theorem dX13_init_67 : decode cX13_init 67 = .ok (.newarray .int, 2) := by decide +kernel
theorem dX13_init_69 : decode cX13_init 69 = .ok (.putfield 40, 3) := by decide +kernel
theorem dX13_init_72 : decode cX13_init 72 = .ok (.aload_n 0, 1) := by decide +kernel
theorem dX13_init_73 : decode cX13_init 73 = .ok (.bipush 24, 2) := by decide +kernel
theorem dX13_init_75 : decode cX13_init 75 = .ok (.newarray .int, 2) := by decide +kernel
theorem dX13_init_77 : decode cX13_init 77 = .ok (.putfield 43, 3) := by decide +kernel
theorem dX13_init_80 : decode cX13_init 80 = .ok (.aload_n 0, 1) := by decide +kernel
theorem dX13_init_81 : decode cX13_init 81 = .ok (.bipush 24, 2) := by decide +kernel
theorem dX13_init_83 : decode cX13_init 83 = .ok (.newarray .int, 2) := by decide +kernel
theorem dX13_init_85 : decode cX13_init 85 = .ok (.putfield 46, 3) := by decide +kernel
theorem dX13_init_88 : decode cX13_init 88 = .ok (.aload_n 0, 1) := by decide +kernel
theorem dX13_init_89 : decode cX13_init 89 = .ok (.bipush 12, 2) := by decide +kernel
theorem dX13_init_91 : decode cX13_init 91 = .ok (.newarray .int, 2) := by decide +kernel
theorem dX13_init_93 : decode cX13_init 93 = .ok (.putfield 49, 3) := by decide +kernel
theorem dX13_init_96 : decode cX13_init 96 = .ok (.aload_n 0, 1) := by decide +kernel
theorem dX13_init_97 : decode cX13_init 97 = .ok (.bipush 12, 2) := by decide +kernel
theorem dX13_init_99 : decode cX13_init 99 = .ok (.newarray .int, 2) := by decide +kernel
theorem dX13_init_101 : decode cX13_init 101 = .ok (.putfield 52, 3) := by decide +kernel
theorem dX13_init_104 : decode cX13_init 104 = .ok (.aload_n 0, 1) := by decide +kernel
theorem dX13_init_105 : decode cX13_init 105 = .ok (.bipush 96, 2) := by decide +kernel
theorem dX13_init_107 : decode cX13_init 107 = .ok (.newarray .int, 2) := by decide +kernel
theorem dX13_init_109 : decode cX13_init 109 = .ok (.putfield 55, 3) := by decide +kernel
theorem dX13_init_112 : decode cX13_init 112 = .ok (.aload_n 0, 1) := by decide +kernel
theorem dX13_init_113 : decode cX13_init 113 = .ok (.bipush 24, 2) := by decide +kernel
theorem dX13_init_115 : decode cX13_init 115 = .ok (.newarray .int, 2) := by decide +kernel
theorem dX13_init_117 : decode cX13_init 117 = .ok (.putfield 58, 3) := by decide +kernel
theorem dX13_init_120 : decode cX13_init 120 = .ok (.aload_n 0, 1) := by decide +kernel
theorem dX13_init_121 : decode cX13_init 121 = .ok (.iconst 4, 1) := by decide +kernel
theorem dX13_init_122 : decode cX13_init 122 = .ok (.newarray .int, 2) := by decide +kernel
theorem dX13_init_124 : decode cX13_init 124 = .ok (.putfield 61, 3) := by decide +kernel
theorem dX13_init_127 : decode cX13_init 127 = .ok (.aload_n 0, 1) := by decide +kernel
theorem dX13_init_128 : decode cX13_init 128 = .ok (.iconst (-1), 1) := by decide +kernel
theorem dX13_init_129 : decode cX13_init 129 = .ok (.putfield 64, 3) := by decide +kernel
theorem dX13_init_132 : decode cX13_init 132 = .ok (.aload_n 0, 1) := by decide +kernel
theorem dX13_init_133 : decode cX13_init 133 = .ok (.bipush 11, 2) := by decide +kernel
theorem dX13_init_135 : decode cX13_init 135 = .ok (.newarray .boolean, 2) := by decide +kernel
theorem dX13_init_137 : decode cX13_init 137 = .ok (.putfield 68, 3) := by decide +kernel
theorem dX13_init_140 : decode cX13_init 140 = .ok (.aload_n 0, 1) := by decide +kernel
theorem dX13_init_141 : decode cX13_init 141 = .ok (.bipush 62, 2) := by decide +kernel
theorem dX13_init_143 : decode cX13_init 143 = .ok (.newarray .int, 2) := by decide +kernel
theorem dX13_init_145 : decode cX13_init 145 = .ok (.putfield 72, 3) := by decide +kernel
theorem dX13_init_148 : decode cX13_init 148 = .ok (.aload_n 0, 1) := by decide +kernel
theorem dX13_init_149 : decode cX13_init 149 = .ok (.bipush 36, 2) := by decide +kernel
theorem dX13_init_151 : decode cX13_init 151 = .ok (.newarray .long, 2) := by decide +kernel
theorem dX13_init_153 : decode cX13_init 153 = .ok (.putfield 75, 3) := by decide +kernel
theorem dX13_init_156 : decode cX13_init 156 = .ok (.aload_n 0, 1) := by decide +kernel
theorem dX13_init_157 : decode cX13_init 157 = .ok (.bipush 6, 2) := by decide +kernel
theorem dX13_init_159 : decode cX13_init 159 = .ok (.newarray .int, 2) := by decide +kernel
theorem dX13_init_161 : decode cX13_init 161 = .ok (.putfield 79, 3) := by decide +kernel
theorem dX13_init_164 : decode cX13_init 164 = .ok (.aload_n 0, 1) := by decide +kernel
theorem dX13_init_165 : decode cX13_init 165 = .ok (.bipush 20, 2) := by decide +kernel
theorem dX13_init_167 : decode cX13_init 167 = .ok (.newarray .int, 2) := by decide +kernel
theorem dX13_init_169 : decode cX13_init 169 = .ok (.putfield 82, 3) := by decide +kernel
theorem dX13_init_172 : decode cX13_init 172 = .ok (.aload_n 0, 1) := by decide +kernel
theorem dX13_init_173 : decode cX13_init 173 = .ok (.bipush 20, 2) := by decide +kernel
theorem dX13_init_175 : decode cX13_init 175 = .ok (.newarray .int, 2) := by decide +kernel
theorem dX13_init_177 : decode cX13_init 177 = .ok (.putfield 85, 3) := by decide +kernel
theorem dX13_init_180 : decode cX13_init 180 = .ok (.aload_n 0, 1) := by decide +kernel
theorem dX13_init_181 : decode cX13_init 181 = .ok (.bipush 20, 2) := by decide +kernel
theorem dX13_init_183 : decode cX13_init 183 = .ok (.newarray .boolean, 2) := by decide +kernel
theorem dX13_init_185 : decode cX13_init 185 = .ok (.putfield 88, 3) := by decide +kernel
theorem dX13_init_188 : decode cX13_init 188 = .ok (.aload_n 0, 1) := by decide +kernel
theorem dX13_init_189 : decode cX13_init 189 = .ok (.bipush 62, 2) := by decide +kernel
theorem dX13_init_191 : decode cX13_init 191 = .ok (.newarray .int, 2) := by decide +kernel
theorem dX13_init_193 : decode cX13_init 193 = .ok (.putfield 91, 3) := by decide +kernel
theorem dX13_init_196 : decode cX13_init 196 = .ok (.aload_n 0, 1) := by decide +kernel
theorem dX13_init_197 : decode cX13_init 197 = .ok (.bipush 62, 2) := by decide +kernel
theorem dX13_init_199 : decode cX13_init 199 = .ok (.newarray .int, 2) := by decide +kernel
theorem dX13_init_201 : decode cX13_init 201 = .ok (.putfield 94, 3) := by decide +kernel
theorem dX13_init_204 : decode cX13_init 204 = .ok (.aload_n 0, 1) := by decide +kernel
theorem dX13_init_205 : decode cX13_init 205 = .ok (.bipush 36, 2) := by decide +kernel
theorem dX13_init_207 : decode cX13_init 207 = .ok (.newarray .int, 2) := by decide +kernel
theorem dX13_init_209 : decode cX13_init 209 = .ok (.putfield 97, 3) := by decide +kernel
theorem dX13_init_212 : decode cX13_init 212 = .ok (.aload_n 0, 1) := by decide +kernel
theorem dX13_init_213 : decode cX13_init 213 = .ok (.bipush 6, 2) := by decide +kernel
theorem dX13_init_215 : decode cX13_init 215 = .ok (.newarray .int, 2) := by decide +kernel
theorem dX13_init_217 : decode cX13_init 217 = .ok (.putfield 100, 3) := by decide +kernel
theorem dX13_init_220 : decode cX13_init 220 = .ok (.aload_n 0, 1) := by decide +kernel
theorem dX13_init_221 : decode cX13_init 221 = .ok (.sipush 372, 3) := by decide +kernel
theorem dX13_init_224 : decode cX13_init 224 = .ok (.newarray .int, 2) := by decide +kernel
theorem dX13_init_226 : decode cX13_init 226 = .ok (.putfield 103, 3) := by decide +kernel
theorem dX13_init_229 : decode cX13_init 229 = .ok (.aload_n 0, 1) := by decide +kernel
theorem dX13_init_230 : decode cX13_init 230 = .ok (.bipush 36, 2) := by decide +kernel
theorem dX13_init_232 : decode cX13_init 232 = .ok (.newarray .int, 2) := by decide +kernel
theorem dX13_init_234 : decode cX13_init 234 = .ok (.putfield 106, 3) := by decide +kernel
theorem dX13_init_237 : decode cX13_init 237 = .ok (.aload_n 0, 1) := by decide +kernel
theorem dX13_init_238 : decode cX13_init 238 = .ok (.bipush 6, 2) := by decide +kernel
theorem dX13_init_240 : decode cX13_init 240 = .ok (.newarray .int, 2) := by decide +kernel
theorem dX13_init_242 : decode cX13_init 242 = .ok (.putfield 109, 3) := by decide +kernel
theorem dX13_init_245 : decode cX13_init 245 = .ok (.aload_n 0, 1) := by decide +kernel
theorem dX13_init_246 : decode cX13_init 246 = .ok (.bipush 20, 2) := by decide +kernel
theorem dX13_init_248 : decode cX13_init 248 = .ok (.newarray .int, 2) := by decide +kernel
theorem dX13_init_250 : decode cX13_init 250 = .ok (.putfield 112, 3) := by decide +kernel
theorem dX13_init_253 : decode cX13_init 253 = .ok (.aload_n 0, 1) := by decide +kernel
theorem dX13_init_254 : decode cX13_init 254 = .ok (.bipush 20, 2) := by decide +kernel
theorem dX13_init_256 : decode cX13_init 256 = .ok (.newarray .int, 2) := by decide +kernel
theorem dX13_init_258 : decode cX13_init 258 = .ok (.putfield 115, 3) := by decide +kernel
theorem dX13_init_261 : decode cX13_init 261 = .ok (.aload_n 0, 1) := by decide +kernel
theorem dX13_init_262 : decode cX13_init 262 = .ok (.bipush 20, 2) := by decide +kernel
theorem dX13_init_264 : decode cX13_init 264 = .ok (.newarray .int, 2) := by decide +kernel
theorem dX13_init_266 : decode cX13_init 266 = .ok (.putfield 118, 3) := by decide +kernel
theorem dX13_init_269 : decode cX13_init 269 = .ok (.aload_n 0, 1) := by decide +kernel
theorem dX13_init_270 : decode cX13_init 270 = .ok (.bipush 20, 2) := by decide +kernel
theorem dX13_init_272 : decode cX13_init 272 = .ok (.newarray .int, 2) := by decide +kernel
theorem dX13_init_274 : decode cX13_init 274 = .ok (.putfield 121, 3) := by decide +kernel
theorem dX13_init_277 : decode cX13_init 277 = .ok (.aload_n 0, 1) := by decide +kernel
theorem dX13_init_278 : decode cX13_init 278 = .ok (.bipush 36, 2) := by decide +kernel
theorem dX13_init_280 : decode cX13_init 280 = .ok (.newarray .int, 2) := by decide +kernel
theorem dX13_init_282 : decode cX13_init 282 = .ok (.putfield 124, 3) := by decide +kernel
theorem dX13_init_285 : decode cX13_init 285 = .ok (.aload_n 0, 1) := by decide +kernel
theorem dX13_init_286 : decode cX13_init 286 = .ok (.bipush 40, 2) := by decide +kernel
theorem dX13_init_288 : decode cX13_init 288 = .ok (.newarray .int, 2) := by decide +kernel
theorem dX13_init_290 : decode cX13_init 290 = .ok (.putfield 127, 3) := by decide +kernel
theorem dX13_init_293 : decode cX13_init 293 = .ok (.aload_n 0, 1) := by decide +kernel
theorem dX13_init_294 : decode cX13_init 294 = .ok (.bipush 40, 2) := by decide +kernel
theorem dX13_init_296 : decode cX13_init 296 = .ok (.newarray .int, 2) := by decide +kernel
theorem dX13_init_298 : decode cX13_init 298 = .ok (.putfield 130, 3) := by decide +kernel
theorem dX13_init_301 : decode cX13_init 301 = .ok (.aload_n 0, 1) := by decide +kernel
theorem dX13_init_302 : decode cX13_init 302 = .ok (.bipush 40, 2) := by decide +kernel
theorem dX13_init_304 : decode cX13_init 304 = .ok (.newarray .int, 2) := by decide +kernel
theorem dX13_init_306 : decode cX13_init 306 = .ok (.putfield 133, 3) := by decide +kernel
theorem dX13_init_309 : decode cX13_init 309 = .ok (.aload_n 0, 1) := by decide +kernel
theorem dX13_init_310 : decode cX13_init 310 = .ok (.iconst 4, 1) := by decide +kernel
theorem dX13_init_311 : decode cX13_init 311 = .ok (.newarray .int, 2) := by decide +kernel
theorem dX13_init_313 : decode cX13_init 313 = .ok (.putfield 136, 3) := by decide +kernel
theorem dX13_init_316 : decode cX13_init 316 = .ok (.aload_n 0, 1) := by decide +kernel
theorem dX13_init_317 : decode cX13_init 317 = .ok (.bipush 40, 2) := by decide +kernel
theorem dX13_init_319 : decode cX13_init 319 = .ok (.newarray .int, 2) := by decide +kernel
theorem dX13_init_321 : decode cX13_init 321 = .ok (.putfield 139, 3) := by decide +kernel
theorem dX13_init_324 : decode cX13_init 324 = .ok (.aload_n 0, 1) := by decide +kernel
theorem dX13_init_325 : decode cX13_init 325 = .ok (.bipush 40, 2) := by decide +kernel
theorem dX13_init_327 : decode cX13_init 327 = .ok (.newarray .int, 2) := by decide +kernel
theorem dX13_init_329 : decode cX13_init 329 = .ok (.putfield 142, 3) := by decide +kernel
theorem dX13_init_332 : decode cX13_init 332 = .ok (.aload_n 0, 1) := by decide +kernel
theorem dX13_init_333 : decode cX13_init 333 = .ok (.bipush 40, 2) := by decide +kernel
theorem dX13_init_335 : decode cX13_init 335 = .ok (.newarray .int, 2) := by decide +kernel
theorem dX13_init_337 : decode cX13_init 337 = .ok (.putfield 145, 3) := by decide +kernel
theorem dX13_init_340 : decode cX13_init 340 = .ok (.return_, 1) := by decide +kernel
def fX13_init (h : eg_H) (l0 : Nat) : Option (eg_H) :=
  (eg_na h 102 (160 : Int32)).bind fun h2 =>
  (some (eg_nc h)).bind fun p1 =>
  (eg_pP h2 13 1 l0 (some p1)).bind fun h5 =>
  (eg_na h5 102 (640 : Int32)).bind fun h8 =>
  (some (eg_nc h5)).bind fun p7 =>
  (eg_pP h8 13 2 l0 (some p7)).bind fun h11 =>
  (eg_na h11 100 (4 : Int32)).bind fun h14 =>
  (some (eg_nc h11)).bind fun p13 =>
  (eg_pP h14 13 3 l0 (some p13)).bind fun h17 =>
  (eg_na h17 100 (128 : Int32)).bind fun h20 =>
  (some (eg_nc h17)).bind fun p19 =>
  (eg_pP h20 13 4 l0 (some p19)).bind fun h23 =>
  (eg_gR h23 13 1 l0).bind fun p25 =>
  (eg_pP h23 13 5 l0 (some p25)).bind fun h27 =>
  (eg_pP h27 13 15 l0 (some 5)).bind fun h29 =>
  (eg_pP h29 13 16 l0 (some 6)).bind fun h31 =>
  (eg_na h31 100 (4 : Int32)).bind fun h34 =>
  (some (eg_nc h31)).bind fun p33 =>
  (eg_pP h34 13 18 l0 (some p33)).bind fun h37 =>
  (eg_na h37 100 (4 : Int32)).bind fun h40 =>
  (some (eg_nc h37)).bind fun p39 =>
  (eg_pP h40 13 19 l0 (some p39)).bind fun h43 =>
  (eg_na h43 100 (24 : Int32)).bind fun h46 =>
  (some (eg_nc h43)).bind fun p45 =>
  (eg_pP h46 13 20 l0 (some p45)).bind fun h49 =>
  (eg_na h49 100 (24 : Int32)).bind fun h52 =>
  (some (eg_nc h49)).bind fun p51 =>
  (eg_pP h52 13 21 l0 (some p51)).bind fun h55 =>
  (eg_na h55 100 (12 : Int32)).bind fun h58 =>
  (some (eg_nc h55)).bind fun p57 =>
  (eg_pP h58 13 22 l0 (some p57)).bind fun h61 =>
  (eg_na h61 100 (12 : Int32)).bind fun h64 =>
  (some (eg_nc h61)).bind fun p63 =>
  (eg_pP h64 13 23 l0 (some p63)).bind fun h67 =>
  (eg_na h67 100 (96 : Int32)).bind fun h70 =>
  (some (eg_nc h67)).bind fun p69 =>
  (eg_pP h70 13 29 l0 (some p69)).bind fun h73 =>
  (eg_na h73 100 (24 : Int32)).bind fun h76 =>
  (some (eg_nc h73)).bind fun p75 =>
  (eg_pP h76 13 30 l0 (some p75)).bind fun h79 =>
  (eg_na h79 100 (4 : Int32)).bind fun h82 =>
  (some (eg_nc h79)).bind fun p81 =>
  (eg_pP h82 13 31 l0 (some p81)).bind fun h85 =>
  (eg_pI h85 13 34 l0 (-1 : Int32)).bind fun h87 =>
  (eg_na h87 103 (11 : Int32)).bind fun h90 =>
  (some (eg_nc h87)).bind fun p89 =>
  (eg_pP h90 13 35 l0 (some p89)).bind fun h93 =>
  (eg_na h93 100 (62 : Int32)).bind fun h96 =>
  (some (eg_nc h93)).bind fun p95 =>
  (eg_pP h96 13 39 l0 (some p95)).bind fun h99 =>
  (eg_na h99 101 (36 : Int32)).bind fun h102 =>
  (some (eg_nc h99)).bind fun p101 =>
  (eg_pP h102 13 42 l0 (some p101)).bind fun h105 =>
  (eg_na h105 100 (6 : Int32)).bind fun h108 =>
  (some (eg_nc h105)).bind fun p107 =>
  (eg_pP h108 13 43 l0 (some p107)).bind fun h111 =>
  (eg_na h111 100 (20 : Int32)).bind fun h114 =>
  (some (eg_nc h111)).bind fun p113 =>
  (eg_pP h114 13 46 l0 (some p113)).bind fun h117 =>
  (eg_na h117 100 (20 : Int32)).bind fun h120 =>
  (some (eg_nc h117)).bind fun p119 =>
  (eg_pP h120 13 47 l0 (some p119)).bind fun h123 =>
  (eg_na h123 103 (20 : Int32)).bind fun h126 =>
  (some (eg_nc h123)).bind fun p125 =>
  (eg_pP h126 13 48 l0 (some p125)).bind fun h129 =>
  (eg_na h129 100 (62 : Int32)).bind fun h132 =>
  (some (eg_nc h129)).bind fun p131 =>
  (eg_pP h132 13 50 l0 (some p131)).bind fun h135 =>
  (eg_na h135 100 (62 : Int32)).bind fun h138 =>
  (some (eg_nc h135)).bind fun p137 =>
  (eg_pP h138 13 51 l0 (some p137)).bind fun h141 =>
  (eg_na h141 100 (36 : Int32)).bind fun h144 =>
  (some (eg_nc h141)).bind fun p143 =>
  (eg_pP h144 13 52 l0 (some p143)).bind fun h147 =>
  (eg_na h147 100 (6 : Int32)).bind fun h150 =>
  (some (eg_nc h147)).bind fun p149 =>
  (eg_pP h150 13 53 l0 (some p149)).bind fun h153 =>
  (eg_na h153 100 (372 : Int32)).bind fun h156 =>
  (some (eg_nc h153)).bind fun p155 =>
  (eg_pP h156 13 56 l0 (some p155)).bind fun h159 =>
  (eg_na h159 100 (36 : Int32)).bind fun h162 =>
  (some (eg_nc h159)).bind fun p161 =>
  (eg_pP h162 13 57 l0 (some p161)).bind fun h165 =>
  (eg_na h165 100 (6 : Int32)).bind fun h168 =>
  (some (eg_nc h165)).bind fun p167 =>
  (eg_pP h168 13 58 l0 (some p167)).bind fun h171 =>
  (eg_na h171 100 (20 : Int32)).bind fun h174 =>
  (some (eg_nc h171)).bind fun p173 =>
  (eg_pP h174 13 61 l0 (some p173)).bind fun h177 =>
  (eg_na h177 100 (20 : Int32)).bind fun h180 =>
  (some (eg_nc h177)).bind fun p179 =>
  (eg_pP h180 13 62 l0 (some p179)).bind fun h183 =>
  (eg_na h183 100 (20 : Int32)).bind fun h186 =>
  (some (eg_nc h183)).bind fun p185 =>
  (eg_pP h186 13 63 l0 (some p185)).bind fun h189 =>
  (eg_na h189 100 (20 : Int32)).bind fun h192 =>
  (some (eg_nc h189)).bind fun p191 =>
  (eg_pP h192 13 64 l0 (some p191)).bind fun h195 =>
  (eg_na h195 100 (36 : Int32)).bind fun h198 =>
  (some (eg_nc h195)).bind fun p197 =>
  (eg_pP h198 13 66 l0 (some p197)).bind fun h201 =>
  (eg_na h201 100 (40 : Int32)).bind fun h204 =>
  (some (eg_nc h201)).bind fun p203 =>
  (eg_pP h204 13 69 l0 (some p203)).bind fun h207 =>
  (eg_na h207 100 (40 : Int32)).bind fun h210 =>
  (some (eg_nc h207)).bind fun p209 =>
  (eg_pP h210 13 70 l0 (some p209)).bind fun h213 =>
  (eg_na h213 100 (40 : Int32)).bind fun h216 =>
  (some (eg_nc h213)).bind fun p215 =>
  (eg_pP h216 13 71 l0 (some p215)).bind fun h219 =>
  (eg_na h219 100 (4 : Int32)).bind fun h222 =>
  (some (eg_nc h219)).bind fun p221 =>
  (eg_pP h222 13 73 l0 (some p221)).bind fun h225 =>
  (eg_na h225 100 (40 : Int32)).bind fun h228 =>
  (some (eg_nc h225)).bind fun p227 =>
  (eg_pP h228 13 74 l0 (some p227)).bind fun h231 =>
  (eg_na h231 100 (40 : Int32)).bind fun h234 =>
  (some (eg_nc h231)).bind fun p233 =>
  (eg_pP h234 13 75 l0 (some p233)).bind fun h237 =>
  (eg_na h237 100 (40 : Int32)).bind fun h240 =>
  (some (eg_nc h237)).bind fun p239 =>
  (eg_pP h240 13 76 l0 (some p239)).bind fun h243 =>
  some h243
set_option maxRecDepth 20000 in
theorem mX13_init {h : eg_H} {l0 : Nat} {hE : eg_H} (hF : fX13_init h l0 = some hE) : eg_Met yX13_init cX13_init 1 none 1 [.ref l0] h none hE := by
  refine eg_enter rfl (Nat.le_of_ble_eq_true rfl) ?_
  show eg_AW (RX13, cX13_init, 1, 1, none, "<init>", none) (eg_Zm none hE h) (eg_nc hE) (eg_ns hE) h 0 [(0, .ref l0)] [] h
  refine eg_aload_n (i := 0) 0 dX13_init_0 rfl rfl ?_
  refine eg_objInit dX13_init_1 ew_1431 (Nat.le_of_ble_eq_true rfl) (Nat.le_of_ble_eq_true rfl) ?_
  refine eg_aload_n (i := 0) 0 dX13_init_4 rfl rfl ?_
  refine eg_sipush (v := (160 : Int32)) dX13_init_5 (by decide) ?_
  replace hF := eg_bind hF; obtain ⟨h2, e3, hF⟩ := hF
  replace hF := eg_bind hF; obtain ⟨p1, e4, hF⟩ := hF
  refine eg_newa .byte dX13_init_8 e3 2 (Nat.le_of_ble_eq_true rfl) (Nat.le_of_ble_eq_true rfl) (Nat.le_of_ble_eq_true rfl) (fun _ => rfl) (by decide) rfl ew_1425 ?_
  replace e4 := Option.some.inj e4
  rw [e4]
  replace hF := eg_bind hF; obtain ⟨h5, e6, hF⟩ := hF
  refine eg_putR dX13_init_10 e6 (Nat.le_of_ble_eq_true rfl) (Nat.le_of_ble_eq_true rfl) rfl ew_1435 (Or.inr ⟨rfl, rfl, rfl⟩) ?_
  refine eg_aload_n (i := 0) 0 dX13_init_13 rfl rfl ?_
  refine eg_sipush (v := (640 : Int32)) dX13_init_14 (by decide) ?_
  replace hF := eg_bind hF; obtain ⟨h8, e9, hF⟩ := hF
  replace hF := eg_bind hF; obtain ⟨p7, e10, hF⟩ := hF
  refine eg_newa .byte dX13_init_17 e9 2 (Nat.le_of_ble_eq_true rfl) (Nat.le_of_ble_eq_true rfl) (Nat.le_of_ble_eq_true rfl) (fun _ => rfl) (by decide) rfl ew_1425 ?_
  replace e10 := Option.some.inj e10
  rw [e10]
  replace hF := eg_bind hF; obtain ⟨h11, e12, hF⟩ := hF
  refine eg_putR dX13_init_19 e12 (Nat.le_of_ble_eq_true rfl) (Nat.le_of_ble_eq_true rfl) rfl ew_1436 (Or.inr ⟨rfl, rfl, rfl⟩) ?_
  refine eg_aload_n (i := 0) 0 dX13_init_22 rfl rfl ?_
  refine eg_iconst (v := (4 : Int32)) dX13_init_23 (by decide) ?_
  replace hF := eg_bind hF; obtain ⟨h14, e15, hF⟩ := hF
  replace hF := eg_bind hF; obtain ⟨p13, e16, hF⟩ := hF
  refine eg_newa .int dX13_init_24 e15 0 (Nat.le_of_ble_eq_true rfl) (Nat.le_of_ble_eq_true rfl) (Nat.le_of_ble_eq_true rfl) (fun _ => rfl) (by decide) rfl ew_156 ?_
  replace e16 := Option.some.inj e16
  rw [e16]
  replace hF := eg_bind hF; obtain ⟨h17, e18, hF⟩ := hF
  refine eg_putR dX13_init_26 e18 (Nat.le_of_ble_eq_true rfl) (Nat.le_of_ble_eq_true rfl) rfl ew_1437 (Or.inr ⟨rfl, rfl, rfl⟩) ?_
  refine eg_aload_n (i := 0) 0 dX13_init_29 rfl rfl ?_
  refine eg_sipush (v := (128 : Int32)) dX13_init_30 (by decide) ?_
  replace hF := eg_bind hF; obtain ⟨h20, e21, hF⟩ := hF
  replace hF := eg_bind hF; obtain ⟨p19, e22, hF⟩ := hF
  refine eg_newa .int dX13_init_33 e21 0 (Nat.le_of_ble_eq_true rfl) (Nat.le_of_ble_eq_true rfl) (Nat.le_of_ble_eq_true rfl) (fun _ => rfl) (by decide) rfl ew_156 ?_
  replace e22 := Option.some.inj e22
  rw [e22]
  replace hF := eg_bind hF; obtain ⟨h23, e24, hF⟩ := hF
  refine eg_putR dX13_init_35 e24 (Nat.le_of_ble_eq_true rfl) (Nat.le_of_ble_eq_true rfl) rfl ew_1438 (Or.inr ⟨rfl, rfl, rfl⟩) ?_
  refine eg_aload_n (i := 0) 0 dX13_init_38 rfl rfl ?_
  refine eg_aload_n (i := 0) 0 dX13_init_39 rfl rfl ?_
  replace hF := eg_bind hF; obtain ⟨p25, e26, hF⟩ := hF
  refine eg_getR dX13_init_40 e26 (Nat.le_of_ble_eq_true rfl) (Nat.le_of_ble_eq_true rfl) rfl ew_1435 ?_
  replace hF := eg_bind hF; obtain ⟨h27, e28, hF⟩ := hF
  refine eg_putR dX13_init_43 e28 (Nat.le_of_ble_eq_true rfl) (Nat.le_of_ble_eq_true rfl) rfl ew_1439 (Or.inl rfl) ?_
  refine eg_aload_n (i := 0) 0 dX13_init_46 rfl rfl ?_
  refine eg_ldcS (i := 0) dX13_init_47 (by decide) rfl rfl ?_
  replace hF := eg_bind hF; obtain ⟨h29, e30, hF⟩ := hF
  refine eg_putR dX13_init_49 e30 (Nat.le_of_ble_eq_true rfl) (Nat.le_of_ble_eq_true rfl) rfl ew_1449 (Or.inr ⟨rfl, rfl, rfl⟩) ?_
  refine eg_aload_n (i := 0) 0 dX13_init_52 rfl rfl ?_
  refine eg_ldcS (i := 1) dX13_init_53 (by decide) rfl rfl ?_
  replace hF := eg_bind hF; obtain ⟨h31, e32, hF⟩ := hF
  refine eg_putR dX13_init_55 e32 (Nat.le_of_ble_eq_true rfl) (Nat.le_of_ble_eq_true rfl) rfl ew_1450 (Or.inr ⟨rfl, rfl, rfl⟩) ?_
  refine eg_aload_n (i := 0) 0 dX13_init_58 rfl rfl ?_
  refine eg_iconst (v := (4 : Int32)) dX13_init_59 (by decide) ?_
  replace hF := eg_bind hF; obtain ⟨h34, e35, hF⟩ := hF
  replace hF := eg_bind hF; obtain ⟨p33, e36, hF⟩ := hF
  refine eg_newa .int dX13_init_60 e35 0 (Nat.le_of_ble_eq_true rfl) (Nat.le_of_ble_eq_true rfl) (Nat.le_of_ble_eq_true rfl) (fun _ => rfl) (by decide) rfl ew_156 ?_
  replace e36 := Option.some.inj e36
  rw [e36]
  replace hF := eg_bind hF; obtain ⟨h37, e38, hF⟩ := hF
  refine eg_putR dX13_init_62 e38 (Nat.le_of_ble_eq_true rfl) (Nat.le_of_ble_eq_true rfl) rfl ew_1452 (Or.inr ⟨rfl, rfl, rfl⟩) ?_
  refine eg_aload_n (i := 0) 0 dX13_init_65 rfl rfl ?_
  refine eg_iconst (v := (4 : Int32)) dX13_init_66 (by decide) ?_
  replace hF := eg_bind hF; obtain ⟨h40, e41, hF⟩ := hF
  replace hF := eg_bind hF; obtain ⟨p39, e42, hF⟩ := hF
  refine eg_newa .int dX13_init_67 e41 0 (Nat.le_of_ble_eq_true rfl) (Nat.le_of_ble_eq_true rfl) (Nat.le_of_ble_eq_true rfl) (fun _ => rfl) (by decide) rfl ew_156 ?_
  replace e42 := Option.some.inj e42
  rw [e42]
  replace hF := eg_bind hF; obtain ⟨h43, e44, hF⟩ := hF
  refine eg_putR dX13_init_69 e44 (Nat.le_of_ble_eq_true rfl) (Nat.le_of_ble_eq_true rfl) rfl ew_1453 (Or.inr ⟨rfl, rfl, rfl⟩) ?_
  refine eg_aload_n (i := 0) 0 dX13_init_72 rfl rfl ?_
  refine eg_bipush (v := (24 : Int32)) dX13_init_73 (by decide) ?_
  replace hF := eg_bind hF; obtain ⟨h46, e47, hF⟩ := hF
  replace hF := eg_bind hF; obtain ⟨p45, e48, hF⟩ := hF
  refine eg_newa .int dX13_init_75 e47 0 (Nat.le_of_ble_eq_true rfl) (Nat.le_of_ble_eq_true rfl) (Nat.le_of_ble_eq_true rfl) (fun _ => rfl) (by decide) rfl ew_156 ?_
  replace e48 := Option.some.inj e48
  rw [e48]
  replace hF := eg_bind hF; obtain ⟨h49, e50, hF⟩ := hF
  refine eg_putR dX13_init_77 e50 (Nat.le_of_ble_eq_true rfl) (Nat.le_of_ble_eq_true rfl) rfl ew_1454 (Or.inr ⟨rfl, rfl, rfl⟩) ?_
  refine eg_aload_n (i := 0) 0 dX13_init_80 rfl rfl ?_
  refine eg_bipush (v := (24 : Int32)) dX13_init_81 (by decide) ?_
  replace hF := eg_bind hF; obtain ⟨h52, e53, hF⟩ := hF
  replace hF := eg_bind hF; obtain ⟨p51, e54, hF⟩ := hF
  refine eg_newa .int dX13_init_83 e53 0 (Nat.le_of_ble_eq_true rfl) (Nat.le_of_ble_eq_true rfl) (Nat.le_of_ble_eq_true rfl) (fun _ => rfl) (by decide) rfl ew_156 ?_
  replace e54 := Option.some.inj e54
  rw [e54]
  replace hF := eg_bind hF; obtain ⟨h55, e56, hF⟩ := hF
  refine eg_putR dX13_init_85 e56 (Nat.le_of_ble_eq_true rfl) (Nat.le_of_ble_eq_true rfl) rfl ew_1455 (Or.inr ⟨rfl, rfl, rfl⟩) ?_
  refine eg_aload_n (i := 0) 0 dX13_init_88 rfl rfl ?_
  refine eg_bipush (v := (12 : Int32)) dX13_init_89 (by decide) ?_
  replace hF := eg_bind hF; obtain ⟨h58, e59, hF⟩ := hF
  replace hF := eg_bind hF; obtain ⟨p57, e60, hF⟩ := hF
  refine eg_newa .int dX13_init_91 e59 0 (Nat.le_of_ble_eq_true rfl) (Nat.le_of_ble_eq_true rfl) (Nat.le_of_ble_eq_true rfl) (fun _ => rfl) (by decide) rfl ew_156 ?_
  replace e60 := Option.some.inj e60
  rw [e60]
  replace hF := eg_bind hF; obtain ⟨h61, e62, hF⟩ := hF
  refine eg_putR dX13_init_93 e62 (Nat.le_of_ble_eq_true rfl) (Nat.le_of_ble_eq_true rfl) rfl ew_1456 (Or.inr ⟨rfl, rfl, rfl⟩) ?_
  refine eg_aload_n (i := 0) 0 dX13_init_96 rfl rfl ?_
  refine eg_bipush (v := (12 : Int32)) dX13_init_97 (by decide) ?_
  replace hF := eg_bind hF; obtain ⟨h64, e65, hF⟩ := hF
  replace hF := eg_bind hF; obtain ⟨p63, e66, hF⟩ := hF
  refine eg_newa .int dX13_init_99 e65 0 (Nat.le_of_ble_eq_true rfl) (Nat.le_of_ble_eq_true rfl) (Nat.le_of_ble_eq_true rfl) (fun _ => rfl) (by decide) rfl ew_156 ?_
  replace e66 := Option.some.inj e66
  rw [e66]
  replace hF := eg_bind hF; obtain ⟨h67, e68, hF⟩ := hF
  refine eg_putR dX13_init_101 e68 (Nat.le_of_ble_eq_true rfl) (Nat.le_of_ble_eq_true rfl) rfl ew_1457 (Or.inr ⟨rfl, rfl, rfl⟩) ?_
  refine eg_aload_n (i := 0) 0 dX13_init_104 rfl rfl ?_
  refine eg_bipush (v := (96 : Int32)) dX13_init_105 (by decide) ?_
  replace hF := eg_bind hF; obtain ⟨h70, e71, hF⟩ := hF
  replace hF := eg_bind hF; obtain ⟨p69, e72, hF⟩ := hF
  refine eg_newa .int dX13_init_107 e71 0 (Nat.le_of_ble_eq_true rfl) (Nat.le_of_ble_eq_true rfl) (Nat.le_of_ble_eq_true rfl) (fun _ => rfl) (by decide) rfl ew_156 ?_
  replace e72 := Option.some.inj e72
  rw [e72]
  replace hF := eg_bind hF; obtain ⟨h73, e74, hF⟩ := hF
  refine eg_putR dX13_init_109 e74 (Nat.le_of_ble_eq_true rfl) (Nat.le_of_ble_eq_true rfl) rfl ew_1463 (Or.inr ⟨rfl, rfl, rfl⟩) ?_
  refine eg_aload_n (i := 0) 0 dX13_init_112 rfl rfl ?_
  refine eg_bipush (v := (24 : Int32)) dX13_init_113 (by decide) ?_
  replace hF := eg_bind hF; obtain ⟨h76, e77, hF⟩ := hF
  replace hF := eg_bind hF; obtain ⟨p75, e78, hF⟩ := hF
  refine eg_newa .int dX13_init_115 e77 0 (Nat.le_of_ble_eq_true rfl) (Nat.le_of_ble_eq_true rfl) (Nat.le_of_ble_eq_true rfl) (fun _ => rfl) (by decide) rfl ew_156 ?_
  replace e78 := Option.some.inj e78
  rw [e78]
  replace hF := eg_bind hF; obtain ⟨h79, e80, hF⟩ := hF
  refine eg_putR dX13_init_117 e80 (Nat.le_of_ble_eq_true rfl) (Nat.le_of_ble_eq_true rfl) rfl ew_1464 (Or.inr ⟨rfl, rfl, rfl⟩) ?_
  refine eg_aload_n (i := 0) 0 dX13_init_120 rfl rfl ?_
  refine eg_iconst (v := (4 : Int32)) dX13_init_121 (by decide) ?_
  replace hF := eg_bind hF; obtain ⟨h82, e83, hF⟩ := hF
  replace hF := eg_bind hF; obtain ⟨p81, e84, hF⟩ := hF
  refine eg_newa .int dX13_init_122 e83 0 (Nat.le_of_ble_eq_true rfl) (Nat.le_of_ble_eq_true rfl) (Nat.le_of_ble_eq_true rfl) (fun _ => rfl) (by decide) rfl ew_156 ?_
  replace e84 := Option.some.inj e84
  rw [e84]
  replace hF := eg_bind hF; obtain ⟨h85, e86, hF⟩ := hF
  refine eg_putR dX13_init_124 e86 (Nat.le_of_ble_eq_true rfl) (Nat.le_of_ble_eq_true rfl) rfl ew_1465 (Or.inr ⟨rfl, rfl, rfl⟩) ?_
  refine eg_aload_n (i := 0) 0 dX13_init_127 rfl rfl ?_
  refine eg_iconst (v := (-1 : Int32)) dX13_init_128 (by decide) ?_
  replace hF := eg_bind hF; obtain ⟨h87, e88, hF⟩ := hF
  refine eg_putI dX13_init_129 e88 (Nat.le_of_ble_eq_true rfl) (Nat.le_of_ble_eq_true rfl) rfl ew_1468 (Or.inl rfl) ?_
  refine eg_aload_n (i := 0) 0 dX13_init_132 rfl rfl ?_
  refine eg_bipush (v := (11 : Int32)) dX13_init_133 (by decide) ?_
  replace hF := eg_bind hF; obtain ⟨h90, e91, hF⟩ := hF
  replace hF := eg_bind hF; obtain ⟨p89, e92, hF⟩ := hF
  refine eg_newa .boolean dX13_init_135 e91 3 (Nat.le_of_ble_eq_true rfl) (Nat.le_of_ble_eq_true rfl) (Nat.le_of_ble_eq_true rfl) (fun _ => rfl) (by decide) rfl ew_1672 ?_
  replace e92 := Option.some.inj e92
  rw [e92]
  replace hF := eg_bind hF; obtain ⟨h93, e94, hF⟩ := hF
  refine eg_putR dX13_init_137 e94 (Nat.le_of_ble_eq_true rfl) (Nat.le_of_ble_eq_true rfl) rfl ew_1469 (Or.inr ⟨rfl, rfl, rfl⟩) ?_
  refine eg_aload_n (i := 0) 0 dX13_init_140 rfl rfl ?_
  refine eg_bipush (v := (62 : Int32)) dX13_init_141 (by decide) ?_
  replace hF := eg_bind hF; obtain ⟨h96, e97, hF⟩ := hF
  replace hF := eg_bind hF; obtain ⟨p95, e98, hF⟩ := hF
  refine eg_newa .int dX13_init_143 e97 0 (Nat.le_of_ble_eq_true rfl) (Nat.le_of_ble_eq_true rfl) (Nat.le_of_ble_eq_true rfl) (fun _ => rfl) (by decide) rfl ew_156 ?_
  replace e98 := Option.some.inj e98
  rw [e98]
  replace hF := eg_bind hF; obtain ⟨h99, e100, hF⟩ := hF
  refine eg_putR dX13_init_145 e100 (Nat.le_of_ble_eq_true rfl) (Nat.le_of_ble_eq_true rfl) rfl ew_1473 (Or.inr ⟨rfl, rfl, rfl⟩) ?_
  refine eg_aload_n (i := 0) 0 dX13_init_148 rfl rfl ?_
  refine eg_bipush (v := (36 : Int32)) dX13_init_149 (by decide) ?_
  replace hF := eg_bind hF; obtain ⟨h102, e103, hF⟩ := hF
  replace hF := eg_bind hF; obtain ⟨p101, e104, hF⟩ := hF
  refine eg_newa .long dX13_init_151 e103 1 (Nat.le_of_ble_eq_true rfl) (Nat.le_of_ble_eq_true rfl) (Nat.le_of_ble_eq_true rfl) (fun _ => rfl) (by decide) rfl ew_355 ?_
  replace e104 := Option.some.inj e104
  rw [e104]
  replace hF := eg_bind hF; obtain ⟨h105, e106, hF⟩ := hF
  refine eg_putR dX13_init_153 e106 (Nat.le_of_ble_eq_true rfl) (Nat.le_of_ble_eq_true rfl) rfl ew_1476 (Or.inr ⟨rfl, rfl, rfl⟩) ?_
  refine eg_aload_n (i := 0) 0 dX13_init_156 rfl rfl ?_
  refine eg_bipush (v := (6 : Int32)) dX13_init_157 (by decide) ?_
  replace hF := eg_bind hF; obtain ⟨h108, e109, hF⟩ := hF
  replace hF := eg_bind hF; obtain ⟨p107, e110, hF⟩ := hF
  refine eg_newa .int dX13_init_159 e109 0 (Nat.le_of_ble_eq_true rfl) (Nat.le_of_ble_eq_true rfl) (Nat.le_of_ble_eq_true rfl) (fun _ => rfl) (by decide) rfl ew_156 ?_
  replace e110 := Option.some.inj e110
  rw [e110]
  replace hF := eg_bind hF; obtain ⟨h111, e112, hF⟩ := hF
  refine eg_putR dX13_init_161 e112 (Nat.le_of_ble_eq_true rfl) (Nat.le_of_ble_eq_true rfl) rfl ew_1477 (Or.inr ⟨rfl, rfl, rfl⟩) ?_
  refine eg_aload_n (i := 0) 0 dX13_init_164 rfl rfl ?_
  refine eg_bipush (v := (20 : Int32)) dX13_init_165 (by decide) ?_
  replace hF := eg_bind hF; obtain ⟨h114, e115, hF⟩ := hF
  replace hF := eg_bind hF; obtain ⟨p113, e116, hF⟩ := hF
  refine eg_newa .int dX13_init_167 e115 0 (Nat.le_of_ble_eq_true rfl) (Nat.le_of_ble_eq_true rfl) (Nat.le_of_ble_eq_true rfl) (fun _ => rfl) (by decide) rfl ew_156 ?_
  replace e116 := Option.some.inj e116
  rw [e116]
  replace hF := eg_bind hF; obtain ⟨h117, e118, hF⟩ := hF
  refine eg_putR dX13_init_169 e118 (Nat.le_of_ble_eq_true rfl) (Nat.le_of_ble_eq_true rfl) rfl ew_1480 (Or.inr ⟨rfl, rfl, rfl⟩) ?_
  refine eg_aload_n (i := 0) 0 dX13_init_172 rfl rfl ?_
  refine eg_bipush (v := (20 : Int32)) dX13_init_173 (by decide) ?_
  replace hF := eg_bind hF; obtain ⟨h120, e121, hF⟩ := hF
  replace hF := eg_bind hF; obtain ⟨p119, e122, hF⟩ := hF
  refine eg_newa .int dX13_init_175 e121 0 (Nat.le_of_ble_eq_true rfl) (Nat.le_of_ble_eq_true rfl) (Nat.le_of_ble_eq_true rfl) (fun _ => rfl) (by decide) rfl ew_156 ?_
  replace e122 := Option.some.inj e122
  rw [e122]
  replace hF := eg_bind hF; obtain ⟨h123, e124, hF⟩ := hF
  refine eg_putR dX13_init_177 e124 (Nat.le_of_ble_eq_true rfl) (Nat.le_of_ble_eq_true rfl) rfl ew_1481 (Or.inr ⟨rfl, rfl, rfl⟩) ?_
  refine eg_aload_n (i := 0) 0 dX13_init_180 rfl rfl ?_
  refine eg_bipush (v := (20 : Int32)) dX13_init_181 (by decide) ?_
  replace hF := eg_bind hF; obtain ⟨h126, e127, hF⟩ := hF
  replace hF := eg_bind hF; obtain ⟨p125, e128, hF⟩ := hF
  refine eg_newa .boolean dX13_init_183 e127 3 (Nat.le_of_ble_eq_true rfl) (Nat.le_of_ble_eq_true rfl) (Nat.le_of_ble_eq_true rfl) (fun _ => rfl) (by decide) rfl ew_1672 ?_
  replace e128 := Option.some.inj e128
  rw [e128]
  replace hF := eg_bind hF; obtain ⟨h129, e130, hF⟩ := hF
  refine eg_putR dX13_init_185 e130 (Nat.le_of_ble_eq_true rfl) (Nat.le_of_ble_eq_true rfl) rfl ew_1482 (Or.inr ⟨rfl, rfl, rfl⟩) ?_
  refine eg_aload_n (i := 0) 0 dX13_init_188 rfl rfl ?_
  refine eg_bipush (v := (62 : Int32)) dX13_init_189 (by decide) ?_
  replace hF := eg_bind hF; obtain ⟨h132, e133, hF⟩ := hF
  replace hF := eg_bind hF; obtain ⟨p131, e134, hF⟩ := hF
  refine eg_newa .int dX13_init_191 e133 0 (Nat.le_of_ble_eq_true rfl) (Nat.le_of_ble_eq_true rfl) (Nat.le_of_ble_eq_true rfl) (fun _ => rfl) (by decide) rfl ew_156 ?_
  replace e134 := Option.some.inj e134
  rw [e134]
  replace hF := eg_bind hF; obtain ⟨h135, e136, hF⟩ := hF
  refine eg_putR dX13_init_193 e136 (Nat.le_of_ble_eq_true rfl) (Nat.le_of_ble_eq_true rfl) rfl ew_1484 (Or.inr ⟨rfl, rfl, rfl⟩) ?_
  refine eg_aload_n (i := 0) 0 dX13_init_196 rfl rfl ?_
  refine eg_bipush (v := (62 : Int32)) dX13_init_197 (by decide) ?_
  replace hF := eg_bind hF; obtain ⟨h138, e139, hF⟩ := hF
  replace hF := eg_bind hF; obtain ⟨p137, e140, hF⟩ := hF
  refine eg_newa .int dX13_init_199 e139 0 (Nat.le_of_ble_eq_true rfl) (Nat.le_of_ble_eq_true rfl) (Nat.le_of_ble_eq_true rfl) (fun _ => rfl) (by decide) rfl ew_156 ?_
  replace e140 := Option.some.inj e140
  rw [e140]
  replace hF := eg_bind hF; obtain ⟨h141, e142, hF⟩ := hF
  refine eg_putR dX13_init_201 e142 (Nat.le_of_ble_eq_true rfl) (Nat.le_of_ble_eq_true rfl) rfl ew_1485 (Or.inr ⟨rfl, rfl, rfl⟩) ?_
  refine eg_aload_n (i := 0) 0 dX13_init_204 rfl rfl ?_
  refine eg_bipush (v := (36 : Int32)) dX13_init_205 (by decide) ?_
  replace hF := eg_bind hF; obtain ⟨h144, e145, hF⟩ := hF
  replace hF := eg_bind hF; obtain ⟨p143, e146, hF⟩ := hF
  refine eg_newa .int dX13_init_207 e145 0 (Nat.le_of_ble_eq_true rfl) (Nat.le_of_ble_eq_true rfl) (Nat.le_of_ble_eq_true rfl) (fun _ => rfl) (by decide) rfl ew_156 ?_
  replace e146 := Option.some.inj e146
  rw [e146]
  replace hF := eg_bind hF; obtain ⟨h147, e148, hF⟩ := hF
  refine eg_putR dX13_init_209 e148 (Nat.le_of_ble_eq_true rfl) (Nat.le_of_ble_eq_true rfl) rfl ew_1486 (Or.inr ⟨rfl, rfl, rfl⟩) ?_
  refine eg_aload_n (i := 0) 0 dX13_init_212 rfl rfl ?_
  refine eg_bipush (v := (6 : Int32)) dX13_init_213 (by decide) ?_
  replace hF := eg_bind hF; obtain ⟨h150, e151, hF⟩ := hF
  replace hF := eg_bind hF; obtain ⟨p149, e152, hF⟩ := hF
  refine eg_newa .int dX13_init_215 e151 0 (Nat.le_of_ble_eq_true rfl) (Nat.le_of_ble_eq_true rfl) (Nat.le_of_ble_eq_true rfl) (fun _ => rfl) (by decide) rfl ew_156 ?_
  replace e152 := Option.some.inj e152
  rw [e152]
  replace hF := eg_bind hF; obtain ⟨h153, e154, hF⟩ := hF
  refine eg_putR dX13_init_217 e154 (Nat.le_of_ble_eq_true rfl) (Nat.le_of_ble_eq_true rfl) rfl ew_1487 (Or.inr ⟨rfl, rfl, rfl⟩) ?_
  refine eg_aload_n (i := 0) 0 dX13_init_220 rfl rfl ?_
  refine eg_sipush (v := (372 : Int32)) dX13_init_221 (by decide) ?_
  replace hF := eg_bind hF; obtain ⟨h156, e157, hF⟩ := hF
  replace hF := eg_bind hF; obtain ⟨p155, e158, hF⟩ := hF
  refine eg_newa .int dX13_init_224 e157 0 (Nat.le_of_ble_eq_true rfl) (Nat.le_of_ble_eq_true rfl) (Nat.le_of_ble_eq_true rfl) (fun _ => rfl) (by decide) rfl ew_156 ?_
  replace e158 := Option.some.inj e158
  rw [e158]
  replace hF := eg_bind hF; obtain ⟨h159, e160, hF⟩ := hF
  refine eg_putR dX13_init_226 e160 (Nat.le_of_ble_eq_true rfl) (Nat.le_of_ble_eq_true rfl) rfl ew_1490 (Or.inr ⟨rfl, rfl, rfl⟩) ?_
  refine eg_aload_n (i := 0) 0 dX13_init_229 rfl rfl ?_
  refine eg_bipush (v := (36 : Int32)) dX13_init_230 (by decide) ?_
  replace hF := eg_bind hF; obtain ⟨h162, e163, hF⟩ := hF
  replace hF := eg_bind hF; obtain ⟨p161, e164, hF⟩ := hF
  refine eg_newa .int dX13_init_232 e163 0 (Nat.le_of_ble_eq_true rfl) (Nat.le_of_ble_eq_true rfl) (Nat.le_of_ble_eq_true rfl) (fun _ => rfl) (by decide) rfl ew_156 ?_
  replace e164 := Option.some.inj e164
  rw [e164]
  replace hF := eg_bind hF; obtain ⟨h165, e166, hF⟩ := hF
  refine eg_putR dX13_init_234 e166 (Nat.le_of_ble_eq_true rfl) (Nat.le_of_ble_eq_true rfl) rfl ew_1491 (Or.inr ⟨rfl, rfl, rfl⟩) ?_
  refine eg_aload_n (i := 0) 0 dX13_init_237 rfl rfl ?_
  refine eg_bipush (v := (6 : Int32)) dX13_init_238 (by decide) ?_
  replace hF := eg_bind hF; obtain ⟨h168, e169, hF⟩ := hF
  replace hF := eg_bind hF; obtain ⟨p167, e170, hF⟩ := hF
  refine eg_newa .int dX13_init_240 e169 0 (Nat.le_of_ble_eq_true rfl) (Nat.le_of_ble_eq_true rfl) (Nat.le_of_ble_eq_true rfl) (fun _ => rfl) (by decide) rfl ew_156 ?_
  replace e170 := Option.some.inj e170
  rw [e170]
  replace hF := eg_bind hF; obtain ⟨h171, e172, hF⟩ := hF
  refine eg_putR dX13_init_242 e172 (Nat.le_of_ble_eq_true rfl) (Nat.le_of_ble_eq_true rfl) rfl ew_1492 (Or.inr ⟨rfl, rfl, rfl⟩) ?_
  refine eg_aload_n (i := 0) 0 dX13_init_245 rfl rfl ?_
  refine eg_bipush (v := (20 : Int32)) dX13_init_246 (by decide) ?_
  replace hF := eg_bind hF; obtain ⟨h174, e175, hF⟩ := hF
  replace hF := eg_bind hF; obtain ⟨p173, e176, hF⟩ := hF
  refine eg_newa .int dX13_init_248 e175 0 (Nat.le_of_ble_eq_true rfl) (Nat.le_of_ble_eq_true rfl) (Nat.le_of_ble_eq_true rfl) (fun _ => rfl) (by decide) rfl ew_156 ?_
  replace e176 := Option.some.inj e176
  rw [e176]
  replace hF := eg_bind hF; obtain ⟨h177, e178, hF⟩ := hF
  refine eg_putR dX13_init_250 e178 (Nat.le_of_ble_eq_true rfl) (Nat.le_of_ble_eq_true rfl) rfl ew_1495 (Or.inr ⟨rfl, rfl, rfl⟩) ?_
  refine eg_aload_n (i := 0) 0 dX13_init_253 rfl rfl ?_
  refine eg_bipush (v := (20 : Int32)) dX13_init_254 (by decide) ?_
  replace hF := eg_bind hF; obtain ⟨h180, e181, hF⟩ := hF
  replace hF := eg_bind hF; obtain ⟨p179, e182, hF⟩ := hF
  refine eg_newa .int dX13_init_256 e181 0 (Nat.le_of_ble_eq_true rfl) (Nat.le_of_ble_eq_true rfl) (Nat.le_of_ble_eq_true rfl) (fun _ => rfl) (by decide) rfl ew_156 ?_
  replace e182 := Option.some.inj e182
  rw [e182]
  replace hF := eg_bind hF; obtain ⟨h183, e184, hF⟩ := hF
  refine eg_putR dX13_init_258 e184 (Nat.le_of_ble_eq_true rfl) (Nat.le_of_ble_eq_true rfl) rfl ew_1496 (Or.inr ⟨rfl, rfl, rfl⟩) ?_
  refine eg_aload_n (i := 0) 0 dX13_init_261 rfl rfl ?_
  refine eg_bipush (v := (20 : Int32)) dX13_init_262 (by decide) ?_
  replace hF := eg_bind hF; obtain ⟨h186, e187, hF⟩ := hF
  replace hF := eg_bind hF; obtain ⟨p185, e188, hF⟩ := hF
  refine eg_newa .int dX13_init_264 e187 0 (Nat.le_of_ble_eq_true rfl) (Nat.le_of_ble_eq_true rfl) (Nat.le_of_ble_eq_true rfl) (fun _ => rfl) (by decide) rfl ew_156 ?_
  replace e188 := Option.some.inj e188
  rw [e188]
  replace hF := eg_bind hF; obtain ⟨h189, e190, hF⟩ := hF
  refine eg_putR dX13_init_266 e190 (Nat.le_of_ble_eq_true rfl) (Nat.le_of_ble_eq_true rfl) rfl ew_1497 (Or.inr ⟨rfl, rfl, rfl⟩) ?_
  refine eg_aload_n (i := 0) 0 dX13_init_269 rfl rfl ?_
  refine eg_bipush (v := (20 : Int32)) dX13_init_270 (by decide) ?_
  replace hF := eg_bind hF; obtain ⟨h192, e193, hF⟩ := hF
  replace hF := eg_bind hF; obtain ⟨p191, e194, hF⟩ := hF
  refine eg_newa .int dX13_init_272 e193 0 (Nat.le_of_ble_eq_true rfl) (Nat.le_of_ble_eq_true rfl) (Nat.le_of_ble_eq_true rfl) (fun _ => rfl) (by decide) rfl ew_156 ?_
  replace e194 := Option.some.inj e194
  rw [e194]
  replace hF := eg_bind hF; obtain ⟨h195, e196, hF⟩ := hF
  refine eg_putR dX13_init_274 e196 (Nat.le_of_ble_eq_true rfl) (Nat.le_of_ble_eq_true rfl) rfl ew_1498 (Or.inr ⟨rfl, rfl, rfl⟩) ?_
  refine eg_aload_n (i := 0) 0 dX13_init_277 rfl rfl ?_
  refine eg_bipush (v := (36 : Int32)) dX13_init_278 (by decide) ?_
  replace hF := eg_bind hF; obtain ⟨h198, e199, hF⟩ := hF
  replace hF := eg_bind hF; obtain ⟨p197, e200, hF⟩ := hF
  refine eg_newa .int dX13_init_280 e199 0 (Nat.le_of_ble_eq_true rfl) (Nat.le_of_ble_eq_true rfl) (Nat.le_of_ble_eq_true rfl) (fun _ => rfl) (by decide) rfl ew_156 ?_
  replace e200 := Option.some.inj e200
  rw [e200]
  replace hF := eg_bind hF; obtain ⟨h201, e202, hF⟩ := hF
  refine eg_putR dX13_init_282 e202 (Nat.le_of_ble_eq_true rfl) (Nat.le_of_ble_eq_true rfl) rfl ew_1500 (Or.inr ⟨rfl, rfl, rfl⟩) ?_
  refine eg_aload_n (i := 0) 0 dX13_init_285 rfl rfl ?_
  refine eg_bipush (v := (40 : Int32)) dX13_init_286 (by decide) ?_
  replace hF := eg_bind hF; obtain ⟨h204, e205, hF⟩ := hF
  replace hF := eg_bind hF; obtain ⟨p203, e206, hF⟩ := hF
  refine eg_newa .int dX13_init_288 e205 0 (Nat.le_of_ble_eq_true rfl) (Nat.le_of_ble_eq_true rfl) (Nat.le_of_ble_eq_true rfl) (fun _ => rfl) (by decide) rfl ew_156 ?_
  replace e206 := Option.some.inj e206
  rw [e206]
  replace hF := eg_bind hF; obtain ⟨h207, e208, hF⟩ := hF
  refine eg_putR dX13_init_290 e208 (Nat.le_of_ble_eq_true rfl) (Nat.le_of_ble_eq_true rfl) rfl ew_1503 (Or.inr ⟨rfl, rfl, rfl⟩) ?_
  refine eg_aload_n (i := 0) 0 dX13_init_293 rfl rfl ?_
  refine eg_bipush (v := (40 : Int32)) dX13_init_294 (by decide) ?_
  replace hF := eg_bind hF; obtain ⟨h210, e211, hF⟩ := hF
  replace hF := eg_bind hF; obtain ⟨p209, e212, hF⟩ := hF
  refine eg_newa .int dX13_init_296 e211 0 (Nat.le_of_ble_eq_true rfl) (Nat.le_of_ble_eq_true rfl) (Nat.le_of_ble_eq_true rfl) (fun _ => rfl) (by decide) rfl ew_156 ?_
  replace e212 := Option.some.inj e212
  rw [e212]
  replace hF := eg_bind hF; obtain ⟨h213, e214, hF⟩ := hF
  refine eg_putR dX13_init_298 e214 (Nat.le_of_ble_eq_true rfl) (Nat.le_of_ble_eq_true rfl) rfl ew_1504 (Or.inr ⟨rfl, rfl, rfl⟩) ?_
  refine eg_aload_n (i := 0) 0 dX13_init_301 rfl rfl ?_
  refine eg_bipush (v := (40 : Int32)) dX13_init_302 (by decide) ?_
  replace hF := eg_bind hF; obtain ⟨h216, e217, hF⟩ := hF
  replace hF := eg_bind hF; obtain ⟨p215, e218, hF⟩ := hF
  refine eg_newa .int dX13_init_304 e217 0 (Nat.le_of_ble_eq_true rfl) (Nat.le_of_ble_eq_true rfl) (Nat.le_of_ble_eq_true rfl) (fun _ => rfl) (by decide) rfl ew_156 ?_
  replace e218 := Option.some.inj e218
  rw [e218]
  replace hF := eg_bind hF; obtain ⟨h219, e220, hF⟩ := hF
  refine eg_putR dX13_init_306 e220 (Nat.le_of_ble_eq_true rfl) (Nat.le_of_ble_eq_true rfl) rfl ew_1505 (Or.inr ⟨rfl, rfl, rfl⟩) ?_
  refine eg_aload_n (i := 0) 0 dX13_init_309 rfl rfl ?_
  refine eg_iconst (v := (4 : Int32)) dX13_init_310 (by decide) ?_
  replace hF := eg_bind hF; obtain ⟨h222, e223, hF⟩ := hF
  replace hF := eg_bind hF; obtain ⟨p221, e224, hF⟩ := hF
  refine eg_newa .int dX13_init_311 e223 0 (Nat.le_of_ble_eq_true rfl) (Nat.le_of_ble_eq_true rfl) (Nat.le_of_ble_eq_true rfl) (fun _ => rfl) (by decide) rfl ew_156 ?_
  replace e224 := Option.some.inj e224
  rw [e224]
  replace hF := eg_bind hF; obtain ⟨h225, e226, hF⟩ := hF
  refine eg_putR dX13_init_313 e226 (Nat.le_of_ble_eq_true rfl) (Nat.le_of_ble_eq_true rfl) rfl ew_1507 (Or.inr ⟨rfl, rfl, rfl⟩) ?_
  refine eg_aload_n (i := 0) 0 dX13_init_316 rfl rfl ?_
  refine eg_bipush (v := (40 : Int32)) dX13_init_317 (by decide) ?_
  replace hF := eg_bind hF; obtain ⟨h228, e229, hF⟩ := hF
  replace hF := eg_bind hF; obtain ⟨p227, e230, hF⟩ := hF
  refine eg_newa .int dX13_init_319 e229 0 (Nat.le_of_ble_eq_true rfl) (Nat.le_of_ble_eq_true rfl) (Nat.le_of_ble_eq_true rfl) (fun _ => rfl) (by decide) rfl ew_156 ?_
  replace e230 := Option.some.inj e230
  rw [e230]
  replace hF := eg_bind hF; obtain ⟨h231, e232, hF⟩ := hF
  refine eg_putR dX13_init_321 e232 (Nat.le_of_ble_eq_true rfl) (Nat.le_of_ble_eq_true rfl) rfl ew_1508 (Or.inr ⟨rfl, rfl, rfl⟩) ?_
  refine eg_aload_n (i := 0) 0 dX13_init_324 rfl rfl ?_
  refine eg_bipush (v := (40 : Int32)) dX13_init_325 (by decide) ?_
  replace hF := eg_bind hF; obtain ⟨h234, e235, hF⟩ := hF
  replace hF := eg_bind hF; obtain ⟨p233, e236, hF⟩ := hF
  refine eg_newa .int dX13_init_327 e235 0 (Nat.le_of_ble_eq_true rfl) (Nat.le_of_ble_eq_true rfl) (Nat.le_of_ble_eq_true rfl) (fun _ => rfl) (by decide) rfl ew_156 ?_
  replace e236 := Option.some.inj e236
  rw [e236]
  replace hF := eg_bind hF; obtain ⟨h237, e238, hF⟩ := hF
  refine eg_putR dX13_init_329 e238 (Nat.le_of_ble_eq_true rfl) (Nat.le_of_ble_eq_true rfl) rfl ew_1509 (Or.inr ⟨rfl, rfl, rfl⟩) ?_
  refine eg_aload_n (i := 0) 0 dX13_init_332 rfl rfl ?_
  refine eg_bipush (v := (40 : Int32)) dX13_init_333 (by decide) ?_
  replace hF := eg_bind hF; obtain ⟨h240, e241, hF⟩ := hF
  replace hF := eg_bind hF; obtain ⟨p239, e242, hF⟩ := hF
  refine eg_newa .int dX13_init_335 e241 0 (Nat.le_of_ble_eq_true rfl) (Nat.le_of_ble_eq_true rfl) (Nat.le_of_ble_eq_true rfl) (fun _ => rfl) (by decide) rfl ew_156 ?_
  replace e242 := Option.some.inj e242
  rw [e242]
  replace hF := eg_bind hF; obtain ⟨h243, e244, hF⟩ := hF
  refine eg_putR dX13_init_337 e244 (Nat.le_of_ble_eq_true rfl) (Nat.le_of_ble_eq_true rfl) rfl ew_1510 (Or.inr ⟨rfl, rfl, rfl⟩) ?_
  exact eg_vretE dX13_init_340 hF
theorem dX13_thrown_0 : decode cX13_thrown 0 = .ok (.aload_n 0, 1) := by decide +kernel
theorem dX13_thrown_1 : decode cX13_thrown 1 = .ok (.getfield 148, 3) := by decide +kernel
theorem dX13_thrown_4 : decode cX13_thrown 4 = .ok (.ireturn, 1) := by decide +kernel
def fX13_thrown (h : eg_H) (l0 : Nat) : Option (Int32 × eg_H) :=
  if eg_isO h 13 l0 then (
    (eg_gI h 13 0 l0).bind fun v1 =>
    some (v1, h)) else none
theorem fX13_thrown_O {h : eg_H} {l0 : Nat} {rE : Int32} {hE : eg_H} (hF : fX13_thrown h l0 = some (rE, hE)) : eg_isO h 13 l0 := (eg_ifn hF).1
set_option maxRecDepth 20000 in
theorem mX13_thrown {h : eg_H} {l0 : Nat} {rE : Int32} {hE : eg_H} (hF : fX13_thrown h l0 = some (rE, hE)) : eg_Met yX13_thrown cX13_thrown 1 (some .int) 1 [.ref l0] h (some (.int rE)) hE := by
  refine eg_enter rfl (Nat.le_of_ble_eq_true rfl) ?_
  show eg_AW (RX13, cX13_thrown, 1, 1, none, "thrown", (some .int)) (eg_Zm (some (.int rE)) hE h) (eg_nc hE) (eg_ns hE) h 0 [(0, .ref l0)] [] h
  replace hF := (eg_ifn hF).2
  refine eg_aload_n (i := 0) 0 dX13_thrown_0 rfl rfl ?_
  replace hF := eg_bind hF; obtain ⟨v1, e2, hF⟩ := hF
  refine eg_getI dX13_thrown_1 e2 (Nat.le_of_ble_eq_true rfl) (Nat.le_of_ble_eq_true rfl) rfl ew_1434 ?_
  exact eg_iretE dX13_thrown_4 hF
theorem dX13_isIn_0 : decode cX13_isIn 0 = .ok (.lload_n 0, 1) := by decide +kernel
theorem dX13_isIn_1 : decode cX13_isIn 1 = .ok (.lload_n 2, 1) := by decide +kernel
theorem dX13_isIn_2 : decode cX13_isIn 2 = .ok (.lcmp, 1) := by decide +kernel
theorem dX13_isIn_3 : decode cX13_isIn 3 = .ok (.ifCond .lt 14, 3) := by decide +kernel
theorem dX13_isIn_6 : decode cX13_isIn 6 = .ok (.lload_n 0, 1) := by decide +kernel
theorem dX13_isIn_7 : decode cX13_isIn 7 = .ok (.lload 4, 2) := by decide +kernel
theorem dX13_isIn_9 : decode cX13_isIn 9 = .ok (.lcmp, 1) := by decide +kernel
theorem dX13_isIn_10 : decode cX13_isIn 10 = .ok (.ifCond .gt 7, 3) := by decide +kernel
theorem dX13_isIn_13 : decode cX13_isIn 13 = .ok (.iconst 1, 1) := by decide +kernel
theorem dX13_isIn_14 : decode cX13_isIn 14 = .ok (.goto 4, 3) := by decide +kernel
theorem dX13_isIn_17 : decode cX13_isIn 17 = .ok (.iconst 0, 1) := by decide +kernel
theorem dX13_isIn_18 : decode cX13_isIn 18 = .ok (.ireturn, 1) := by decide +kernel
def fX13_isIn (h : eg_H) (l0 : Int64) (l2 : Int64) (l4 : Int64) : Option (Int32 × eg_H) :=
  if l0 < l2 then
    (some ((0 : Int32), h))
  else
    if l4 < l0 then
      (some ((0 : Int32), h))
    else
      some ((1 : Int32), h)
set_option maxRecDepth 20000 in
theorem mX13_isIn {h : eg_H} {l0 : Int64} {l2 : Int64} {l4 : Int64} {rE : Int32} {hE : eg_H} (hF : fX13_isIn h l0 l2 l4 = some (rE, hE)) : eg_Met yX13_isIn cX13_isIn 6 (some .boolean) 1 [.long l0, .long l2, .long l4] h (some (.int rE)) hE := by
  refine eg_enter rfl (Nat.le_of_ble_eq_true rfl) ?_
  show eg_AW (RX13, cX13_isIn, 6, 1, none, "isIn", (some .boolean)) (eg_Zm (some (.int rE)) hE h) (eg_nc hE) (eg_ns hE) h 0 [(0, .long l0), (2, .long l2), (4, .long l4)] [] h
  refine eg_lload_n (i := 0) 0 dX13_isIn_0 rfl rfl ?_
  refine eg_lload_n (i := 2) 1 dX13_isIn_1 rfl rfl ?_
  refine eg_lc_lt 17 dX13_isIn_2 dX13_isIn_3 rfl (fun c1 => ?_) (fun c1 => ?_)
  · replace hF := eg_it c1 hF
    refine eg_iconst (v := (0 : Int32)) dX13_isIn_17 (by decide) ?_
    exact eg_zretE dX13_isIn_18 (Or.inl rfl) hF
  · replace hF := eg_if c1 hF
    refine eg_lload_n (i := 0) 0 dX13_isIn_6 rfl rfl ?_
    refine eg_lload (i := 4) 2 dX13_isIn_7 rfl ?_
    refine eg_lc_gt 17 dX13_isIn_9 dX13_isIn_10 rfl (fun c2 => ?_) (fun c2 => ?_)
    · replace hF := eg_it c2 hF
      refine eg_iconst (v := (0 : Int32)) dX13_isIn_17 (by decide) ?_
      exact eg_zretE dX13_isIn_18 (Or.inl rfl) hF
    · replace hF := eg_if c2 hF
      refine eg_iconst (v := (1 : Int32)) dX13_isIn_13 (by decide) ?_
      refine eg_goto 18 dX13_isIn_14 rfl ?_
      exact eg_zretE dX13_isIn_18 (Or.inr rfl) hF
theorem dX13_has_0 : decode cX13_has 0 = .ok (.iload_n 0, 1) := by decide +kernel
theorem dX13_has_1 : decode cX13_has 1 = .ok (.iload_n 1, 1) := by decide +kernel
theorem dX13_has_2 : decode cX13_has 2 = .ok (.ishr, 1) := by decide +kernel
theorem dX13_has_3 : decode cX13_has 3 = .ok (.iconst 1, 1) := by decide +kernel
theorem dX13_has_4 : decode cX13_has 4 = .ok (.iand, 1) := by decide +kernel
theorem dX13_has_5 : decode cX13_has 5 = .ok (.iconst 1, 1) := by decide +kernel
theorem dX13_has_6 : decode cX13_has 6 = .ok (.if_icmp .ne 7, 3) := by decide +kernel
theorem dX13_has_9 : decode cX13_has 9 = .ok (.iconst 1, 1) := by decide +kernel
theorem dX13_has_10 : decode cX13_has 10 = .ok (.goto 4, 3) := by decide +kernel
theorem dX13_has_13 : decode cX13_has 13 = .ok (.iconst 0, 1) := by decide +kernel
theorem dX13_has_14 : decode cX13_has 14 = .ok (.ireturn, 1) := by decide +kernel
def fX13_has (h : eg_H) (l0 : Int32) (l1 : Int32) : Option (Int32 × eg_H) :=
  if ((l0 >>> (l1 &&& 31)) &&& (1 : Int32)) = (1 : Int32) then
    (some ((1 : Int32), h))
  else
    some ((0 : Int32), h)
set_option maxRecDepth 20000 in
theorem mX13_has {h : eg_H} {l0 : Int32} {l1 : Int32} {rE : Int32} {hE : eg_H} (hF : fX13_has h l0 l1 = some (rE, hE)) : eg_Met yX13_has cX13_has 2 (some .boolean) 1 [.int l0, .int l1] h (some (.int rE)) hE := by
  refine eg_enter rfl (Nat.le_of_ble_eq_true rfl) ?_
  show eg_AW (RX13, cX13_has, 2, 1, none, "has", (some .boolean)) (eg_Zm (some (.int rE)) hE h) (eg_nc hE) (eg_ns hE) h 0 [(0, .int l0), (1, .int l1)] [] h
  refine eg_iload_n (i := 0) 0 dX13_has_0 rfl rfl ?_
  refine eg_iload_n (i := 1) 1 dX13_has_1 rfl rfl ?_
  refine eg_ishr dX13_has_2 ?_
  refine eg_iconst (v := (1 : Int32)) dX13_has_3 (by decide) ?_
  refine eg_iand dX13_has_4 ?_
  refine eg_iconst (v := (1 : Int32)) dX13_has_5 (by decide) ?_
  refine eg_ic_ne 13 dX13_has_6 rfl (fun c1 => ?_) (fun c1 => ?_)
  · replace hF := eg_it c1 hF
    refine eg_iconst (v := (1 : Int32)) dX13_has_9 (by decide) ?_
    refine eg_goto 14 dX13_has_10 rfl ?_
    exact eg_zretE dX13_has_14 (Or.inr rfl) hF
  · replace hF := eg_if c1 hF
    refine eg_iconst (v := (0 : Int32)) dX13_has_13 (by decide) ?_
    exact eg_zretE dX13_has_14 (Or.inl rfl) hF
theorem dX13_isAmong_0 : decode cX13_isAmong 0 = .ok (.iconst 0, 1) := by decide +kernel
theorem dX13_isAmong_1 : decode cX13_isAmong 1 = .ok (.istore_n 2, 1) := by decide +kernel
theorem dX13_isAmong_2 : decode cX13_isAmong 2 = .ok (.iload_n 2, 1) := by decide +kernel
theorem dX13_isAmong_3 : decode cX13_isAmong 3 = .ok (.aload_n 0, 1) := by decide +kernel
theorem dX13_isAmong_4 : decode cX13_isAmong 4 = .ok (.invokevirtual 151, 3) := by decide +kernel
theorem dX13_isAmong_7 : decode cX13_isAmong 7 = .ok (.if_icmp .ge 20, 3) := by decide +kernel
theorem dX13_isAmong_10 : decode cX13_isAmong 10 = .ok (.aload_n 0, 1) := by decide +kernel
theorem dX13_isAmong_11 : decode cX13_isAmong 11 = .ok (.iload_n 2, 1) := by decide +kernel
theorem dX13_isAmong_12 : decode cX13_isAmong 12 = .ok (.invokevirtual 157, 3) := by decide +kernel
theorem dX13_isAmong_15 : decode cX13_isAmong 15 = .ok (.iload_n 1, 1) := by decide +kernel
theorem dX13_isAmong_16 : decode cX13_isAmong 16 = .ok (.if_icmp .ne 5, 3) := by decide +kernel
theorem dX13_isAmong_19 : decode cX13_isAmong 19 = .ok (.iconst 1, 1) := by decide +kernel
theorem dX13_isAmong_20 : decode cX13_isAmong 20 = .ok (.ireturn, 1) := by decide +kernel
theorem dX13_isAmong_21 : decode cX13_isAmong 21 = .ok (.iinc 2 1, 3) := by decide +kernel
theorem dX13_isAmong_24 : decode cX13_isAmong 24 = .ok (.goto (-22), 3) := by decide +kernel
theorem dX13_isAmong_27 : decode cX13_isAmong 27 = .ok (.iconst 0, 1) := by decide +kernel
theorem dX13_isAmong_28 : decode cX13_isAmong 28 = .ok (.ireturn, 1) := by decide +kernel
def fX13_isAmong_L2 : Nat → eg_H → Nat → Int32 → Int32 → Option ((eg_H) ⊕ (eg_H))
  | 0, _, _, _, _ => none
  | n + 1, h, l0, l1, l2 =>
    (eg_slen l0).bind fun v1 =>
    if v1 ≤ l2 then
      (some (.inl h))
    else
      (eg_sat l0 l2).bind fun v4 =>
      if v4 = l1 then
        (some (.inr (h)))
      else
        fX13_isAmong_L2 n h l0 l1 (l2 + (1 : Int32))
set_option maxRecDepth 20000 in
theorem fX13_isAmong_L2_ok {h0 : eg_H} {Z : eg_C → State → Prop} {N S : Nat} : ∀ (n : Nat) (h : eg_H) (l0 : Nat) (l1 : Int32) (l2 : Int32) (eE : (eg_H) ⊕ (eg_H)), fX13_isAmong_L2 n h l0 l1 l2 = some eE → (hk0 : ∀  (h : eg_H), eE = (.inl h) → eg_AW (RX13, cX13_isAmong, 3, 5, none, "isAmong", (some .boolean)) Z N S h0 27 [] [] h) → (hk1 : ∀  (h : eg_H), eE = (.inr (h)) → eg_AW (RX13, cX13_isAmong, 3, 5, none, "isAmong", (some .boolean)) Z N S h0 19 [] [] h) → eg_AW (RX13, cX13_isAmong, 3, 5, none, "isAmong", (some .boolean)) Z N S h0 2 [(0, .ref l0), (1, .int l1), (2, .int l2)] [] h := by
  intro n
  induction n with
  | zero => intro h l0 l1 l2 eE hF; exact absurd hF (by intro q; cases q)
  | succ n ih =>
    intro h l0 l1 l2 eE hF hk0 hk1
    have hrec := fun (h' : eg_H) (l0 : Nat) (l1 : Int32) (l2 : Int32) hq => ih h' l0 l1 l2 eE hq hk0 hk1
    refine eg_iload_n (i := 2) 2 dX13_isAmong_2 rfl rfl ?_
    refine eg_aload_n (i := 0) 0 dX13_isAmong_3 rfl rfl ?_
    replace hF := eg_bind hF; obtain ⟨v1, e2, hF⟩ := hF
    refine eg_strlen dX13_isAmong_4 e2 ew_1726 (Nat.le_of_ble_eq_true rfl) (Nat.le_of_ble_eq_true rfl) ?_
    refine eg_ic_ge 27 dX13_isAmong_7 rfl (fun c3 => ?_) (fun c3 => ?_)
    · replace hF := eg_it c3 hF
      exact eg_sub [] [] rfl (hk0 h (Option.some.inj hF).symm)
    · replace hF := eg_if c3 hF
      refine eg_aload_n (i := 0) 0 dX13_isAmong_10 rfl rfl ?_
      refine eg_iload_n (i := 2) 2 dX13_isAmong_11 rfl rfl ?_
      replace hF := eg_bind hF; obtain ⟨v4, e5, hF⟩ := hF
      refine eg_strat dX13_isAmong_12 e5 ew_1739 (Nat.le_of_ble_eq_true rfl) (Nat.le_of_ble_eq_true rfl) ?_
      refine eg_iload_n (i := 1) 1 dX13_isAmong_15 rfl rfl ?_
      refine eg_ic_ne 21 dX13_isAmong_16 rfl (fun c6 => ?_) (fun c6 => ?_)
      · replace hF := eg_it c6 hF
        exact eg_sub [] [] rfl (hk1 h (Option.some.inj hF).symm)
      · replace hF := eg_if c6 hF
        refine eg_iinc (i := 2) (v := (l2 + (1 : Int32))) 2 [(2, .int (l2 + (1 : Int32))), (0, .ref l0), (1, .int l1)] dX13_isAmong_21 rfl rfl (Nat.le_of_ble_eq_true rfl) rfl ?_
        refine eg_goto 2 dX13_isAmong_24 rfl ?_
        exact eg_sub [1, 2, 0] [(0, .ref l0), (1, .int l1), (2, .int (l2 + (1 : Int32)))] rfl (hrec h l0 l1 (l2 + (1 : Int32)) hF)
def fX13_isAmong (h : eg_H) (l0 : Nat) (l1 : Int32) : Option (Int32 × eg_H) :=
  (fX13_isAmong_L2 eg_F h l0 l1 (0 : Int32)).bind fun e =>
  match e with
  | .inl h3 =>
    some ((0 : Int32), h3)
  | .inr (h5) =>
    some ((1 : Int32), h5)
set_option maxRecDepth 20000 in
theorem mX13_isAmong {h : eg_H} {l0 : Nat} {l1 : Int32} {rE : Int32} {hE : eg_H} (hF : fX13_isAmong h l0 l1 = some (rE, hE)) : eg_Met yX13_isAmong cX13_isAmong 3 (some .boolean) 5 [.ref l0, .int l1] h (some (.int rE)) hE := by
  refine eg_enter rfl (Nat.le_of_ble_eq_true rfl) ?_
  show eg_AW (RX13, cX13_isAmong, 3, 5, none, "isAmong", (some .boolean)) (eg_Zm (some (.int rE)) hE h) (eg_nc hE) (eg_ns hE) h 0 [(0, .ref l0), (1, .int l1)] [] h
  refine eg_iconst (v := (0 : Int32)) dX13_isAmong_0 (by decide) ?_
  refine eg_istore_n (i := 2) [(2, .int (0 : Int32)), (0, .ref l0), (1, .int l1)] dX13_isAmong_1 rfl (Nat.le_of_ble_eq_true rfl) rfl ?_
  replace hF := eg_bind hF; obtain ⟨x2, e1, hF⟩ := hF
  refine eg_sub [1, 2, 0] [(0, .ref l0), (1, .int l1), (2, .int (0 : Int32))] rfl (fX13_isAmong_L2_ok eg_F h l0 l1 (0 : Int32) x2 e1 ?_ ?_)
  · intro h3 e4
    subst e4
    refine eg_iconst (v := (0 : Int32)) dX13_isAmong_27 (by decide) ?_
    exact eg_zretE dX13_isAmong_28 (Or.inl rfl) hF
  · intro h5 e6
    subst e6
    refine eg_iconst (v := (1 : Int32)) dX13_isAmong_19 (by decide) ?_
    exact eg_zretE dX13_isAmong_20 (Or.inr rfl) hF
theorem dX13_bytesIn_0 : decode cX13_bytesIn 0 = .ok (.iconst 0, 1) := by decide +kernel
theorem dX13_bytesIn_1 : decode cX13_bytesIn 1 = .ok (.istore_n 1, 1) := by decide +kernel
theorem dX13_bytesIn_2 : decode cX13_bytesIn 2 = .ok (.bipush 24, 2) := by decide +kernel
theorem dX13_bytesIn_4 : decode cX13_bytesIn 4 = .ok (.istore_n 2, 1) := by decide +kernel
theorem dX13_bytesIn_5 : decode cX13_bytesIn 5 = .ok (.iload_n 2, 1) := by decide +kernel
theorem dX13_bytesIn_6 : decode cX13_bytesIn 6 = .ok (.ifCond .lt 27, 3) := by decide +kernel
theorem dX13_bytesIn_9 : decode cX13_bytesIn 9 = .ok (.iload_n 1, 1) := by decide +kernel
theorem dX13_bytesIn_10 : decode cX13_bytesIn 10 = .ok (.iload_n 0, 1) := by decide +kernel
theorem dX13_bytesIn_11 : decode cX13_bytesIn 11 = .ok (.iload_n 2, 1) := by decide +kernel
theorem dX13_bytesIn_12 : decode cX13_bytesIn 12 = .ok (.ishr, 1) := by decide +kernel
theorem dX13_bytesIn_13 : decode cX13_bytesIn 13 = .ok (.sipush 255, 3) := by decide +kernel
theorem dX13_bytesIn_16 : decode cX13_bytesIn 16 = .ok (.iand, 1) := by decide +kernel
theorem dX13_bytesIn_17 : decode cX13_bytesIn 17 = .ok (.ifCond .eq 7, 3) := by decide +kernel
theorem dX13_bytesIn_20 : decode cX13_bytesIn 20 = .ok (.iconst 1, 1) := by decide +kernel
theorem dX13_bytesIn_21 : decode cX13_bytesIn 21 = .ok (.goto 4, 3) := by decide +kernel
theorem dX13_bytesIn_24 : decode cX13_bytesIn 24 = .ok (.iconst 0, 1) := by decide +kernel
theorem dX13_bytesIn_25 : decode cX13_bytesIn 25 = .ok (.iadd, 1) := by decide +kernel
theorem dX13_bytesIn_26 : decode cX13_bytesIn 26 = .ok (.istore_n 1, 1) := by decide +kernel
theorem dX13_bytesIn_27 : decode cX13_bytesIn 27 = .ok (.iinc 2 (-8), 3) := by decide +kernel
theorem dX13_bytesIn_30 : decode cX13_bytesIn 30 = .ok (.goto (-25), 3) := by decide +kernel
theorem dX13_bytesIn_33 : decode cX13_bytesIn 33 = .ok (.iload_n 1, 1) := by decide +kernel
theorem dX13_bytesIn_34 : decode cX13_bytesIn 34 = .ok (.ireturn, 1) := by decide +kernel
def fX13_bytesIn_L5 : Nat → eg_H → Int32 → Int32 → Int32 → Option (Int32 × eg_H)
  | 0, _, _, _, _ => none
  | n + 1, h, l0, l1, l2 =>
    if l2 < 0 then
      (some (l1, h))
    else
      if ((l0 >>> (l2 &&& 31)) &&& (255 : Int32)) = 0 then
        ((some ((l1 + (0 : Int32)))).bind fun v3 =>
        fX13_bytesIn_L5 n h l0 v3 (l2 + (-8 : Int32)))
      else
        (some ((l1 + (1 : Int32)))).bind fun v5 =>
        fX13_bytesIn_L5 n h l0 v5 (l2 + (-8 : Int32))
set_option maxRecDepth 20000 in
theorem fX13_bytesIn_L5_ok {h0 : eg_H} {Z : eg_C → State → Prop} {N S : Nat} : ∀ (n : Nat) (h : eg_H) (l0 : Int32) (l1 : Int32) (l2 : Int32) (eE : Int32 × eg_H), fX13_bytesIn_L5 n h l0 l1 l2 = some eE → (hk0 : ∀ (l1 : Int32) (h : eg_H), eE = (l1, h) → eg_AW (RX13, cX13_bytesIn, 3, 1, none, "bytesIn", (some .int)) Z N S h0 33 [(1, .int l1)] [] h) → eg_AW (RX13, cX13_bytesIn, 3, 1, none, "bytesIn", (some .int)) Z N S h0 5 [(0, .int l0), (1, .int l1), (2, .int l2)] [] h := by
  intro n
  induction n with
  | zero => intro h l0 l1 l2 eE hF; exact absurd hF (by intro q; cases q)
  | succ n ih =>
    intro h l0 l1 l2 eE hF hk0
    have hrec := fun (h' : eg_H) (l0 : Int32) (l1 : Int32) (l2 : Int32) hq => ih h' l0 l1 l2 eE hq hk0
    refine eg_iload_n (i := 2) 2 dX13_bytesIn_5 rfl rfl ?_
    refine eg_if_lt 33 dX13_bytesIn_6 rfl (fun c1 => ?_) (fun c1 => ?_)
    · replace hF := eg_it c1 hF
      exact eg_sub [1] [(1, .int l1)] rfl (hk0 l1 h (Option.some.inj hF).symm)
    · replace hF := eg_if c1 hF
      refine eg_iload_n (i := 1) 1 dX13_bytesIn_9 rfl rfl ?_
      refine eg_iload_n (i := 0) 0 dX13_bytesIn_10 rfl rfl ?_
      refine eg_iload_n (i := 2) 2 dX13_bytesIn_11 rfl rfl ?_
      refine eg_ishr dX13_bytesIn_12 ?_
      refine eg_sipush (v := (255 : Int32)) dX13_bytesIn_13 (by decide) ?_
      refine eg_iand dX13_bytesIn_16 ?_
      refine eg_if_eq 24 dX13_bytesIn_17 rfl (fun c2 => ?_) (fun c2 => ?_)
      · replace hF := eg_it c2 hF
        refine eg_iconst (v := (0 : Int32)) dX13_bytesIn_24 (by decide) ?_
        refine eg_iadd dX13_bytesIn_25 ?_
        replace hF := eg_bind hF; obtain ⟨v3, e4, hF⟩ := hF
        replace e4 := Option.some.inj e4
        rw [e4]
        refine eg_istore_n (i := 1) [(1, .int v3), (0, .int l0), (2, .int l2)] dX13_bytesIn_26 rfl (Nat.le_of_ble_eq_true rfl) rfl ?_
        refine eg_iinc (i := 2) (v := (l2 + (-8 : Int32))) 2 [(2, .int (l2 + (-8 : Int32))), (1, .int v3), (0, .int l0)] dX13_bytesIn_27 rfl rfl (Nat.le_of_ble_eq_true rfl) rfl ?_
        refine eg_goto 5 dX13_bytesIn_30 rfl ?_
        exact eg_sub [2, 1, 0] [(0, .int l0), (1, .int v3), (2, .int (l2 + (-8 : Int32)))] rfl (hrec h l0 v3 (l2 + (-8 : Int32)) hF)
      · replace hF := eg_if c2 hF
        refine eg_iconst (v := (1 : Int32)) dX13_bytesIn_20 (by decide) ?_
        refine eg_goto 25 dX13_bytesIn_21 rfl ?_
        refine eg_iadd dX13_bytesIn_25 ?_
        replace hF := eg_bind hF; obtain ⟨v5, e6, hF⟩ := hF
        replace e6 := Option.some.inj e6
        rw [e6]
        refine eg_istore_n (i := 1) [(1, .int v5), (0, .int l0), (2, .int l2)] dX13_bytesIn_26 rfl (Nat.le_of_ble_eq_true rfl) rfl ?_
        refine eg_iinc (i := 2) (v := (l2 + (-8 : Int32))) 2 [(2, .int (l2 + (-8 : Int32))), (1, .int v5), (0, .int l0)] dX13_bytesIn_27 rfl rfl (Nat.le_of_ble_eq_true rfl) rfl ?_
        refine eg_goto 5 dX13_bytesIn_30 rfl ?_
        exact eg_sub [2, 1, 0] [(0, .int l0), (1, .int v5), (2, .int (l2 + (-8 : Int32)))] rfl (hrec h l0 v5 (l2 + (-8 : Int32)) hF)
def fX13_bytesIn (h : eg_H) (l0 : Int32) : Option (Int32 × eg_H) :=
  (fX13_bytesIn_L5 eg_F h l0 (0 : Int32) (24 : Int32)).bind fun e =>
  match e with
  | (v3, h4) =>
    some (v3, h4)
set_option maxRecDepth 20000 in
theorem mX13_bytesIn {h : eg_H} {l0 : Int32} {rE : Int32} {hE : eg_H} (hF : fX13_bytesIn h l0 = some (rE, hE)) : eg_Met yX13_bytesIn cX13_bytesIn 3 (some .int) 1 [.int l0] h (some (.int rE)) hE := by
  refine eg_enter rfl (Nat.le_of_ble_eq_true rfl) ?_
  show eg_AW (RX13, cX13_bytesIn, 3, 1, none, "bytesIn", (some .int)) (eg_Zm (some (.int rE)) hE h) (eg_nc hE) (eg_ns hE) h 0 [(0, .int l0)] [] h
  refine eg_iconst (v := (0 : Int32)) dX13_bytesIn_0 (by decide) ?_
  refine eg_istore_n (i := 1) [(1, .int (0 : Int32)), (0, .int l0)] dX13_bytesIn_1 rfl (Nat.le_of_ble_eq_true rfl) rfl ?_
  refine eg_bipush (v := (24 : Int32)) dX13_bytesIn_2 (by decide) ?_
  refine eg_istore_n (i := 2) [(2, .int (24 : Int32)), (1, .int (0 : Int32)), (0, .int l0)] dX13_bytesIn_4 rfl (Nat.le_of_ble_eq_true rfl) rfl ?_
  replace hF := eg_bind hF; obtain ⟨x2, e1, hF⟩ := hF
  refine eg_sub [2, 1, 0] [(0, .int l0), (1, .int (0 : Int32)), (2, .int (24 : Int32))] rfl (fX13_bytesIn_L5_ok eg_F h l0 (0 : Int32) (24 : Int32) x2 e1 ?_)
  · intro v3 h4 e5
    subst e5
    refine eg_iload_n (i := 1) 0 dX13_bytesIn_33 rfl rfl ?_
    exact eg_iretE dX13_bytesIn_34 hF
theorem dX13_put_0 : decode cX13_put 0 = .ok (.bipush 24, 2) := by decide +kernel
theorem dX13_put_2 : decode cX13_put 2 = .ok (.istore_n 2, 1) := by decide +kernel
theorem dX13_put_3 : decode cX13_put 3 = .ok (.iload_n 2, 1) := by decide +kernel
theorem dX13_put_4 : decode cX13_put 4 = .ok (.ifCond .lt 45, 3) := by decide +kernel
theorem dX13_put_7 : decode cX13_put 7 = .ok (.iload_n 1, 1) := by decide +kernel
theorem dX13_put_8 : decode cX13_put 8 = .ok (.iload_n 2, 1) := by decide +kernel
theorem dX13_put_9 : decode cX13_put 9 = .ok (.ishr, 1) := by decide +kernel
theorem dX13_put_10 : decode cX13_put 10 = .ok (.sipush 255, 3) := by decide +kernel
theorem dX13_put_13 : decode cX13_put 13 = .ok (.iand, 1) := by decide +kernel
theorem dX13_put_14 : decode cX13_put 14 = .ok (.ifCond .ne 6, 3) := by decide +kernel
theorem dX13_put_17 : decode cX13_put 17 = .ok (.goto 26, 3) := by decide +kernel
theorem dX13_put_20 : decode cX13_put 20 = .ok (.aload_n 0, 1) := by decide +kernel
theorem dX13_put_21 : decode cX13_put 21 = .ok (.getfield 9, 3) := by decide +kernel
theorem dX13_put_24 : decode cX13_put 24 = .ok (.aload_n 0, 1) := by decide +kernel
theorem dX13_put_25 : decode cX13_put 25 = .ok (.getfield 161, 3) := by decide +kernel
theorem dX13_put_28 : decode cX13_put 28 = .ok (.iload_n 1, 1) := by decide +kernel
theorem dX13_put_29 : decode cX13_put 29 = .ok (.iload_n 2, 1) := by decide +kernel
theorem dX13_put_30 : decode cX13_put 30 = .ok (.ishr, 1) := by decide +kernel
theorem dX13_put_31 : decode cX13_put 31 = .ok (.i2b, 1) := by decide +kernel
theorem dX13_put_32 : decode cX13_put 32 = .ok (.bastore, 1) := by decide +kernel
theorem dX13_put_33 : decode cX13_put 33 = .ok (.aload_n 0, 1) := by decide +kernel
theorem dX13_put_34 : decode cX13_put 34 = .ok (.dup, 1) := by decide +kernel
theorem dX13_put_35 : decode cX13_put 35 = .ok (.getfield 161, 3) := by decide +kernel
theorem dX13_put_38 : decode cX13_put 38 = .ok (.iconst 1, 1) := by decide +kernel
theorem dX13_put_39 : decode cX13_put 39 = .ok (.iadd, 1) := by decide +kernel
theorem dX13_put_40 : decode cX13_put 40 = .ok (.putfield 161, 3) := by decide +kernel
theorem dX13_put_43 : decode cX13_put 43 = .ok (.iinc 2 (-8), 3) := by decide +kernel
theorem dX13_put_46 : decode cX13_put 46 = .ok (.goto (-43), 3) := by decide +kernel
theorem dX13_put_49 : decode cX13_put 49 = .ok (.return_, 1) := by decide +kernel
def fX13_put_L3 : Nat → eg_H → Nat → Int32 → Int32 → Option (eg_H)
  | 0, _, _, _, _ => none
  | n + 1, h, l0, l1, l2 =>
    if l2 < 0 then
      (some h)
    else
      if ((l1 >>> (l2 &&& 31)) &&& (255 : Int32)) = 0 then
        (fX13_put_L3 n h l0 l1 (l2 + (-8 : Int32)))
      else
        (eg_gR h 13 1 l0).bind fun p3 =>
        (eg_gI h 13 6 l0).bind fun v5 =>
        (eg_wI h 102 p3 v5 (vp_nar .byte ((l1 >>> (l2 &&& 31)).toInt8.toInt32))).bind fun h7 =>
        (eg_gI h7 13 6 l0).bind fun v9 =>
        (eg_pI h7 13 6 l0 (v9 + (1 : Int32))).bind fun h11 =>
        fX13_put_L3 n h11 l0 l1 (l2 + (-8 : Int32))
set_option maxRecDepth 20000 in
theorem fX13_put_L3_ok {h0 : eg_H} {Z : eg_C → State → Prop} {N S : Nat} : ∀ (n : Nat) (h : eg_H) (l0 : Nat) (l1 : Int32) (l2 : Int32) (eE : eg_H), fX13_put_L3 n h l0 l1 l2 = some eE → (hk0 : ∀  (h : eg_H), eE = h → eg_AW (RX13, cX13_put, 3, 1, none, "put", none) Z N S h0 49 [] [] h) → eg_AW (RX13, cX13_put, 3, 1, none, "put", none) Z N S h0 3 [(0, .ref l0), (1, .int l1), (2, .int l2)] [] h := by
  intro n
  induction n with
  | zero => intro h l0 l1 l2 eE hF; exact absurd hF (by intro q; cases q)
  | succ n ih =>
    intro h l0 l1 l2 eE hF hk0
    have hrec := fun (h' : eg_H) (l0 : Nat) (l1 : Int32) (l2 : Int32) hq => ih h' l0 l1 l2 eE hq hk0
    refine eg_iload_n (i := 2) 2 dX13_put_3 rfl rfl ?_
    refine eg_if_lt 49 dX13_put_4 rfl (fun c1 => ?_) (fun c1 => ?_)
    · replace hF := eg_it c1 hF
      exact eg_sub [] [] rfl (hk0 h (Option.some.inj hF).symm)
    · replace hF := eg_if c1 hF
      refine eg_iload_n (i := 1) 1 dX13_put_7 rfl rfl ?_
      refine eg_iload_n (i := 2) 2 dX13_put_8 rfl rfl ?_
      refine eg_ishr dX13_put_9 ?_
      refine eg_sipush (v := (255 : Int32)) dX13_put_10 (by decide) ?_
      refine eg_iand dX13_put_13 ?_
      refine eg_if_ne 20 dX13_put_14 rfl (fun c2 => ?_) (fun c2 => ?_)
      · replace hF := eg_it c2 hF
        refine eg_goto 43 dX13_put_17 rfl ?_
        refine eg_iinc (i := 2) (v := (l2 + (-8 : Int32))) 2 [(2, .int (l2 + (-8 : Int32))), (0, .ref l0), (1, .int l1)] dX13_put_43 rfl rfl (Nat.le_of_ble_eq_true rfl) rfl ?_
        refine eg_goto 3 dX13_put_46 rfl ?_
        exact eg_sub [1, 2, 0] [(0, .ref l0), (1, .int l1), (2, .int (l2 + (-8 : Int32)))] rfl (hrec h l0 l1 (l2 + (-8 : Int32)) hF)
      · replace hF := eg_if c2 hF
        refine eg_aload_n (i := 0) 0 dX13_put_20 rfl rfl ?_
        replace hF := eg_bind hF; obtain ⟨p3, e4, hF⟩ := hF
        refine eg_getR dX13_put_21 e4 (Nat.le_of_ble_eq_true rfl) (Nat.le_of_ble_eq_true rfl) rfl ew_1435 ?_
        refine eg_aload_n (i := 0) 0 dX13_put_24 rfl rfl ?_
        replace hF := eg_bind hF; obtain ⟨v5, e6, hF⟩ := hF
        refine eg_getI dX13_put_25 e6 (Nat.le_of_ble_eq_true rfl) (Nat.le_of_ble_eq_true rfl) rfl ew_1440 ?_
        refine eg_iload_n (i := 1) 1 dX13_put_28 rfl rfl ?_
        refine eg_iload_n (i := 2) 2 dX13_put_29 rfl rfl ?_
        refine eg_ishr dX13_put_30 ?_
        refine eg_i2b dX13_put_31 ?_
        replace hF := eg_bind hF; obtain ⟨h7, e8, hF⟩ := hF
        refine eg_bast dX13_put_32 e8 ?_
        refine eg_aload_n (i := 0) 0 dX13_put_33 rfl rfl ?_
        refine eg_dup dX13_put_34 rfl ?_
        replace hF := eg_bind hF; obtain ⟨v9, e10, hF⟩ := hF
        refine eg_getI dX13_put_35 e10 (Nat.le_of_ble_eq_true rfl) (Nat.le_of_ble_eq_true rfl) rfl ew_1440 ?_
        refine eg_iconst (v := (1 : Int32)) dX13_put_38 (by decide) ?_
        refine eg_iadd dX13_put_39 ?_
        replace hF := eg_bind hF; obtain ⟨h11, e12, hF⟩ := hF
        refine eg_putI dX13_put_40 e12 (Nat.le_of_ble_eq_true rfl) (Nat.le_of_ble_eq_true rfl) rfl ew_1440 (Or.inl rfl) ?_
        refine eg_iinc (i := 2) (v := (l2 + (-8 : Int32))) 2 [(2, .int (l2 + (-8 : Int32))), (0, .ref l0), (1, .int l1)] dX13_put_43 rfl rfl (Nat.le_of_ble_eq_true rfl) rfl ?_
        refine eg_goto 3 dX13_put_46 rfl ?_
        exact eg_sub [1, 2, 0] [(0, .ref l0), (1, .int l1), (2, .int (l2 + (-8 : Int32)))] rfl (hrec h11 l0 l1 (l2 + (-8 : Int32)) hF)
def fX13_put (h : eg_H) (l0 : Nat) (l1 : Int32) : Option (eg_H) :=
  if eg_isO h 13 l0 then (
    (fX13_put_L3 eg_F h l0 l1 (24 : Int32)).bind fun e =>
    match e with
    | h3 =>
      some h3) else none
theorem fX13_put_O {h : eg_H} {l0 : Nat} {l1 : Int32} {hE : eg_H} (hF : fX13_put h l0 l1 = some hE) : eg_isO h 13 l0 := (eg_ifn hF).1
set_option maxRecDepth 20000 in
theorem mX13_put {h : eg_H} {l0 : Nat} {l1 : Int32} {hE : eg_H} (hF : fX13_put h l0 l1 = some hE) : eg_Met yX13_put cX13_put 3 none 1 [.ref l0, .int l1] h none hE := by
  refine eg_enter rfl (Nat.le_of_ble_eq_true rfl) ?_
  show eg_AW (RX13, cX13_put, 3, 1, none, "put", none) (eg_Zm none hE h) (eg_nc hE) (eg_ns hE) h 0 [(0, .ref l0), (1, .int l1)] [] h
  replace hF := (eg_ifn hF).2
  refine eg_bipush (v := (24 : Int32)) dX13_put_0 (by decide) ?_
  refine eg_istore_n (i := 2) [(2, .int (24 : Int32)), (0, .ref l0), (1, .int l1)] dX13_put_2 rfl (Nat.le_of_ble_eq_true rfl) rfl ?_
  replace hF := eg_bind hF; obtain ⟨x2, e1, hF⟩ := hF
  refine eg_sub [1, 2, 0] [(0, .ref l0), (1, .int l1), (2, .int (24 : Int32))] rfl (fX13_put_L3_ok eg_F h l0 l1 (24 : Int32) x2 e1 ?_)
  · intro h3 e4
    subst e4
    exact eg_vretE dX13_put_49 hF
