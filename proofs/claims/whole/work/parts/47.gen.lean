theorem dX13_champion_0 : decode cX13_champion 0 = .ok (.aload_n 0, 1) := by decide +kernel
theorem dX13_champion_1 : decode cX13_champion 1 = .ok (.iconst 0, 1) := by decide +kernel
theorem dX13_champion_2 : decode cX13_champion 2 = .ok (.putfield 148, 3) := by decide +kernel
theorem dX13_champion_5 : decode cX13_champion 5 = .ok (.iconst (-1), 1) := by decide +kernel
theorem dX13_champion_6 : decode cX13_champion 6 = .ok (.istore_n 1, 1) := by decide +kernel
theorem dX13_champion_7 : decode cX13_champion 7 = .ok (.iconst 0, 1) := by decide +kernel
theorem dX13_champion_8 : decode cX13_champion 8 = .ok (.istore_n 2, 1) := by decide +kernel
theorem dX13_champion_9 : decode cX13_champion 9 = .ok (.iload_n 2, 1) := by decide +kernel
theorem dX13_champion_10 : decode cX13_champion 10 = .ok (.aload_n 0, 1) := by decide +kernel
theorem dX13_champion_11 : decode cX13_champion 11 = .ok (.getfield 347, 3) := by decide +kernel
theorem dX13_champion_14 : decode cX13_champion 14 = .ok (.if_icmp .ge 31, 3) := by decide +kernel
theorem dX13_champion_17 : decode cX13_champion 17 = .ok (.iload_n 1, 1) := by decide +kernel
theorem dX13_champion_18 : decode cX13_champion 18 = .ok (.iconst (-1), 1) := by decide +kernel
theorem dX13_champion_19 : decode cX13_champion 19 = .ok (.if_icmp .eq 18, 3) := by decide +kernel
theorem dX13_champion_22 : decode cX13_champion 22 = .ok (.aload_n 0, 1) := by decide +kernel
theorem dX13_champion_23 : decode cX13_champion 23 = .ok (.getfield 133, 3) := by decide +kernel
theorem dX13_champion_26 : decode cX13_champion 26 = .ok (.iload_n 2, 1) := by decide +kernel
theorem dX13_champion_27 : decode cX13_champion 27 = .ok (.iaload, 1) := by decide +kernel
theorem dX13_champion_28 : decode cX13_champion 28 = .ok (.aload_n 0, 1) := by decide +kernel
theorem dX13_champion_29 : decode cX13_champion 29 = .ok (.getfield 133, 3) := by decide +kernel
theorem dX13_champion_32 : decode cX13_champion 32 = .ok (.iload_n 1, 1) := by decide +kernel
theorem dX13_champion_33 : decode cX13_champion 33 = .ok (.iaload, 1) := by decide +kernel
theorem dX13_champion_34 : decode cX13_champion 34 = .ok (.if_icmp .le 5, 3) := by decide +kernel
theorem dX13_champion_37 : decode cX13_champion 37 = .ok (.iload_n 2, 1) := by decide +kernel
theorem dX13_champion_38 : decode cX13_champion 38 = .ok (.istore_n 1, 1) := by decide +kernel
theorem dX13_champion_39 : decode cX13_champion 39 = .ok (.iinc 2 1, 3) := by decide +kernel
theorem dX13_champion_42 : decode cX13_champion 42 = .ok (.goto (-33), 3) := by decide +kernel
theorem dX13_champion_45 : decode cX13_champion 45 = .ok (.iload_n 1, 1) := by decide +kernel
theorem dX13_champion_46 : decode cX13_champion 46 = .ok (.ireturn, 1) := by decide +kernel
def fX13_champion_L9 : Nat → eg_H → Nat → Int32 → Int32 → Option (Int32 × eg_H)
  | 0, _, _, _, _ => none
  | n + 1, h, l0, l1, l2 =>
    (eg_gI h 13 72 l0).bind fun v1 =>
    if v1 ≤ l2 then
      (some (l1, h))
    else
      if l1 = (-1 : Int32) then
        (fX13_champion_L9 n h l0 l2 (l2 + (1 : Int32)))
      else
        (eg_gR h 13 71 l0).bind fun p5 =>
        (eg_aI h 100 p5 l2).bind fun v7 =>
        (eg_gR h 13 71 l0).bind fun p9 =>
        (eg_aI h 100 p9 l1).bind fun v11 =>
        if v7 ≤ v11 then
          (fX13_champion_L9 n h l0 l1 (l2 + (1 : Int32)))
        else
          fX13_champion_L9 n h l0 l2 (l2 + (1 : Int32))
set_option maxRecDepth 20000 in
theorem fX13_champion_L9_ok {h0 : eg_H} {Z : eg_C → State → Prop} {N S : Nat} : ∀ (n : Nat) (h : eg_H) (l0 : Nat) (l1 : Int32) (l2 : Int32) (eE : Int32 × eg_H), fX13_champion_L9 n h l0 l1 l2 = some eE → (hk0 : ∀ (l1 : Int32) (h : eg_H), eE = (l1, h) → eg_AW (RX13, cX13_champion, 3, 1, none, "champion", (some .int)) Z N S h0 45 [(1, .int l1)] [] h) → eg_AW (RX13, cX13_champion, 3, 1, none, "champion", (some .int)) Z N S h0 9 [(0, .ref l0), (1, .int l1), (2, .int l2)] [] h := by
  intro n
  induction n with
  | zero => intro h l0 l1 l2 eE hF; exact absurd hF (by intro q; cases q)
  | succ n ih =>
    intro h l0 l1 l2 eE hF hk0
    have hrec := fun (h' : eg_H) (l0 : Nat) (l1 : Int32) (l2 : Int32) hq => ih h' l0 l1 l2 eE hq hk0
    refine eg_iload_n (i := 2) 2 dX13_champion_9 rfl rfl ?_
    refine eg_aload_n (i := 0) 0 dX13_champion_10 rfl rfl ?_
    replace hF := eg_bind hF; obtain ⟨v1, e2, hF⟩ := hF
    refine eg_getI dX13_champion_11 e2 (Nat.le_of_ble_eq_true rfl) (Nat.le_of_ble_eq_true rfl) rfl ew_1506 ?_
    refine eg_ic_ge 45 dX13_champion_14 rfl (fun c3 => ?_) (fun c3 => ?_)
    · replace hF := eg_it c3 hF
      exact eg_sub [1] [(1, .int l1)] rfl (hk0 l1 h (Option.some.inj hF).symm)
    · replace hF := eg_if c3 hF
      refine eg_iload_n (i := 1) 1 dX13_champion_17 rfl rfl ?_
      refine eg_iconst (v := (-1 : Int32)) dX13_champion_18 (by decide) ?_
      refine eg_ic_eq 37 dX13_champion_19 rfl (fun c4 => ?_) (fun c4 => ?_)
      · replace hF := eg_it c4 hF
        refine eg_iload_n (i := 2) 2 dX13_champion_37 rfl rfl ?_
        refine eg_istore_n (i := 1) [(1, .int l2), (0, .ref l0), (2, .int l2)] dX13_champion_38 rfl (Nat.le_of_ble_eq_true rfl) rfl ?_
        refine eg_iinc (i := 2) (v := (l2 + (1 : Int32))) 2 [(2, .int (l2 + (1 : Int32))), (1, .int l2), (0, .ref l0)] dX13_champion_39 rfl rfl (Nat.le_of_ble_eq_true rfl) rfl ?_
        refine eg_goto 9 dX13_champion_42 rfl ?_
        exact eg_sub [2, 1, 0] [(0, .ref l0), (1, .int l2), (2, .int (l2 + (1 : Int32)))] rfl (hrec h l0 l2 (l2 + (1 : Int32)) hF)
      · replace hF := eg_if c4 hF
        refine eg_aload_n (i := 0) 0 dX13_champion_22 rfl rfl ?_
        replace hF := eg_bind hF; obtain ⟨p5, e6, hF⟩ := hF
        refine eg_getR dX13_champion_23 e6 (Nat.le_of_ble_eq_true rfl) (Nat.le_of_ble_eq_true rfl) rfl ew_1505 ?_
        refine eg_iload_n (i := 2) 2 dX13_champion_26 rfl rfl ?_
        replace hF := eg_bind hF; obtain ⟨v7, e8, hF⟩ := hF
        refine eg_iald dX13_champion_27 e8 ?_
        refine eg_aload_n (i := 0) 0 dX13_champion_28 rfl rfl ?_
        replace hF := eg_bind hF; obtain ⟨p9, e10, hF⟩ := hF
        refine eg_getR dX13_champion_29 e10 (Nat.le_of_ble_eq_true rfl) (Nat.le_of_ble_eq_true rfl) rfl ew_1505 ?_
        refine eg_iload_n (i := 1) 1 dX13_champion_32 rfl rfl ?_
        replace hF := eg_bind hF; obtain ⟨v11, e12, hF⟩ := hF
        refine eg_iald dX13_champion_33 e12 ?_
        refine eg_ic_le 39 dX13_champion_34 rfl (fun c13 => ?_) (fun c13 => ?_)
        · replace hF := eg_it c13 hF
          refine eg_iinc (i := 2) (v := (l2 + (1 : Int32))) 2 [(2, .int (l2 + (1 : Int32))), (0, .ref l0), (1, .int l1)] dX13_champion_39 rfl rfl (Nat.le_of_ble_eq_true rfl) rfl ?_
          refine eg_goto 9 dX13_champion_42 rfl ?_
          exact eg_sub [1, 2, 0] [(0, .ref l0), (1, .int l1), (2, .int (l2 + (1 : Int32)))] rfl (hrec h l0 l1 (l2 + (1 : Int32)) hF)
        · replace hF := eg_if c13 hF
          refine eg_iload_n (i := 2) 2 dX13_champion_37 rfl rfl ?_
          refine eg_istore_n (i := 1) [(1, .int l2), (0, .ref l0), (2, .int l2)] dX13_champion_38 rfl (Nat.le_of_ble_eq_true rfl) rfl ?_
          refine eg_iinc (i := 2) (v := (l2 + (1 : Int32))) 2 [(2, .int (l2 + (1 : Int32))), (1, .int l2), (0, .ref l0)] dX13_champion_39 rfl rfl (Nat.le_of_ble_eq_true rfl) rfl ?_
          refine eg_goto 9 dX13_champion_42 rfl ?_
          exact eg_sub [2, 1, 0] [(0, .ref l0), (1, .int l2), (2, .int (l2 + (1 : Int32)))] rfl (hrec h l0 l2 (l2 + (1 : Int32)) hF)
def fX13_champion (h : eg_H) (l0 : Nat) : Option (Int32 × eg_H) :=
  if eg_isO h 13 l0 then (
    (eg_pI h 13 0 l0 (0 : Int32)).bind fun h1 =>
    (fX13_champion_L9 eg_F h1 l0 (-1 : Int32) (0 : Int32)).bind fun e =>
    match e with
    | (v5, h6) =>
      some (v5, h6)) else none
theorem fX13_champion_O {h : eg_H} {l0 : Nat} {rE : Int32} {hE : eg_H} (hF : fX13_champion h l0 = some (rE, hE)) : eg_isO h 13 l0 := (eg_ifn hF).1
set_option maxRecDepth 20000 in
theorem mX13_champion {h : eg_H} {l0 : Nat} {rE : Int32} {hE : eg_H} (hF : fX13_champion h l0 = some (rE, hE)) : eg_Met yX13_champion cX13_champion 3 (some .int) 1 [.ref l0] h (some (.int rE)) hE := by
  refine eg_enter rfl (Nat.le_of_ble_eq_true rfl) ?_
  show eg_AW (RX13, cX13_champion, 3, 1, none, "champion", (some .int)) (eg_Zm (some (.int rE)) hE h) (eg_nc hE) (eg_ns hE) h 0 [(0, .ref l0)] [] h
  replace hF := (eg_ifn hF).2
  refine eg_aload_n (i := 0) 0 dX13_champion_0 rfl rfl ?_
  refine eg_iconst (v := (0 : Int32)) dX13_champion_1 (by decide) ?_
  replace hF := eg_bind hF; obtain ⟨h1, e2, hF⟩ := hF
  refine eg_putI dX13_champion_2 e2 (Nat.le_of_ble_eq_true rfl) (Nat.le_of_ble_eq_true rfl) rfl ew_1434 (Or.inl rfl) ?_
  refine eg_iconst (v := (-1 : Int32)) dX13_champion_5 (by decide) ?_
  refine eg_istore_n (i := 1) [(1, .int (-1 : Int32)), (0, .ref l0)] dX13_champion_6 rfl (Nat.le_of_ble_eq_true rfl) rfl ?_
  refine eg_iconst (v := (0 : Int32)) dX13_champion_7 (by decide) ?_
  refine eg_istore_n (i := 2) [(2, .int (0 : Int32)), (1, .int (-1 : Int32)), (0, .ref l0)] dX13_champion_8 rfl (Nat.le_of_ble_eq_true rfl) rfl ?_
  replace hF := eg_bind hF; obtain ⟨x4, e3, hF⟩ := hF
  refine eg_sub [2, 1, 0] [(0, .ref l0), (1, .int (-1 : Int32)), (2, .int (0 : Int32))] rfl (fX13_champion_L9_ok eg_F h1 l0 (-1 : Int32) (0 : Int32) x4 e3 ?_)
  · intro v5 h6 e7
    subst e7
    refine eg_iload_n (i := 1) 0 dX13_champion_45 rfl rfl ?_
    exact eg_iretE dX13_champion_46 hF
theorem dX13_undo_0 : decode cX13_undo 0 = .ok (.aload_n 0, 1) := by decide +kernel
theorem dX13_undo_1 : decode cX13_undo 1 = .ok (.iconst 0, 1) := by decide +kernel
theorem dX13_undo_2 : decode cX13_undo 2 = .ok (.putfield 148, 3) := by decide +kernel
theorem dX13_undo_5 : decode cX13_undo 5 = .ok (.aload_n 0, 1) := by decide +kernel
theorem dX13_undo_6 : decode cX13_undo 6 = .ok (.getfield 347, 3) := by decide +kernel
theorem dX13_undo_9 : decode cX13_undo 9 = .ok (.ifCond .ne 5, 3) := by decide +kernel
theorem dX13_undo_12 : decode cX13_undo 12 = .ok (.iconst (-1), 1) := by decide +kernel
theorem dX13_undo_13 : decode cX13_undo 13 = .ok (.ireturn, 1) := by decide +kernel
theorem dX13_undo_14 : decode cX13_undo 14 = .ok (.aload_n 0, 1) := by decide +kernel
theorem dX13_undo_15 : decode cX13_undo 15 = .ok (.dup, 1) := by decide +kernel
theorem dX13_undo_16 : decode cX13_undo 16 = .ok (.getfield 347, 3) := by decide +kernel
theorem dX13_undo_19 : decode cX13_undo 19 = .ok (.iconst 1, 1) := by decide +kernel
theorem dX13_undo_20 : decode cX13_undo 20 = .ok (.isub, 1) := by decide +kernel
theorem dX13_undo_21 : decode cX13_undo 21 = .ok (.putfield 347, 3) := by decide +kernel
theorem dX13_undo_24 : decode cX13_undo 24 = .ok (.aload_n 0, 1) := by decide +kernel
theorem dX13_undo_25 : decode cX13_undo 25 = .ok (.getfield 347, 3) := by decide +kernel
theorem dX13_undo_28 : decode cX13_undo 28 = .ok (.ireturn, 1) := by decide +kernel
def fX13_undo (h : eg_H) (l0 : Nat) : Option (Int32 × eg_H) :=
  if eg_isO h 13 l0 then (
    (eg_pI h 13 0 l0 (0 : Int32)).bind fun h1 =>
    (eg_gI h1 13 72 l0).bind fun v3 =>
    if v3 = 0 then
      (some ((-1 : Int32), h1))
    else
      (eg_gI h1 13 72 l0).bind fun v6 =>
      (eg_pI h1 13 72 l0 (v6 - (1 : Int32))).bind fun h8 =>
      (eg_gI h8 13 72 l0).bind fun v10 =>
      some (v10, h8)) else none
theorem fX13_undo_O {h : eg_H} {l0 : Nat} {rE : Int32} {hE : eg_H} (hF : fX13_undo h l0 = some (rE, hE)) : eg_isO h 13 l0 := (eg_ifn hF).1
set_option maxRecDepth 20000 in
theorem mX13_undo {h : eg_H} {l0 : Nat} {rE : Int32} {hE : eg_H} (hF : fX13_undo h l0 = some (rE, hE)) : eg_Met yX13_undo cX13_undo 1 (some .int) 1 [.ref l0] h (some (.int rE)) hE := by
  refine eg_enter rfl (Nat.le_of_ble_eq_true rfl) ?_
  show eg_AW (RX13, cX13_undo, 1, 1, none, "undo", (some .int)) (eg_Zm (some (.int rE)) hE h) (eg_nc hE) (eg_ns hE) h 0 [(0, .ref l0)] [] h
  replace hF := (eg_ifn hF).2
  refine eg_aload_n (i := 0) 0 dX13_undo_0 rfl rfl ?_
  refine eg_iconst (v := (0 : Int32)) dX13_undo_1 (by decide) ?_
  replace hF := eg_bind hF; obtain ⟨h1, e2, hF⟩ := hF
  refine eg_putI dX13_undo_2 e2 (Nat.le_of_ble_eq_true rfl) (Nat.le_of_ble_eq_true rfl) rfl ew_1434 (Or.inl rfl) ?_
  refine eg_aload_n (i := 0) 0 dX13_undo_5 rfl rfl ?_
  replace hF := eg_bind hF; obtain ⟨v3, e4, hF⟩ := hF
  refine eg_getI dX13_undo_6 e4 (Nat.le_of_ble_eq_true rfl) (Nat.le_of_ble_eq_true rfl) rfl ew_1506 ?_
  refine eg_if_ne 14 dX13_undo_9 rfl (fun c5 => ?_) (fun c5 => ?_)
  · replace hF := eg_it c5 hF
    refine eg_iconst (v := (-1 : Int32)) dX13_undo_12 (by decide) ?_
    exact eg_iretE dX13_undo_13 hF
  · replace hF := eg_if c5 hF
    refine eg_aload_n (i := 0) 0 dX13_undo_14 rfl rfl ?_
    refine eg_dup dX13_undo_15 rfl ?_
    replace hF := eg_bind hF; obtain ⟨v6, e7, hF⟩ := hF
    refine eg_getI dX13_undo_16 e7 (Nat.le_of_ble_eq_true rfl) (Nat.le_of_ble_eq_true rfl) rfl ew_1506 ?_
    refine eg_iconst (v := (1 : Int32)) dX13_undo_19 (by decide) ?_
    refine eg_isub dX13_undo_20 ?_
    replace hF := eg_bind hF; obtain ⟨h8, e9, hF⟩ := hF
    refine eg_putI dX13_undo_21 e9 (Nat.le_of_ble_eq_true rfl) (Nat.le_of_ble_eq_true rfl) rfl ew_1506 (Or.inl rfl) ?_
    refine eg_aload_n (i := 0) 0 dX13_undo_24 rfl rfl ?_
    replace hF := eg_bind hF; obtain ⟨v10, e11, hF⟩ := hF
    refine eg_getI dX13_undo_25 e11 (Nat.le_of_ble_eq_true rfl) (Nat.le_of_ble_eq_true rfl) rfl ew_1506 ?_
    exact eg_iretE dX13_undo_28 hF
theorem dX13_image_0 : decode cX13_image 0 = .ok (.aload_n 0, 1) := by decide +kernel
theorem dX13_image_1 : decode cX13_image 1 = .ok (.iconst 0, 1) := by decide +kernel
theorem dX13_image_2 : decode cX13_image 2 = .ok (.putfield 148, 3) := by decide +kernel
theorem dX13_image_5 : decode cX13_image 5 = .ok (.aload_n 0, 1) := by decide +kernel
theorem dX13_image_6 : decode cX13_image 6 = .ok (.getfield 335, 3) := by decide +kernel
theorem dX13_image_9 : decode cX13_image 9 = .ok (.ifCond .ne 5, 3) := by decide +kernel
theorem dX13_image_12 : decode cX13_image 12 = .ok (.iconst (-1), 1) := by decide +kernel
theorem dX13_image_13 : decode cX13_image 13 = .ok (.ireturn, 1) := by decide +kernel
theorem dX13_image_14 : decode cX13_image 14 = .ok (.iconst 0, 1) := by decide +kernel
theorem dX13_image_15 : decode cX13_image 15 = .ok (.istore_n 1, 1) := by decide +kernel
theorem dX13_image_16 : decode cX13_image 16 = .ok (.iload_n 1, 1) := by decide +kernel
theorem dX13_image_17 : decode cX13_image 17 = .ok (.iconst 4, 1) := by decide +kernel
theorem dX13_image_18 : decode cX13_image 18 = .ok (.if_icmp .ge 21, 3) := by decide +kernel
theorem dX13_image_21 : decode cX13_image 21 = .ok (.aload_n 0, 1) := by decide +kernel
theorem dX13_image_22 : decode cX13_image 22 = .ok (.getfield 136, 3) := by decide +kernel
theorem dX13_image_25 : decode cX13_image 25 = .ok (.iload_n 1, 1) := by decide +kernel
theorem dX13_image_26 : decode cX13_image 26 = .ok (.aload_n 0, 1) := by decide +kernel
theorem dX13_image_27 : decode cX13_image 27 = .ok (.getfield 37, 3) := by decide +kernel
theorem dX13_image_30 : decode cX13_image 30 = .ok (.iload_n 1, 1) := by decide +kernel
theorem dX13_image_31 : decode cX13_image 31 = .ok (.iaload, 1) := by decide +kernel
theorem dX13_image_32 : decode cX13_image 32 = .ok (.iastore, 1) := by decide +kernel
theorem dX13_image_33 : decode cX13_image 33 = .ok (.iinc 1 1, 3) := by decide +kernel
theorem dX13_image_36 : decode cX13_image 36 = .ok (.goto (-20), 3) := by decide +kernel
theorem dX13_image_39 : decode cX13_image 39 = .ok (.iconst 0, 1) := by decide +kernel
theorem dX13_image_40 : decode cX13_image 40 = .ok (.istore_n 1, 1) := by decide +kernel
theorem dX13_image_41 : decode cX13_image 41 = .ok (.iload_n 1, 1) := by decide +kernel
theorem dX13_image_42 : decode cX13_image 42 = .ok (.bipush 40, 2) := by decide +kernel
theorem dX13_image_44 : decode cX13_image 44 = .ok (.if_icmp .ge 45, 3) := by decide +kernel
theorem dX13_image_47 : decode cX13_image 47 = .ok (.aload_n 0, 1) := by decide +kernel
theorem dX13_image_48 : decode cX13_image 48 = .ok (.getfield 139, 3) := by decide +kernel
theorem dX13_image_51 : decode cX13_image 51 = .ok (.iload_n 1, 1) := by decide +kernel
theorem dX13_image_52 : decode cX13_image 52 = .ok (.aload_n 0, 1) := by decide +kernel
theorem dX13_image_53 : decode cX13_image 53 = .ok (.getfield 127, 3) := by decide +kernel
theorem dX13_image_56 : decode cX13_image 56 = .ok (.iload_n 1, 1) := by decide +kernel
theorem dX13_image_57 : decode cX13_image 57 = .ok (.iaload, 1) := by decide +kernel
theorem dX13_image_58 : decode cX13_image 58 = .ok (.iastore, 1) := by decide +kernel
theorem dX13_image_59 : decode cX13_image 59 = .ok (.aload_n 0, 1) := by decide +kernel
theorem dX13_image_60 : decode cX13_image 60 = .ok (.getfield 142, 3) := by decide +kernel
theorem dX13_image_63 : decode cX13_image 63 = .ok (.iload_n 1, 1) := by decide +kernel
theorem dX13_image_64 : decode cX13_image 64 = .ok (.aload_n 0, 1) := by decide +kernel
theorem dX13_image_65 : decode cX13_image 65 = .ok (.getfield 130, 3) := by decide +kernel
theorem dX13_image_68 : decode cX13_image 68 = .ok (.iload_n 1, 1) := by decide +kernel
theorem dX13_image_69 : decode cX13_image 69 = .ok (.iaload, 1) := by decide +kernel
theorem dX13_image_70 : decode cX13_image 70 = .ok (.iastore, 1) := by decide +kernel
theorem dX13_image_71 : decode cX13_image 71 = .ok (.aload_n 0, 1) := by decide +kernel
theorem dX13_image_72 : decode cX13_image 72 = .ok (.getfield 145, 3) := by decide +kernel
theorem dX13_image_75 : decode cX13_image 75 = .ok (.iload_n 1, 1) := by decide +kernel
theorem dX13_image_76 : decode cX13_image 76 = .ok (.aload_n 0, 1) := by decide +kernel
theorem dX13_image_77 : decode cX13_image 77 = .ok (.getfield 133, 3) := by decide +kernel
theorem dX13_image_80 : decode cX13_image 80 = .ok (.iload_n 1, 1) := by decide +kernel
theorem dX13_image_81 : decode cX13_image 81 = .ok (.iaload, 1) := by decide +kernel
theorem dX13_image_82 : decode cX13_image 82 = .ok (.iastore, 1) := by decide +kernel
theorem dX13_image_83 : decode cX13_image 83 = .ok (.iinc 1 1, 3) := by decide +kernel
theorem dX13_image_86 : decode cX13_image 86 = .ok (.goto (-45), 3) := by decide +kernel
theorem dX13_image_89 : decode cX13_image 89 = .ok (.aload_n 0, 1) := by decide +kernel
theorem dX13_image_90 : decode cX13_image 90 = .ok (.aload_n 0, 1) := by decide +kernel
theorem dX13_image_91 : decode cX13_image 91 = .ok (.getfield 347, 3) := by decide +kernel
theorem dX13_image_94 : decode cX13_image 94 = .ok (.putfield 537, 3) := by decide +kernel
theorem dX13_image_97 : decode cX13_image 97 = .ok (.aload_n 0, 1) := by decide +kernel
theorem dX13_image_98 : decode cX13_image 98 = .ok (.iconst 1, 1) := by decide +kernel
theorem dX13_image_99 : decode cX13_image 99 = .ok (.putfield 350, 3) := by decide +kernel
theorem dX13_image_102 : decode cX13_image 102 = .ok (.aload_n 0, 1) := by decide +kernel
theorem dX13_image_103 : decode cX13_image 103 = .ok (.getfield 347, 3) := by decide +kernel
theorem dX13_image_106 : decode cX13_image 106 = .ok (.ireturn, 1) := by decide +kernel
def fX13_image_L16 : Nat → eg_H → Nat → Int32 → Option (Nat × eg_H)
  | 0, _, _, _ => none
  | n + 1, h, l0, l1 =>
    if (4 : Int32) ≤ l1 then
      (some (l0, h))
    else
      (eg_gR h 13 73 l0).bind fun p2 =>
      (eg_gR h 13 18 l0).bind fun p4 =>
      (eg_aI h 100 p4 l1).bind fun v6 =>
      (eg_wI h 100 p2 l1 v6).bind fun h8 =>
      fX13_image_L16 n h8 l0 (l1 + (1 : Int32))
set_option maxRecDepth 20000 in
theorem fX13_image_L16_ok {h0 : eg_H} {Z : eg_C → State → Prop} {N S : Nat} : ∀ (n : Nat) (h : eg_H) (l0 : Nat) (l1 : Int32) (eE : Nat × eg_H), fX13_image_L16 n h l0 l1 = some eE → (hk0 : ∀ (l0 : Nat) (h : eg_H), eE = (l0, h) → eg_AW (RX13, cX13_image, 2, 1, none, "image", (some .int)) Z N S h0 39 [(0, .ref l0)] [] h) → eg_AW (RX13, cX13_image, 2, 1, none, "image", (some .int)) Z N S h0 16 [(0, .ref l0), (1, .int l1)] [] h := by
  intro n
  induction n with
  | zero => intro h l0 l1 eE hF; exact absurd hF (by intro q; cases q)
  | succ n ih =>
    intro h l0 l1 eE hF hk0
    have hrec := fun (h' : eg_H) (l0 : Nat) (l1 : Int32) hq => ih h' l0 l1 eE hq hk0
    refine eg_iload_n (i := 1) 1 dX13_image_16 rfl rfl ?_
    refine eg_iconst (v := (4 : Int32)) dX13_image_17 (by decide) ?_
    refine eg_ic_ge 39 dX13_image_18 rfl (fun c1 => ?_) (fun c1 => ?_)
    · replace hF := eg_it c1 hF
      exact eg_sub [0] [(0, .ref l0)] rfl (hk0 l0 h (Option.some.inj hF).symm)
    · replace hF := eg_if c1 hF
      refine eg_aload_n (i := 0) 0 dX13_image_21 rfl rfl ?_
      replace hF := eg_bind hF; obtain ⟨p2, e3, hF⟩ := hF
      refine eg_getR dX13_image_22 e3 (Nat.le_of_ble_eq_true rfl) (Nat.le_of_ble_eq_true rfl) rfl ew_1507 ?_
      refine eg_iload_n (i := 1) 1 dX13_image_25 rfl rfl ?_
      refine eg_aload_n (i := 0) 0 dX13_image_26 rfl rfl ?_
      replace hF := eg_bind hF; obtain ⟨p4, e5, hF⟩ := hF
      refine eg_getR dX13_image_27 e5 (Nat.le_of_ble_eq_true rfl) (Nat.le_of_ble_eq_true rfl) rfl ew_1452 ?_
      refine eg_iload_n (i := 1) 1 dX13_image_30 rfl rfl ?_
      replace hF := eg_bind hF; obtain ⟨v6, e7, hF⟩ := hF
      refine eg_iald dX13_image_31 e7 ?_
      replace hF := eg_bind hF; obtain ⟨h8, e9, hF⟩ := hF
      refine eg_iast dX13_image_32 e9 ?_
      refine eg_iinc (i := 1) (v := (l1 + (1 : Int32))) 1 [(1, .int (l1 + (1 : Int32))), (0, .ref l0)] dX13_image_33 rfl rfl (Nat.le_of_ble_eq_true rfl) rfl ?_
      refine eg_goto 16 dX13_image_36 rfl ?_
      exact eg_sub [1, 0] [(0, .ref l0), (1, .int (l1 + (1 : Int32)))] rfl (hrec h8 l0 (l1 + (1 : Int32)) hF)
def fX13_image_L41 : Nat → eg_H → Nat → Int32 → Option (Nat × eg_H)
  | 0, _, _, _ => none
  | n + 1, h, l0, l1 =>
    if (40 : Int32) ≤ l1 then
      (some (l0, h))
    else
      (eg_gR h 13 74 l0).bind fun p2 =>
      (eg_gR h 13 69 l0).bind fun p4 =>
      (eg_aI h 100 p4 l1).bind fun v6 =>
      (eg_wI h 100 p2 l1 v6).bind fun h8 =>
      (eg_gR h8 13 75 l0).bind fun p10 =>
      (eg_gR h8 13 70 l0).bind fun p12 =>
      (eg_aI h8 100 p12 l1).bind fun v14 =>
      (eg_wI h8 100 p10 l1 v14).bind fun h16 =>
      (eg_gR h16 13 76 l0).bind fun p18 =>
      (eg_gR h16 13 71 l0).bind fun p20 =>
      (eg_aI h16 100 p20 l1).bind fun v22 =>
      (eg_wI h16 100 p18 l1 v22).bind fun h24 =>
      fX13_image_L41 n h24 l0 (l1 + (1 : Int32))
set_option maxRecDepth 20000 in
theorem fX13_image_L41_ok {h0 : eg_H} {Z : eg_C → State → Prop} {N S : Nat} : ∀ (n : Nat) (h : eg_H) (l0 : Nat) (l1 : Int32) (eE : Nat × eg_H), fX13_image_L41 n h l0 l1 = some eE → (hk0 : ∀ (l0 : Nat) (h : eg_H), eE = (l0, h) → eg_AW (RX13, cX13_image, 2, 1, none, "image", (some .int)) Z N S h0 89 [(0, .ref l0)] [] h) → eg_AW (RX13, cX13_image, 2, 1, none, "image", (some .int)) Z N S h0 41 [(0, .ref l0), (1, .int l1)] [] h := by
  intro n
  induction n with
  | zero => intro h l0 l1 eE hF; exact absurd hF (by intro q; cases q)
  | succ n ih =>
    intro h l0 l1 eE hF hk0
    have hrec := fun (h' : eg_H) (l0 : Nat) (l1 : Int32) hq => ih h' l0 l1 eE hq hk0
    refine eg_iload_n (i := 1) 1 dX13_image_41 rfl rfl ?_
    refine eg_bipush (v := (40 : Int32)) dX13_image_42 (by decide) ?_
    refine eg_ic_ge 89 dX13_image_44 rfl (fun c1 => ?_) (fun c1 => ?_)
    · replace hF := eg_it c1 hF
      exact eg_sub [0] [(0, .ref l0)] rfl (hk0 l0 h (Option.some.inj hF).symm)
    · replace hF := eg_if c1 hF
      refine eg_aload_n (i := 0) 0 dX13_image_47 rfl rfl ?_
      replace hF := eg_bind hF; obtain ⟨p2, e3, hF⟩ := hF
      refine eg_getR dX13_image_48 e3 (Nat.le_of_ble_eq_true rfl) (Nat.le_of_ble_eq_true rfl) rfl ew_1508 ?_
      refine eg_iload_n (i := 1) 1 dX13_image_51 rfl rfl ?_
      refine eg_aload_n (i := 0) 0 dX13_image_52 rfl rfl ?_
      replace hF := eg_bind hF; obtain ⟨p4, e5, hF⟩ := hF
      refine eg_getR dX13_image_53 e5 (Nat.le_of_ble_eq_true rfl) (Nat.le_of_ble_eq_true rfl) rfl ew_1503 ?_
      refine eg_iload_n (i := 1) 1 dX13_image_56 rfl rfl ?_
      replace hF := eg_bind hF; obtain ⟨v6, e7, hF⟩ := hF
      refine eg_iald dX13_image_57 e7 ?_
      replace hF := eg_bind hF; obtain ⟨h8, e9, hF⟩ := hF
      refine eg_iast dX13_image_58 e9 ?_
      refine eg_aload_n (i := 0) 0 dX13_image_59 rfl rfl ?_
      replace hF := eg_bind hF; obtain ⟨p10, e11, hF⟩ := hF
      refine eg_getR dX13_image_60 e11 (Nat.le_of_ble_eq_true rfl) (Nat.le_of_ble_eq_true rfl) rfl ew_1509 ?_
      refine eg_iload_n (i := 1) 1 dX13_image_63 rfl rfl ?_
      refine eg_aload_n (i := 0) 0 dX13_image_64 rfl rfl ?_
      replace hF := eg_bind hF; obtain ⟨p12, e13, hF⟩ := hF
      refine eg_getR dX13_image_65 e13 (Nat.le_of_ble_eq_true rfl) (Nat.le_of_ble_eq_true rfl) rfl ew_1504 ?_
      refine eg_iload_n (i := 1) 1 dX13_image_68 rfl rfl ?_
      replace hF := eg_bind hF; obtain ⟨v14, e15, hF⟩ := hF
      refine eg_iald dX13_image_69 e15 ?_
      replace hF := eg_bind hF; obtain ⟨h16, e17, hF⟩ := hF
      refine eg_iast dX13_image_70 e17 ?_
      refine eg_aload_n (i := 0) 0 dX13_image_71 rfl rfl ?_
      replace hF := eg_bind hF; obtain ⟨p18, e19, hF⟩ := hF
      refine eg_getR dX13_image_72 e19 (Nat.le_of_ble_eq_true rfl) (Nat.le_of_ble_eq_true rfl) rfl ew_1510 ?_
      refine eg_iload_n (i := 1) 1 dX13_image_75 rfl rfl ?_
      refine eg_aload_n (i := 0) 0 dX13_image_76 rfl rfl ?_
      replace hF := eg_bind hF; obtain ⟨p20, e21, hF⟩ := hF
      refine eg_getR dX13_image_77 e21 (Nat.le_of_ble_eq_true rfl) (Nat.le_of_ble_eq_true rfl) rfl ew_1505 ?_
      refine eg_iload_n (i := 1) 1 dX13_image_80 rfl rfl ?_
      replace hF := eg_bind hF; obtain ⟨v22, e23, hF⟩ := hF
      refine eg_iald dX13_image_81 e23 ?_
      replace hF := eg_bind hF; obtain ⟨h24, e25, hF⟩ := hF
      refine eg_iast dX13_image_82 e25 ?_
      refine eg_iinc (i := 1) (v := (l1 + (1 : Int32))) 1 [(1, .int (l1 + (1 : Int32))), (0, .ref l0)] dX13_image_83 rfl rfl (Nat.le_of_ble_eq_true rfl) rfl ?_
      refine eg_goto 41 dX13_image_86 rfl ?_
      exact eg_sub [1, 0] [(0, .ref l0), (1, .int (l1 + (1 : Int32)))] rfl (hrec h24 l0 (l1 + (1 : Int32)) hF)
def fX13_image (h : eg_H) (l0 : Nat) : Option (Int32 × eg_H) :=
  if eg_isO h 13 l0 then (
    (eg_pI h 13 0 l0 (0 : Int32)).bind fun h1 =>
    (eg_gI h1 13 24 l0).bind fun v3 =>
    if v3 = 0 then
      (some ((-1 : Int32), h1))
    else
      (fX13_image_L16 eg_F h1 l0 (0 : Int32)).bind fun e =>
      match e with
      | (p8, h9) =>
        (fX13_image_L41 eg_F h9 p8 (0 : Int32)).bind fun e =>
        match e with
        | (p12, h13) =>
          (eg_gI h13 13 72 p12).bind fun v14 =>
          (eg_pI h13 13 77 p12 v14).bind fun h16 =>
          (eg_pZ h16 13 78 p12 (1 : Int32)).bind fun h18 =>
          (eg_gI h18 13 72 p12).bind fun v20 =>
          some (v20, h18)) else none
theorem fX13_image_O {h : eg_H} {l0 : Nat} {rE : Int32} {hE : eg_H} (hF : fX13_image h l0 = some (rE, hE)) : eg_isO h 13 l0 := (eg_ifn hF).1
set_option maxRecDepth 20000 in
theorem mX13_image {h : eg_H} {l0 : Nat} {rE : Int32} {hE : eg_H} (hF : fX13_image h l0 = some (rE, hE)) : eg_Met yX13_image cX13_image 2 (some .int) 1 [.ref l0] h (some (.int rE)) hE := by
  refine eg_enter rfl (Nat.le_of_ble_eq_true rfl) ?_
  show eg_AW (RX13, cX13_image, 2, 1, none, "image", (some .int)) (eg_Zm (some (.int rE)) hE h) (eg_nc hE) (eg_ns hE) h 0 [(0, .ref l0)] [] h
  replace hF := (eg_ifn hF).2
  refine eg_aload_n (i := 0) 0 dX13_image_0 rfl rfl ?_
  refine eg_iconst (v := (0 : Int32)) dX13_image_1 (by decide) ?_
  replace hF := eg_bind hF; obtain ⟨h1, e2, hF⟩ := hF
  refine eg_putI dX13_image_2 e2 (Nat.le_of_ble_eq_true rfl) (Nat.le_of_ble_eq_true rfl) rfl ew_1434 (Or.inl rfl) ?_
  refine eg_aload_n (i := 0) 0 dX13_image_5 rfl rfl ?_
  replace hF := eg_bind hF; obtain ⟨v3, e4, hF⟩ := hF
  refine eg_getI dX13_image_6 e4 (Nat.le_of_ble_eq_true rfl) (Nat.le_of_ble_eq_true rfl) rfl ew_1458 ?_
  refine eg_if_ne 14 dX13_image_9 rfl (fun c5 => ?_) (fun c5 => ?_)
  · replace hF := eg_it c5 hF
    refine eg_iconst (v := (-1 : Int32)) dX13_image_12 (by decide) ?_
    exact eg_iretE dX13_image_13 hF
  · replace hF := eg_if c5 hF
    refine eg_iconst (v := (0 : Int32)) dX13_image_14 (by decide) ?_
    refine eg_istore_n (i := 1) [(1, .int (0 : Int32)), (0, .ref l0)] dX13_image_15 rfl (Nat.le_of_ble_eq_true rfl) rfl ?_
    replace hF := eg_bind hF; obtain ⟨x7, e6, hF⟩ := hF
    refine eg_sub [1, 0] [(0, .ref l0), (1, .int (0 : Int32))] rfl (fX13_image_L16_ok eg_F h1 l0 (0 : Int32) x7 e6 ?_)
    · intro p8 h9 e23
      subst e23
      refine eg_iconst (v := (0 : Int32)) dX13_image_39 (by decide) ?_
      refine eg_istore_n (i := 1) [(1, .int (0 : Int32)), (0, .ref p8)] dX13_image_40 rfl (Nat.le_of_ble_eq_true rfl) rfl ?_
      replace hF := eg_bind hF; obtain ⟨x11, e10, hF⟩ := hF
      refine eg_sub [1, 0] [(0, .ref p8), (1, .int (0 : Int32))] rfl (fX13_image_L41_ok eg_F h9 p8 (0 : Int32) x11 e10 ?_)
      · intro p12 h13 e22
        subst e22
        refine eg_aload_n (i := 0) 0 dX13_image_89 rfl rfl ?_
        refine eg_aload_n (i := 0) 0 dX13_image_90 rfl rfl ?_
        replace hF := eg_bind hF; obtain ⟨v14, e15, hF⟩ := hF
        refine eg_getI dX13_image_91 e15 (Nat.le_of_ble_eq_true rfl) (Nat.le_of_ble_eq_true rfl) rfl ew_1506 ?_
        replace hF := eg_bind hF; obtain ⟨h16, e17, hF⟩ := hF
        refine eg_putI dX13_image_94 e17 (Nat.le_of_ble_eq_true rfl) (Nat.le_of_ble_eq_true rfl) rfl ew_1511 (Or.inl rfl) ?_
        refine eg_aload_n (i := 0) 0 dX13_image_97 rfl rfl ?_
        refine eg_iconst (v := (1 : Int32)) dX13_image_98 (by decide) ?_
        replace hF := eg_bind hF; obtain ⟨h18, e19, hF⟩ := hF
        refine eg_putZ dX13_image_99 e19 (Nat.le_of_ble_eq_true rfl) (Nat.le_of_ble_eq_true rfl) rfl ew_1512 rfl ?_
        refine eg_aload_n (i := 0) 0 dX13_image_102 rfl rfl ?_
        replace hF := eg_bind hF; obtain ⟨v20, e21, hF⟩ := hF
        refine eg_getI dX13_image_103 e21 (Nat.le_of_ble_eq_true rfl) (Nat.le_of_ble_eq_true rfl) rfl ew_1506 ?_
        exact eg_iretE dX13_image_106 hF
theorem dX13_back_0 : decode cX13_back 0 = .ok (.aload_n 0, 1) := by decide +kernel
theorem dX13_back_1 : decode cX13_back 1 = .ok (.iconst 0, 1) := by decide +kernel
theorem dX13_back_2 : decode cX13_back 2 = .ok (.putfield 148, 3) := by decide +kernel
theorem dX13_back_5 : decode cX13_back 5 = .ok (.aload_n 0, 1) := by decide +kernel
theorem dX13_back_6 : decode cX13_back 6 = .ok (.getfield 350, 3) := by decide +kernel
theorem dX13_back_9 : decode cX13_back 9 = .ok (.ifCond .ne 5, 3) := by decide +kernel
theorem dX13_back_12 : decode cX13_back 12 = .ok (.iconst (-1), 1) := by decide +kernel
theorem dX13_back_13 : decode cX13_back 13 = .ok (.ireturn, 1) := by decide +kernel
theorem dX13_back_14 : decode cX13_back 14 = .ok (.iconst 0, 1) := by decide +kernel
theorem dX13_back_15 : decode cX13_back 15 = .ok (.istore_n 1, 1) := by decide +kernel
theorem dX13_back_16 : decode cX13_back 16 = .ok (.iload_n 1, 1) := by decide +kernel
theorem dX13_back_17 : decode cX13_back 17 = .ok (.iconst 4, 1) := by decide +kernel
theorem dX13_back_18 : decode cX13_back 18 = .ok (.if_icmp .ge 21, 3) := by decide +kernel
theorem dX13_back_21 : decode cX13_back 21 = .ok (.aload_n 0, 1) := by decide +kernel
theorem dX13_back_22 : decode cX13_back 22 = .ok (.getfield 37, 3) := by decide +kernel
theorem dX13_back_25 : decode cX13_back 25 = .ok (.iload_n 1, 1) := by decide +kernel
theorem dX13_back_26 : decode cX13_back 26 = .ok (.aload_n 0, 1) := by decide +kernel
theorem dX13_back_27 : decode cX13_back 27 = .ok (.getfield 136, 3) := by decide +kernel
theorem dX13_back_30 : decode cX13_back 30 = .ok (.iload_n 1, 1) := by decide +kernel
theorem dX13_back_31 : decode cX13_back 31 = .ok (.iaload, 1) := by decide +kernel
theorem dX13_back_32 : decode cX13_back 32 = .ok (.iastore, 1) := by decide +kernel
theorem dX13_back_33 : decode cX13_back 33 = .ok (.iinc 1 1, 3) := by decide +kernel
theorem dX13_back_36 : decode cX13_back 36 = .ok (.goto (-20), 3) := by decide +kernel
theorem dX13_back_39 : decode cX13_back 39 = .ok (.iconst 0, 1) := by decide +kernel
theorem dX13_back_40 : decode cX13_back 40 = .ok (.istore_n 1, 1) := by decide +kernel
theorem dX13_back_41 : decode cX13_back 41 = .ok (.iload_n 1, 1) := by decide +kernel
theorem dX13_back_42 : decode cX13_back 42 = .ok (.bipush 40, 2) := by decide +kernel
theorem dX13_back_44 : decode cX13_back 44 = .ok (.if_icmp .ge 45, 3) := by decide +kernel
theorem dX13_back_47 : decode cX13_back 47 = .ok (.aload_n 0, 1) := by decide +kernel
theorem dX13_back_48 : decode cX13_back 48 = .ok (.getfield 127, 3) := by decide +kernel
theorem dX13_back_51 : decode cX13_back 51 = .ok (.iload_n 1, 1) := by decide +kernel
theorem dX13_back_52 : decode cX13_back 52 = .ok (.aload_n 0, 1) := by decide +kernel
theorem dX13_back_53 : decode cX13_back 53 = .ok (.getfield 139, 3) := by decide +kernel
theorem dX13_back_56 : decode cX13_back 56 = .ok (.iload_n 1, 1) := by decide +kernel
theorem dX13_back_57 : decode cX13_back 57 = .ok (.iaload, 1) := by decide +kernel
theorem dX13_back_58 : decode cX13_back 58 = .ok (.iastore, 1) := by decide +kernel
theorem dX13_back_59 : decode cX13_back 59 = .ok (.aload_n 0, 1) := by decide +kernel
theorem dX13_back_60 : decode cX13_back 60 = .ok (.getfield 130, 3) := by decide +kernel
theorem dX13_back_63 : decode cX13_back 63 = .ok (.iload_n 1, 1) := by decide +kernel
theorem dX13_back_64 : decode cX13_back 64 = .ok (.aload_n 0, 1) := by decide +kernel
theorem dX13_back_65 : decode cX13_back 65 = .ok (.getfield 142, 3) := by decide +kernel
theorem dX13_back_68 : decode cX13_back 68 = .ok (.iload_n 1, 1) := by decide +kernel
theorem dX13_back_69 : decode cX13_back 69 = .ok (.iaload, 1) := by decide +kernel
theorem dX13_back_70 : decode cX13_back 70 = .ok (.iastore, 1) := by decide +kernel
theorem dX13_back_71 : decode cX13_back 71 = .ok (.aload_n 0, 1) := by decide +kernel
theorem dX13_back_72 : decode cX13_back 72 = .ok (.getfield 133, 3) := by decide +kernel
theorem dX13_back_75 : decode cX13_back 75 = .ok (.iload_n 1, 1) := by decide +kernel
theorem dX13_back_76 : decode cX13_back 76 = .ok (.aload_n 0, 1) := by decide +kernel
theorem dX13_back_77 : decode cX13_back 77 = .ok (.getfield 145, 3) := by decide +kernel
theorem dX13_back_80 : decode cX13_back 80 = .ok (.iload_n 1, 1) := by decide +kernel
theorem dX13_back_81 : decode cX13_back 81 = .ok (.iaload, 1) := by decide +kernel
theorem dX13_back_82 : decode cX13_back 82 = .ok (.iastore, 1) := by decide +kernel
theorem dX13_back_83 : decode cX13_back 83 = .ok (.iinc 1 1, 3) := by decide +kernel
theorem dX13_back_86 : decode cX13_back 86 = .ok (.goto (-45), 3) := by decide +kernel
theorem dX13_back_89 : decode cX13_back 89 = .ok (.aload_n 0, 1) := by decide +kernel
theorem dX13_back_90 : decode cX13_back 90 = .ok (.aload_n 0, 1) := by decide +kernel
theorem dX13_back_91 : decode cX13_back 91 = .ok (.getfield 537, 3) := by decide +kernel
theorem dX13_back_94 : decode cX13_back 94 = .ok (.putfield 347, 3) := by decide +kernel
theorem dX13_back_97 : decode cX13_back 97 = .ok (.aload_n 0, 1) := by decide +kernel
theorem dX13_back_98 : decode cX13_back 98 = .ok (.getfield 347, 3) := by decide +kernel
theorem dX13_back_101 : decode cX13_back 101 = .ok (.ireturn, 1) := by decide +kernel
def fX13_back_L16 : Nat → eg_H → Nat → Int32 → Option (Nat × eg_H)
  | 0, _, _, _ => none
  | n + 1, h, l0, l1 =>
    if (4 : Int32) ≤ l1 then
      (some (l0, h))
    else
      (eg_gR h 13 18 l0).bind fun p2 =>
      (eg_gR h 13 73 l0).bind fun p4 =>
      (eg_aI h 100 p4 l1).bind fun v6 =>
      (eg_wI h 100 p2 l1 v6).bind fun h8 =>
      fX13_back_L16 n h8 l0 (l1 + (1 : Int32))
set_option maxRecDepth 20000 in
theorem fX13_back_L16_ok {h0 : eg_H} {Z : eg_C → State → Prop} {N S : Nat} : ∀ (n : Nat) (h : eg_H) (l0 : Nat) (l1 : Int32) (eE : Nat × eg_H), fX13_back_L16 n h l0 l1 = some eE → (hk0 : ∀ (l0 : Nat) (h : eg_H), eE = (l0, h) → eg_AW (RX13, cX13_back, 2, 1, none, "back", (some .int)) Z N S h0 39 [(0, .ref l0)] [] h) → eg_AW (RX13, cX13_back, 2, 1, none, "back", (some .int)) Z N S h0 16 [(0, .ref l0), (1, .int l1)] [] h := by
  intro n
  induction n with
  | zero => intro h l0 l1 eE hF; exact absurd hF (by intro q; cases q)
  | succ n ih =>
    intro h l0 l1 eE hF hk0
    have hrec := fun (h' : eg_H) (l0 : Nat) (l1 : Int32) hq => ih h' l0 l1 eE hq hk0
    refine eg_iload_n (i := 1) 1 dX13_back_16 rfl rfl ?_
    refine eg_iconst (v := (4 : Int32)) dX13_back_17 (by decide) ?_
    refine eg_ic_ge 39 dX13_back_18 rfl (fun c1 => ?_) (fun c1 => ?_)
    · replace hF := eg_it c1 hF
      exact eg_sub [0] [(0, .ref l0)] rfl (hk0 l0 h (Option.some.inj hF).symm)
    · replace hF := eg_if c1 hF
      refine eg_aload_n (i := 0) 0 dX13_back_21 rfl rfl ?_
      replace hF := eg_bind hF; obtain ⟨p2, e3, hF⟩ := hF
      refine eg_getR dX13_back_22 e3 (Nat.le_of_ble_eq_true rfl) (Nat.le_of_ble_eq_true rfl) rfl ew_1452 ?_
      refine eg_iload_n (i := 1) 1 dX13_back_25 rfl rfl ?_
      refine eg_aload_n (i := 0) 0 dX13_back_26 rfl rfl ?_
      replace hF := eg_bind hF; obtain ⟨p4, e5, hF⟩ := hF
      refine eg_getR dX13_back_27 e5 (Nat.le_of_ble_eq_true rfl) (Nat.le_of_ble_eq_true rfl) rfl ew_1507 ?_
      refine eg_iload_n (i := 1) 1 dX13_back_30 rfl rfl ?_
      replace hF := eg_bind hF; obtain ⟨v6, e7, hF⟩ := hF
      refine eg_iald dX13_back_31 e7 ?_
      replace hF := eg_bind hF; obtain ⟨h8, e9, hF⟩ := hF
      refine eg_iast dX13_back_32 e9 ?_
      refine eg_iinc (i := 1) (v := (l1 + (1 : Int32))) 1 [(1, .int (l1 + (1 : Int32))), (0, .ref l0)] dX13_back_33 rfl rfl (Nat.le_of_ble_eq_true rfl) rfl ?_
      refine eg_goto 16 dX13_back_36 rfl ?_
      exact eg_sub [1, 0] [(0, .ref l0), (1, .int (l1 + (1 : Int32)))] rfl (hrec h8 l0 (l1 + (1 : Int32)) hF)
def fX13_back_L41 : Nat → eg_H → Nat → Int32 → Option (Nat × eg_H)
  | 0, _, _, _ => none
  | n + 1, h, l0, l1 =>
    if (40 : Int32) ≤ l1 then
      (some (l0, h))
    else
      (eg_gR h 13 69 l0).bind fun p2 =>
      (eg_gR h 13 74 l0).bind fun p4 =>
      (eg_aI h 100 p4 l1).bind fun v6 =>
      (eg_wI h 100 p2 l1 v6).bind fun h8 =>
      (eg_gR h8 13 70 l0).bind fun p10 =>
      (eg_gR h8 13 75 l0).bind fun p12 =>
      (eg_aI h8 100 p12 l1).bind fun v14 =>
      (eg_wI h8 100 p10 l1 v14).bind fun h16 =>
      (eg_gR h16 13 71 l0).bind fun p18 =>
      (eg_gR h16 13 76 l0).bind fun p20 =>
      (eg_aI h16 100 p20 l1).bind fun v22 =>
      (eg_wI h16 100 p18 l1 v22).bind fun h24 =>
      fX13_back_L41 n h24 l0 (l1 + (1 : Int32))
set_option maxRecDepth 20000 in
theorem fX13_back_L41_ok {h0 : eg_H} {Z : eg_C → State → Prop} {N S : Nat} : ∀ (n : Nat) (h : eg_H) (l0 : Nat) (l1 : Int32) (eE : Nat × eg_H), fX13_back_L41 n h l0 l1 = some eE → (hk0 : ∀ (l0 : Nat) (h : eg_H), eE = (l0, h) → eg_AW (RX13, cX13_back, 2, 1, none, "back", (some .int)) Z N S h0 89 [(0, .ref l0)] [] h) → eg_AW (RX13, cX13_back, 2, 1, none, "back", (some .int)) Z N S h0 41 [(0, .ref l0), (1, .int l1)] [] h := by
  intro n
  induction n with
  | zero => intro h l0 l1 eE hF; exact absurd hF (by intro q; cases q)
  | succ n ih =>
    intro h l0 l1 eE hF hk0
    have hrec := fun (h' : eg_H) (l0 : Nat) (l1 : Int32) hq => ih h' l0 l1 eE hq hk0
    refine eg_iload_n (i := 1) 1 dX13_back_41 rfl rfl ?_
    refine eg_bipush (v := (40 : Int32)) dX13_back_42 (by decide) ?_
    refine eg_ic_ge 89 dX13_back_44 rfl (fun c1 => ?_) (fun c1 => ?_)
    · replace hF := eg_it c1 hF
      exact eg_sub [0] [(0, .ref l0)] rfl (hk0 l0 h (Option.some.inj hF).symm)
    · replace hF := eg_if c1 hF
      refine eg_aload_n (i := 0) 0 dX13_back_47 rfl rfl ?_
      replace hF := eg_bind hF; obtain ⟨p2, e3, hF⟩ := hF
      refine eg_getR dX13_back_48 e3 (Nat.le_of_ble_eq_true rfl) (Nat.le_of_ble_eq_true rfl) rfl ew_1503 ?_
      refine eg_iload_n (i := 1) 1 dX13_back_51 rfl rfl ?_
      refine eg_aload_n (i := 0) 0 dX13_back_52 rfl rfl ?_
      replace hF := eg_bind hF; obtain ⟨p4, e5, hF⟩ := hF
      refine eg_getR dX13_back_53 e5 (Nat.le_of_ble_eq_true rfl) (Nat.le_of_ble_eq_true rfl) rfl ew_1508 ?_
      refine eg_iload_n (i := 1) 1 dX13_back_56 rfl rfl ?_
      replace hF := eg_bind hF; obtain ⟨v6, e7, hF⟩ := hF
      refine eg_iald dX13_back_57 e7 ?_
      replace hF := eg_bind hF; obtain ⟨h8, e9, hF⟩ := hF
      refine eg_iast dX13_back_58 e9 ?_
      refine eg_aload_n (i := 0) 0 dX13_back_59 rfl rfl ?_
      replace hF := eg_bind hF; obtain ⟨p10, e11, hF⟩ := hF
      refine eg_getR dX13_back_60 e11 (Nat.le_of_ble_eq_true rfl) (Nat.le_of_ble_eq_true rfl) rfl ew_1504 ?_
      refine eg_iload_n (i := 1) 1 dX13_back_63 rfl rfl ?_
      refine eg_aload_n (i := 0) 0 dX13_back_64 rfl rfl ?_
      replace hF := eg_bind hF; obtain ⟨p12, e13, hF⟩ := hF
      refine eg_getR dX13_back_65 e13 (Nat.le_of_ble_eq_true rfl) (Nat.le_of_ble_eq_true rfl) rfl ew_1509 ?_
      refine eg_iload_n (i := 1) 1 dX13_back_68 rfl rfl ?_
      replace hF := eg_bind hF; obtain ⟨v14, e15, hF⟩ := hF
      refine eg_iald dX13_back_69 e15 ?_
      replace hF := eg_bind hF; obtain ⟨h16, e17, hF⟩ := hF
      refine eg_iast dX13_back_70 e17 ?_
      refine eg_aload_n (i := 0) 0 dX13_back_71 rfl rfl ?_
      replace hF := eg_bind hF; obtain ⟨p18, e19, hF⟩ := hF
      refine eg_getR dX13_back_72 e19 (Nat.le_of_ble_eq_true rfl) (Nat.le_of_ble_eq_true rfl) rfl ew_1505 ?_
      refine eg_iload_n (i := 1) 1 dX13_back_75 rfl rfl ?_
      refine eg_aload_n (i := 0) 0 dX13_back_76 rfl rfl ?_
      replace hF := eg_bind hF; obtain ⟨p20, e21, hF⟩ := hF
      refine eg_getR dX13_back_77 e21 (Nat.le_of_ble_eq_true rfl) (Nat.le_of_ble_eq_true rfl) rfl ew_1510 ?_
      refine eg_iload_n (i := 1) 1 dX13_back_80 rfl rfl ?_
      replace hF := eg_bind hF; obtain ⟨v22, e23, hF⟩ := hF
      refine eg_iald dX13_back_81 e23 ?_
      replace hF := eg_bind hF; obtain ⟨h24, e25, hF⟩ := hF
      refine eg_iast dX13_back_82 e25 ?_
      refine eg_iinc (i := 1) (v := (l1 + (1 : Int32))) 1 [(1, .int (l1 + (1 : Int32))), (0, .ref l0)] dX13_back_83 rfl rfl (Nat.le_of_ble_eq_true rfl) rfl ?_
      refine eg_goto 41 dX13_back_86 rfl ?_
      exact eg_sub [1, 0] [(0, .ref l0), (1, .int (l1 + (1 : Int32)))] rfl (hrec h24 l0 (l1 + (1 : Int32)) hF)
def fX13_back (h : eg_H) (l0 : Nat) : Option (Int32 × eg_H) :=
  if eg_isO h 13 l0 then (
    (eg_pI h 13 0 l0 (0 : Int32)).bind fun h1 =>
    (eg_gI h1 13 78 l0).bind fun v3 =>
    if v3 = 0 then
      (some ((-1 : Int32), h1))
    else
      (fX13_back_L16 eg_F h1 l0 (0 : Int32)).bind fun e =>
      match e with
      | (p8, h9) =>
        (fX13_back_L41 eg_F h9 p8 (0 : Int32)).bind fun e =>
        match e with
        | (p12, h13) =>
          (eg_gI h13 13 77 p12).bind fun v14 =>
          (eg_pI h13 13 72 p12 v14).bind fun h16 =>
          (eg_gI h16 13 72 p12).bind fun v18 =>
          some (v18, h16)) else none
theorem fX13_back_O {h : eg_H} {l0 : Nat} {rE : Int32} {hE : eg_H} (hF : fX13_back h l0 = some (rE, hE)) : eg_isO h 13 l0 := (eg_ifn hF).1
set_option maxRecDepth 20000 in
theorem mX13_back {h : eg_H} {l0 : Nat} {rE : Int32} {hE : eg_H} (hF : fX13_back h l0 = some (rE, hE)) : eg_Met yX13_back cX13_back 2 (some .int) 1 [.ref l0] h (some (.int rE)) hE := by
  refine eg_enter rfl (Nat.le_of_ble_eq_true rfl) ?_
  show eg_AW (RX13, cX13_back, 2, 1, none, "back", (some .int)) (eg_Zm (some (.int rE)) hE h) (eg_nc hE) (eg_ns hE) h 0 [(0, .ref l0)] [] h
  replace hF := (eg_ifn hF).2
  refine eg_aload_n (i := 0) 0 dX13_back_0 rfl rfl ?_
  refine eg_iconst (v := (0 : Int32)) dX13_back_1 (by decide) ?_
  replace hF := eg_bind hF; obtain ⟨h1, e2, hF⟩ := hF
  refine eg_putI dX13_back_2 e2 (Nat.le_of_ble_eq_true rfl) (Nat.le_of_ble_eq_true rfl) rfl ew_1434 (Or.inl rfl) ?_
  refine eg_aload_n (i := 0) 0 dX13_back_5 rfl rfl ?_
  replace hF := eg_bind hF; obtain ⟨v3, e4, hF⟩ := hF
  refine eg_getI dX13_back_6 e4 (Nat.le_of_ble_eq_true rfl) (Nat.le_of_ble_eq_true rfl) rfl ew_1512 ?_
  refine eg_if_ne 14 dX13_back_9 rfl (fun c5 => ?_) (fun c5 => ?_)
  · replace hF := eg_it c5 hF
    refine eg_iconst (v := (-1 : Int32)) dX13_back_12 (by decide) ?_
    exact eg_iretE dX13_back_13 hF
  · replace hF := eg_if c5 hF
    refine eg_iconst (v := (0 : Int32)) dX13_back_14 (by decide) ?_
    refine eg_istore_n (i := 1) [(1, .int (0 : Int32)), (0, .ref l0)] dX13_back_15 rfl (Nat.le_of_ble_eq_true rfl) rfl ?_
    replace hF := eg_bind hF; obtain ⟨x7, e6, hF⟩ := hF
    refine eg_sub [1, 0] [(0, .ref l0), (1, .int (0 : Int32))] rfl (fX13_back_L16_ok eg_F h1 l0 (0 : Int32) x7 e6 ?_)
    · intro p8 h9 e21
      subst e21
      refine eg_iconst (v := (0 : Int32)) dX13_back_39 (by decide) ?_
      refine eg_istore_n (i := 1) [(1, .int (0 : Int32)), (0, .ref p8)] dX13_back_40 rfl (Nat.le_of_ble_eq_true rfl) rfl ?_
      replace hF := eg_bind hF; obtain ⟨x11, e10, hF⟩ := hF
      refine eg_sub [1, 0] [(0, .ref p8), (1, .int (0 : Int32))] rfl (fX13_back_L41_ok eg_F h9 p8 (0 : Int32) x11 e10 ?_)
      · intro p12 h13 e20
        subst e20
        refine eg_aload_n (i := 0) 0 dX13_back_89 rfl rfl ?_
        refine eg_aload_n (i := 0) 0 dX13_back_90 rfl rfl ?_
        replace hF := eg_bind hF; obtain ⟨v14, e15, hF⟩ := hF
        refine eg_getI dX13_back_91 e15 (Nat.le_of_ble_eq_true rfl) (Nat.le_of_ble_eq_true rfl) rfl ew_1511 ?_
        replace hF := eg_bind hF; obtain ⟨h16, e17, hF⟩ := hF
        refine eg_putI dX13_back_94 e17 (Nat.le_of_ble_eq_true rfl) (Nat.le_of_ble_eq_true rfl) rfl ew_1506 (Or.inl rfl) ?_
        refine eg_aload_n (i := 0) 0 dX13_back_97 rfl rfl ?_
        replace hF := eg_bind hF; obtain ⟨v18, e19, hF⟩ := hF
        refine eg_getI dX13_back_98 e19 (Nat.le_of_ble_eq_true rfl) (Nat.le_of_ble_eq_true rfl) rfl ew_1506 ?_
        exact eg_iretE dX13_back_101 hF
theorem dX13_count_0 : decode cX13_count 0 = .ok (.aload_n 0, 1) := by decide +kernel
theorem dX13_count_1 : decode cX13_count 1 = .ok (.iconst 0, 1) := by decide +kernel
theorem dX13_count_2 : decode cX13_count 2 = .ok (.putfield 148, 3) := by decide +kernel
theorem dX13_count_5 : decode cX13_count 5 = .ok (.iload_n 1, 1) := by decide +kernel
theorem dX13_count_6 : decode cX13_count 6 = .ok (.tableswitch 131 0 12 #[66, 71, 76, 81, 86, 86, 86, 86, 106, 111, 116, 121, 126], 66) := by decide +kernel
theorem dX13_count_72 : decode cX13_count 72 = .ok (.aload_n 0, 1) := by decide +kernel
theorem dX13_count_73 : decode cX13_count 73 = .ok (.getfield 335, 3) := by decide +kernel
theorem dX13_count_76 : decode cX13_count 76 = .ok (.ireturn, 1) := by decide +kernel
theorem dX13_count_77 : decode cX13_count 77 = .ok (.aload_n 0, 1) := by decide +kernel
theorem dX13_count_78 : decode cX13_count 78 = .ok (.getfield 338, 3) := by decide +kernel
theorem dX13_count_81 : decode cX13_count 81 = .ok (.ireturn, 1) := by decide +kernel
theorem dX13_count_82 : decode cX13_count 82 = .ok (.aload_n 0, 1) := by decide +kernel
theorem dX13_count_83 : decode cX13_count 83 = .ok (.getfield 327, 3) := by decide +kernel
theorem dX13_count_86 : decode cX13_count 86 = .ok (.ireturn, 1) := by decide +kernel
theorem dX13_count_87 : decode cX13_count 87 = .ok (.aload_n 0, 1) := by decide +kernel
theorem dX13_count_88 : decode cX13_count 88 = .ok (.getfield 161, 3) := by decide +kernel
theorem dX13_count_91 : decode cX13_count 91 = .ok (.ireturn, 1) := by decide +kernel
theorem dX13_count_92 : decode cX13_count 92 = .ok (.aload_n 0, 1) := by decide +kernel
theorem dX13_count_93 : decode cX13_count 93 = .ok (.getfield 335, 3) := by decide +kernel
theorem dX13_count_96 : decode cX13_count 96 = .ok (.ifCond .ne 7, 3) := by decide +kernel
theorem dX13_count_99 : decode cX13_count 99 = .ok (.iconst 0, 1) := by decide +kernel
theorem dX13_count_100 : decode cX13_count 100 = .ok (.goto 11, 3) := by decide +kernel
theorem dX13_count_103 : decode cX13_count 103 = .ok (.aload_n 0, 1) := by decide +kernel
theorem dX13_count_104 : decode cX13_count 104 = .ok (.getfield 37, 3) := by decide +kernel
theorem dX13_count_107 : decode cX13_count 107 = .ok (.iload_n 1, 1) := by decide +kernel
theorem dX13_count_108 : decode cX13_count 108 = .ok (.iconst 4, 1) := by decide +kernel
theorem dX13_count_109 : decode cX13_count 109 = .ok (.isub, 1) := by decide +kernel
theorem dX13_count_110 : decode cX13_count 110 = .ok (.iaload, 1) := by decide +kernel
theorem dX13_count_111 : decode cX13_count 111 = .ok (.ireturn, 1) := by decide +kernel
theorem dX13_count_112 : decode cX13_count 112 = .ok (.aload_n 0, 1) := by decide +kernel
theorem dX13_count_113 : decode cX13_count 113 = .ok (.getfield 64, 3) := by decide +kernel
theorem dX13_count_116 : decode cX13_count 116 = .ok (.ireturn, 1) := by decide +kernel
theorem dX13_count_117 : decode cX13_count 117 = .ok (.aload_n 0, 1) := by decide +kernel
theorem dX13_count_118 : decode cX13_count 118 = .ok (.getfield 341, 3) := by decide +kernel
theorem dX13_count_121 : decode cX13_count 121 = .ok (.ireturn, 1) := by decide +kernel
theorem dX13_count_122 : decode cX13_count 122 = .ok (.aload_n 0, 1) := by decide +kernel
theorem dX13_count_123 : decode cX13_count 123 = .ok (.getfield 347, 3) := by decide +kernel
theorem dX13_count_126 : decode cX13_count 126 = .ok (.ireturn, 1) := by decide +kernel
theorem dX13_count_127 : decode cX13_count 127 = .ok (.aload_n 0, 1) := by decide +kernel
theorem dX13_count_128 : decode cX13_count 128 = .ok (.getfield 330, 3) := by decide +kernel
theorem dX13_count_131 : decode cX13_count 131 = .ok (.ireturn, 1) := by decide +kernel
theorem dX13_count_132 : decode cX13_count 132 = .ok (.aload_n 0, 1) := by decide +kernel
theorem dX13_count_133 : decode cX13_count 133 = .ok (.getfield 344, 3) := by decide +kernel
theorem dX13_count_136 : decode cX13_count 136 = .ok (.ireturn, 1) := by decide +kernel
theorem dX13_count_137 : decode cX13_count 137 = .ok (.ldc_w 368, 3) := by decide +kernel
theorem dX13_count_140 : decode cX13_count 140 = .ok (.ireturn, 1) := by decide +kernel
def fX13_count_j92 (h : eg_H) (l0 : Nat) (l1 : Int32) : Option (Int32 × eg_H) :=
  (eg_gI h 13 24 l0).bind fun v1 =>
  if v1 = 0 then
    (some ((0 : Int32), h))
  else
    (eg_gR h 13 18 l0).bind fun p4 =>
    (eg_aI h 100 p4 (l1 - (4 : Int32))).bind fun v6 =>
    some (v6, h)
set_option maxRecDepth 20000 in
theorem fX13_count_j92_ok {h0 : eg_H} (h : eg_H) (l0 : Nat) (l1 : Int32) {rE : Int32} {hE : eg_H} (hF : fX13_count_j92 h l0 l1 = some (rE, hE)) : eg_AW (RX13, cX13_count, 2, 1, none, "count", (some .int)) (eg_Zm (some (.int rE)) hE h0) (eg_nc hE) (eg_ns hE) h0 92 [(0, .ref l0), (1, .int l1)] [] h := by
  refine eg_aload_n (i := 0) 0 dX13_count_92 rfl rfl ?_
  replace hF := eg_bind hF; obtain ⟨v1, e2, hF⟩ := hF
  refine eg_getI dX13_count_93 e2 (Nat.le_of_ble_eq_true rfl) (Nat.le_of_ble_eq_true rfl) rfl ew_1458 ?_
  refine eg_if_ne 103 dX13_count_96 rfl (fun c3 => ?_) (fun c3 => ?_)
  · replace hF := eg_it c3 hF
    refine eg_iconst (v := (0 : Int32)) dX13_count_99 (by decide) ?_
    refine eg_goto 111 dX13_count_100 rfl ?_
    exact eg_iretE dX13_count_111 hF
  · replace hF := eg_if c3 hF
    refine eg_aload_n (i := 0) 0 dX13_count_103 rfl rfl ?_
    replace hF := eg_bind hF; obtain ⟨p4, e5, hF⟩ := hF
    refine eg_getR dX13_count_104 e5 (Nat.le_of_ble_eq_true rfl) (Nat.le_of_ble_eq_true rfl) rfl ew_1452 ?_
    refine eg_iload_n (i := 1) 1 dX13_count_107 rfl rfl ?_
    refine eg_iconst (v := (4 : Int32)) dX13_count_108 (by decide) ?_
    refine eg_isub dX13_count_109 ?_
    replace hF := eg_bind hF; obtain ⟨v6, e7, hF⟩ := hF
    refine eg_iald dX13_count_110 e7 ?_
    exact eg_iretE dX13_count_111 hF
def fX13_count (h : eg_H) (l0 : Nat) (l1 : Int32) : Option (Int32 × eg_H) :=
  if eg_isO h 13 l0 then (
    (eg_pI h 13 0 l0 (0 : Int32)).bind fun h1 =>
    if l1 = (0 : Int32) then
      ((eg_gI h1 13 24 l0).bind fun v4 =>
      some (v4, h1))
    else
    if l1 = (1 : Int32) then
      ((eg_gI h1 13 26 l0).bind fun v7 =>
      some (v7, h1))
    else
    if l1 = (2 : Int32) then
      ((eg_gI h1 13 7 l0).bind fun v10 =>
      some (v10, h1))
    else
    if l1 = (3 : Int32) then
      ((eg_gI h1 13 6 l0).bind fun v13 =>
      some (v13, h1))
    else
    if l1 = (4 : Int32) then
      (fX13_count_j92 h1 l0 l1)
    else
    if l1 = (5 : Int32) then
      (fX13_count_j92 h1 l0 l1)
    else
    if l1 = (6 : Int32) then
      (fX13_count_j92 h1 l0 l1)
    else
    if l1 = (7 : Int32) then
      (fX13_count_j92 h1 l0 l1)
    else
    if l1 = (8 : Int32) then
      ((eg_gI h1 13 34 l0).bind fun v20 =>
      some (v20, h1))
    else
    if l1 = (9 : Int32) then
      ((eg_gI h1 13 49 l0).bind fun v23 =>
      some (v23, h1))
    else
    if l1 = (10 : Int32) then
      ((eg_gI h1 13 72 l0).bind fun v26 =>
      some (v26, h1))
    else
    if l1 = (11 : Int32) then
      ((eg_gI h1 13 32 l0).bind fun v29 =>
      some (v29, h1))
    else
    if l1 = (12 : Int32) then
      ((eg_gI h1 13 65 l0).bind fun v32 =>
      some (v32, h1))
    else
    some ((-1000000 : Int32), h1)) else none
theorem fX13_count_O {h : eg_H} {l0 : Nat} {l1 : Int32} {rE : Int32} {hE : eg_H} (hF : fX13_count h l0 l1 = some (rE, hE)) : eg_isO h 13 l0 := (eg_ifn hF).1
set_option maxRecDepth 20000 in
theorem mX13_count {h : eg_H} {l0 : Nat} {l1 : Int32} {rE : Int32} {hE : eg_H} (hF : fX13_count h l0 l1 = some (rE, hE)) : eg_Met yX13_count cX13_count 2 (some .int) 1 [.ref l0, .int l1] h (some (.int rE)) hE := by
  refine eg_enter rfl (Nat.le_of_ble_eq_true rfl) ?_
  show eg_AW (RX13, cX13_count, 2, 1, none, "count", (some .int)) (eg_Zm (some (.int rE)) hE h) (eg_nc hE) (eg_ns hE) h 0 [(0, .ref l0), (1, .int l1)] [] h
  replace hF := (eg_ifn hF).2
  refine eg_aload_n (i := 0) 0 dX13_count_0 rfl rfl ?_
  refine eg_iconst (v := (0 : Int32)) dX13_count_1 (by decide) ?_
  replace hF := eg_bind hF; obtain ⟨h1, e2, hF⟩ := hF
  refine eg_putI dX13_count_2 e2 (Nat.le_of_ble_eq_true rfl) (Nat.le_of_ble_eq_true rfl) rfl ew_1434 (Or.inl rfl) ?_
  refine eg_iload_n (i := 1) 1 dX13_count_5 rfl rfl ?_
  by_cases c3 : l1 = (0 : Int32)
  · replace hF := eg_it c3 hF
    refine eg_tIn 72 c3 dX13_count_6 (by decide) (by decide) rfl rfl ?_
    refine eg_aload_n (i := 0) 0 dX13_count_72 rfl rfl ?_
    replace hF := eg_bind hF; obtain ⟨v4, e5, hF⟩ := hF
    refine eg_getI dX13_count_73 e5 (Nat.le_of_ble_eq_true rfl) (Nat.le_of_ble_eq_true rfl) rfl ew_1458 ?_
    exact eg_iretE dX13_count_76 hF
  replace hF := eg_if c3 hF
  by_cases c6 : l1 = (1 : Int32)
  · replace hF := eg_it c6 hF
    refine eg_tIn 77 c6 dX13_count_6 (by decide) (by decide) rfl rfl ?_
    refine eg_aload_n (i := 0) 0 dX13_count_77 rfl rfl ?_
    replace hF := eg_bind hF; obtain ⟨v7, e8, hF⟩ := hF
    refine eg_getI dX13_count_78 e8 (Nat.le_of_ble_eq_true rfl) (Nat.le_of_ble_eq_true rfl) rfl ew_1460 ?_
    exact eg_iretE dX13_count_81 hF
  replace hF := eg_if c6 hF
  by_cases c9 : l1 = (2 : Int32)
  · replace hF := eg_it c9 hF
    refine eg_tIn 82 c9 dX13_count_6 (by decide) (by decide) rfl rfl ?_
    refine eg_aload_n (i := 0) 0 dX13_count_82 rfl rfl ?_
    replace hF := eg_bind hF; obtain ⟨v10, e11, hF⟩ := hF
    refine eg_getI dX13_count_83 e11 (Nat.le_of_ble_eq_true rfl) (Nat.le_of_ble_eq_true rfl) rfl ew_1441 ?_
    exact eg_iretE dX13_count_86 hF
  replace hF := eg_if c9 hF
  by_cases c12 : l1 = (3 : Int32)
  · replace hF := eg_it c12 hF
    refine eg_tIn 87 c12 dX13_count_6 (by decide) (by decide) rfl rfl ?_
    refine eg_aload_n (i := 0) 0 dX13_count_87 rfl rfl ?_
    replace hF := eg_bind hF; obtain ⟨v13, e14, hF⟩ := hF
    refine eg_getI dX13_count_88 e14 (Nat.le_of_ble_eq_true rfl) (Nat.le_of_ble_eq_true rfl) rfl ew_1440 ?_
    exact eg_iretE dX13_count_91 hF
  replace hF := eg_if c12 hF
  by_cases c15 : l1 = (4 : Int32)
  · replace hF := eg_it c15 hF
    refine eg_tIn 92 c15 dX13_count_6 (by decide) (by decide) rfl rfl ?_
    exact (fX13_count_j92_ok h1 l0 l1 hF)
  replace hF := eg_if c15 hF
  by_cases c16 : l1 = (5 : Int32)
  · replace hF := eg_it c16 hF
    refine eg_tIn 92 c16 dX13_count_6 (by decide) (by decide) rfl rfl ?_
    exact (fX13_count_j92_ok h1 l0 l1 hF)
  replace hF := eg_if c16 hF
  by_cases c17 : l1 = (6 : Int32)
  · replace hF := eg_it c17 hF
    refine eg_tIn 92 c17 dX13_count_6 (by decide) (by decide) rfl rfl ?_
    exact (fX13_count_j92_ok h1 l0 l1 hF)
  replace hF := eg_if c17 hF
  by_cases c18 : l1 = (7 : Int32)
  · replace hF := eg_it c18 hF
    refine eg_tIn 92 c18 dX13_count_6 (by decide) (by decide) rfl rfl ?_
    exact (fX13_count_j92_ok h1 l0 l1 hF)
  replace hF := eg_if c18 hF
  by_cases c19 : l1 = (8 : Int32)
  · replace hF := eg_it c19 hF
    refine eg_tIn 112 c19 dX13_count_6 (by decide) (by decide) rfl rfl ?_
    refine eg_aload_n (i := 0) 0 dX13_count_112 rfl rfl ?_
    replace hF := eg_bind hF; obtain ⟨v20, e21, hF⟩ := hF
    refine eg_getI dX13_count_113 e21 (Nat.le_of_ble_eq_true rfl) (Nat.le_of_ble_eq_true rfl) rfl ew_1468 ?_
    exact eg_iretE dX13_count_116 hF
  replace hF := eg_if c19 hF
  by_cases c22 : l1 = (9 : Int32)
  · replace hF := eg_it c22 hF
    refine eg_tIn 117 c22 dX13_count_6 (by decide) (by decide) rfl rfl ?_
    refine eg_aload_n (i := 0) 0 dX13_count_117 rfl rfl ?_
    replace hF := eg_bind hF; obtain ⟨v23, e24, hF⟩ := hF
    refine eg_getI dX13_count_118 e24 (Nat.le_of_ble_eq_true rfl) (Nat.le_of_ble_eq_true rfl) rfl ew_1483 ?_
    exact eg_iretE dX13_count_121 hF
  replace hF := eg_if c22 hF
  by_cases c25 : l1 = (10 : Int32)
  · replace hF := eg_it c25 hF
    refine eg_tIn 122 c25 dX13_count_6 (by decide) (by decide) rfl rfl ?_
    refine eg_aload_n (i := 0) 0 dX13_count_122 rfl rfl ?_
    replace hF := eg_bind hF; obtain ⟨v26, e27, hF⟩ := hF
    refine eg_getI dX13_count_123 e27 (Nat.le_of_ble_eq_true rfl) (Nat.le_of_ble_eq_true rfl) rfl ew_1506 ?_
    exact eg_iretE dX13_count_126 hF
  replace hF := eg_if c25 hF
  by_cases c28 : l1 = (11 : Int32)
  · replace hF := eg_it c28 hF
    refine eg_tIn 127 c28 dX13_count_6 (by decide) (by decide) rfl rfl ?_
    refine eg_aload_n (i := 0) 0 dX13_count_127 rfl rfl ?_
    replace hF := eg_bind hF; obtain ⟨v29, e30, hF⟩ := hF
    refine eg_getI dX13_count_128 e30 (Nat.le_of_ble_eq_true rfl) (Nat.le_of_ble_eq_true rfl) rfl ew_1466 ?_
    exact eg_iretE dX13_count_131 hF
  replace hF := eg_if c28 hF
  by_cases c31 : l1 = (12 : Int32)
  · replace hF := eg_it c31 hF
    refine eg_tIn 132 c31 dX13_count_6 (by decide) (by decide) rfl rfl ?_
    refine eg_aload_n (i := 0) 0 dX13_count_132 rfl rfl ?_
    replace hF := eg_bind hF; obtain ⟨v32, e33, hF⟩ := hF
    refine eg_getI dX13_count_133 e33 (Nat.le_of_ble_eq_true rfl) (Nat.le_of_ble_eq_true rfl) rfl ew_1499 ?_
    exact eg_iretE dX13_count_136 hF
  replace hF := eg_if c31 hF
  refine eg_tOut 137 dX13_count_6 (by
    have z0 := lv_neT c3 (show ((0 : Int32)).toInt = 0 from rfl)
    have z1 := lv_neT c6 (show ((1 : Int32)).toInt = 1 from rfl)
    have z2 := lv_neT c9 (show ((2 : Int32)).toInt = 2 from rfl)
    have z3 := lv_neT c12 (show ((3 : Int32)).toInt = 3 from rfl)
    have z4 := lv_neT c15 (show ((4 : Int32)).toInt = 4 from rfl)
    have z5 := lv_neT c16 (show ((5 : Int32)).toInt = 5 from rfl)
    have z6 := lv_neT c17 (show ((6 : Int32)).toInt = 6 from rfl)
    have z7 := lv_neT c18 (show ((7 : Int32)).toInt = 7 from rfl)
    have z8 := lv_neT c19 (show ((8 : Int32)).toInt = 8 from rfl)
    have z9 := lv_neT c22 (show ((9 : Int32)).toInt = 9 from rfl)
    have z10 := lv_neT c25 (show ((10 : Int32)).toInt = 10 from rfl)
    have z11 := lv_neT c28 (show ((11 : Int32)).toInt = 11 from rfl)
    have z12 := lv_neT c31 (show ((12 : Int32)).toInt = 12 from rfl)
    omega) rfl ?_
  refine eg_ldcw (v := (-1000000 : Int32)) dX13_count_137 ew_1899 ?_
  exact eg_iretE dX13_count_140 hF
