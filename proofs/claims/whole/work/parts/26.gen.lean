theorem dX9_pairOf_0 : decode cX9_pairOf 0 = .ok (.iload_n 1, 1) := by decide +kernel
theorem dX9_pairOf_1 : decode cX9_pairOf 1 = .ok (.ifCond .lt 12, 3) := by decide +kernel
theorem dX9_pairOf_4 : decode cX9_pairOf 4 = .ok (.iload_n 1, 1) := by decide +kernel
theorem dX9_pairOf_5 : decode cX9_pairOf 5 = .ok (.aload_n 0, 1) := by decide +kernel
theorem dX9_pairOf_6 : decode cX9_pairOf 6 = .ok (.getfield 19, 3) := by decide +kernel
theorem dX9_pairOf_9 : decode cX9_pairOf 9 = .ok (.arraylength, 1) := by decide +kernel
theorem dX9_pairOf_10 : decode cX9_pairOf 10 = .ok (.if_icmp .lt 7, 3) := by decide +kernel
theorem dX9_pairOf_13 : decode cX9_pairOf 13 = .ok (.iconst 0, 1) := by decide +kernel
theorem dX9_pairOf_14 : decode cX9_pairOf 14 = .ok (.goto 24, 3) := by decide +kernel
theorem dX9_pairOf_17 : decode cX9_pairOf 17 = .ok (.bipush 10, 2) := by decide +kernel
theorem dX9_pairOf_19 : decode cX9_pairOf 19 = .ok (.aload_n 0, 1) := by decide +kernel
theorem dX9_pairOf_20 : decode cX9_pairOf 20 = .ok (.getfield 19, 3) := by decide +kernel
theorem dX9_pairOf_23 : decode cX9_pairOf 23 = .ok (.iload_n 1, 1) := by decide +kernel
theorem dX9_pairOf_24 : decode cX9_pairOf 24 = .ok (.iaload, 1) := by decide +kernel
theorem dX9_pairOf_25 : decode cX9_pairOf 25 = .ok (.imul, 1) := by decide +kernel
theorem dX9_pairOf_26 : decode cX9_pairOf 26 = .ok (.aload_n 0, 1) := by decide +kernel
theorem dX9_pairOf_27 : decode cX9_pairOf 27 = .ok (.getfield 15, 3) := by decide +kernel
theorem dX9_pairOf_30 : decode cX9_pairOf 30 = .ok (.aload_n 0, 1) := by decide +kernel
theorem dX9_pairOf_31 : decode cX9_pairOf 31 = .ok (.getfield 19, 3) := by decide +kernel
theorem dX9_pairOf_34 : decode cX9_pairOf 34 = .ok (.iload_n 1, 1) := by decide +kernel
theorem dX9_pairOf_35 : decode cX9_pairOf 35 = .ok (.iaload, 1) := by decide +kernel
theorem dX9_pairOf_36 : decode cX9_pairOf 36 = .ok (.iaload, 1) := by decide +kernel
theorem dX9_pairOf_37 : decode cX9_pairOf 37 = .ok (.iadd, 1) := by decide +kernel
theorem dX9_pairOf_38 : decode cX9_pairOf 38 = .ok (.ireturn, 1) := by decide +kernel
def fX9_pairOf (h : eg_H) (l0 : Nat) (l1 : Int32) : Option (Int32 × eg_H) :=
  if eg_isO h 9 l0 then (
    if l1 < 0 then
      (some ((0 : Int32), h))
    else
      (eg_gR h 9 2 l0).bind fun p2 =>
      (eg_al h p2).bind fun v4 =>
      if l1 < v4 then
        ((eg_gR h 9 2 l0).bind fun p7 =>
        (eg_aI h 100 p7 l1).bind fun v9 =>
        (eg_gR h 9 1 l0).bind fun p11 =>
        (eg_gR h 9 2 l0).bind fun p13 =>
        (eg_aI h 100 p13 l1).bind fun v15 =>
        (eg_aI h 100 p11 v15).bind fun v17 =>
        some ((((10 : Int32) * v9) + v17), h))
      else
        some ((0 : Int32), h)) else none
theorem fX9_pairOf_O {h : eg_H} {l0 : Nat} {l1 : Int32} {rE : Int32} {hE : eg_H} (hF : fX9_pairOf h l0 l1 = some (rE, hE)) : eg_isO h 9 l0 := (eg_ifn hF).1
set_option maxRecDepth 20000 in
theorem mX9_pairOf {h : eg_H} {l0 : Nat} {l1 : Int32} {rE : Int32} {hE : eg_H} (hF : fX9_pairOf h l0 l1 = some (rE, hE)) : eg_Met yX9_pairOf cX9_pairOf 2 (some .int) 1 [.ref l0, .int l1] h (some (.int rE)) hE := by
  refine eg_enter rfl (Nat.le_of_ble_eq_true rfl) ?_
  show eg_AW (RX9, cX9_pairOf, 2, 1, none, "pairOf", (some .int)) (eg_Zm (some (.int rE)) hE h) (eg_nc hE) (eg_ns hE) h 0 [(0, .ref l0), (1, .int l1)] [] h
  replace hF := (eg_ifn hF).2
  refine eg_iload_n (i := 1) 1 dX9_pairOf_0 rfl rfl ?_
  refine eg_if_lt 13 dX9_pairOf_1 rfl (fun c1 => ?_) (fun c1 => ?_)
  · replace hF := eg_it c1 hF
    refine eg_iconst (v := (0 : Int32)) dX9_pairOf_13 (by decide) ?_
    refine eg_goto 38 dX9_pairOf_14 rfl ?_
    exact eg_iretE dX9_pairOf_38 hF
  · replace hF := eg_if c1 hF
    refine eg_iload_n (i := 1) 1 dX9_pairOf_4 rfl rfl ?_
    refine eg_aload_n (i := 0) 0 dX9_pairOf_5 rfl rfl ?_
    replace hF := eg_bind hF; obtain ⟨p2, e3, hF⟩ := hF
    refine eg_getR dX9_pairOf_6 e3 (Nat.le_of_ble_eq_true rfl) (Nat.le_of_ble_eq_true rfl) rfl ew_320 ?_
    replace hF := eg_bind hF; obtain ⟨v4, e5, hF⟩ := hF
    refine eg_alen dX9_pairOf_9 e5 ?_
    refine eg_ic_lt 17 dX9_pairOf_10 rfl (fun c6 => ?_) (fun c6 => ?_)
    · replace hF := eg_it c6 hF
      refine eg_bipush (v := (10 : Int32)) dX9_pairOf_17 (by decide) ?_
      refine eg_aload_n (i := 0) 0 dX9_pairOf_19 rfl rfl ?_
      replace hF := eg_bind hF; obtain ⟨p7, e8, hF⟩ := hF
      refine eg_getR dX9_pairOf_20 e8 (Nat.le_of_ble_eq_true rfl) (Nat.le_of_ble_eq_true rfl) rfl ew_320 ?_
      refine eg_iload_n (i := 1) 1 dX9_pairOf_23 rfl rfl ?_
      replace hF := eg_bind hF; obtain ⟨v9, e10, hF⟩ := hF
      refine eg_iald dX9_pairOf_24 e10 ?_
      refine eg_imul dX9_pairOf_25 ?_
      refine eg_aload_n (i := 0) 0 dX9_pairOf_26 rfl rfl ?_
      replace hF := eg_bind hF; obtain ⟨p11, e12, hF⟩ := hF
      refine eg_getR dX9_pairOf_27 e12 (Nat.le_of_ble_eq_true rfl) (Nat.le_of_ble_eq_true rfl) rfl ew_319 ?_
      refine eg_aload_n (i := 0) 0 dX9_pairOf_30 rfl rfl ?_
      replace hF := eg_bind hF; obtain ⟨p13, e14, hF⟩ := hF
      refine eg_getR dX9_pairOf_31 e14 (Nat.le_of_ble_eq_true rfl) (Nat.le_of_ble_eq_true rfl) rfl ew_320 ?_
      refine eg_iload_n (i := 1) 1 dX9_pairOf_34 rfl rfl ?_
      replace hF := eg_bind hF; obtain ⟨v15, e16, hF⟩ := hF
      refine eg_iald dX9_pairOf_35 e16 ?_
      replace hF := eg_bind hF; obtain ⟨v17, e18, hF⟩ := hF
      refine eg_iald dX9_pairOf_36 e18 ?_
      refine eg_iadd dX9_pairOf_37 ?_
      exact eg_iretE dX9_pairOf_38 hF
    · replace hF := eg_if c6 hF
      refine eg_iconst (v := (0 : Int32)) dX9_pairOf_13 (by decide) ?_
      refine eg_goto 38 dX9_pairOf_14 rfl ?_
      exact eg_iretE dX9_pairOf_38 hF
theorem dX9_pairOfLower_0 : decode cX9_pairOfLower 0 = .ok (.iconst 0, 1) := by decide +kernel
theorem dX9_pairOfLower_1 : decode cX9_pairOfLower 1 = .ok (.istore_n 3, 1) := by decide +kernel
theorem dX9_pairOfLower_2 : decode cX9_pairOfLower 2 = .ok (.iload_n 3, 1) := by decide +kernel
theorem dX9_pairOfLower_3 : decode cX9_pairOfLower 3 = .ok (.iload_n 2, 1) := by decide +kernel
theorem dX9_pairOfLower_4 : decode cX9_pairOfLower 4 = .ok (.if_icmp .ge 30, 3) := by decide +kernel
theorem dX9_pairOfLower_7 : decode cX9_pairOfLower 7 = .ok (.iload_n 3, 1) := by decide +kernel
theorem dX9_pairOfLower_8 : decode cX9_pairOfLower 8 = .ok (.aload_n 0, 1) := by decide +kernel
theorem dX9_pairOfLower_9 : decode cX9_pairOfLower 9 = .ok (.getfield 19, 3) := by decide +kernel
theorem dX9_pairOfLower_12 : decode cX9_pairOfLower 12 = .ok (.arraylength, 1) := by decide +kernel
theorem dX9_pairOfLower_13 : decode cX9_pairOfLower 13 = .ok (.if_icmp .ge 21, 3) := by decide +kernel
theorem dX9_pairOfLower_16 : decode cX9_pairOfLower 16 = .ok (.aload_n 0, 1) := by decide +kernel
theorem dX9_pairOfLower_17 : decode cX9_pairOfLower 17 = .ok (.getfield 19, 3) := by decide +kernel
theorem dX9_pairOfLower_20 : decode cX9_pairOfLower 20 = .ok (.iload_n 3, 1) := by decide +kernel
theorem dX9_pairOfLower_21 : decode cX9_pairOfLower 21 = .ok (.iaload, 1) := by decide +kernel
theorem dX9_pairOfLower_22 : decode cX9_pairOfLower 22 = .ok (.iload_n 1, 1) := by decide +kernel
theorem dX9_pairOfLower_23 : decode cX9_pairOfLower 23 = .ok (.if_icmp .ne 5, 3) := by decide +kernel
theorem dX9_pairOfLower_26 : decode cX9_pairOfLower 26 = .ok (.iload_n 3, 1) := by decide +kernel
theorem dX9_pairOfLower_27 : decode cX9_pairOfLower 27 = .ok (.ireturn, 1) := by decide +kernel
theorem dX9_pairOfLower_28 : decode cX9_pairOfLower 28 = .ok (.iinc 3 1, 3) := by decide +kernel
theorem dX9_pairOfLower_31 : decode cX9_pairOfLower 31 = .ok (.goto (-29), 3) := by decide +kernel
theorem dX9_pairOfLower_34 : decode cX9_pairOfLower 34 = .ok (.iconst (-1), 1) := by decide +kernel
theorem dX9_pairOfLower_35 : decode cX9_pairOfLower 35 = .ok (.ireturn, 1) := by decide +kernel
def fX9_pairOfLower_L2 : Nat → eg_H → Nat → Int32 → Int32 → Int32 → Option ((eg_H) ⊕ (Int32 × eg_H))
  | 0, _, _, _, _, _ => none
  | n + 1, h, l0, l1, l2, l3 =>
    if l2 ≤ l3 then
      (some (.inl h))
    else
      (eg_gR h 9 2 l0).bind fun p2 =>
      (eg_al h p2).bind fun v4 =>
      if v4 ≤ l3 then
        (some (.inl h))
      else
        (eg_gR h 9 2 l0).bind fun p7 =>
        (eg_aI h 100 p7 l3).bind fun v9 =>
        if v9 = l1 then
          (some (.inr (l3, h)))
        else
          fX9_pairOfLower_L2 n h l0 l1 l2 (l3 + (1 : Int32))
set_option maxRecDepth 20000 in
theorem fX9_pairOfLower_L2_ok {h0 : eg_H} {Z : eg_C → State → Prop} {N S : Nat} : ∀ (n : Nat) (h : eg_H) (l0 : Nat) (l1 : Int32) (l2 : Int32) (l3 : Int32) (eE : (eg_H) ⊕ (Int32 × eg_H)), fX9_pairOfLower_L2 n h l0 l1 l2 l3 = some eE → (hk0 : ∀  (h : eg_H), eE = (.inl h) → eg_AW (RX9, cX9_pairOfLower, 4, 1, none, "pairOfLower", (some .int)) Z N S h0 34 [] [] h) → (hk1 : ∀ (l3 : Int32) (h : eg_H), eE = (.inr (l3, h)) → eg_AW (RX9, cX9_pairOfLower, 4, 1, none, "pairOfLower", (some .int)) Z N S h0 26 [(3, .int l3)] [] h) → eg_AW (RX9, cX9_pairOfLower, 4, 1, none, "pairOfLower", (some .int)) Z N S h0 2 [(0, .ref l0), (1, .int l1), (2, .int l2), (3, .int l3)] [] h := by
  intro n
  induction n with
  | zero => intro h l0 l1 l2 l3 eE hF; exact absurd hF (by intro q; cases q)
  | succ n ih =>
    intro h l0 l1 l2 l3 eE hF hk0 hk1
    have hrec := fun (h' : eg_H) (l0 : Nat) (l1 : Int32) (l2 : Int32) (l3 : Int32) hq => ih h' l0 l1 l2 l3 eE hq hk0 hk1
    refine eg_iload_n (i := 3) 3 dX9_pairOfLower_2 rfl rfl ?_
    refine eg_iload_n (i := 2) 2 dX9_pairOfLower_3 rfl rfl ?_
    refine eg_ic_ge 34 dX9_pairOfLower_4 rfl (fun c1 => ?_) (fun c1 => ?_)
    · replace hF := eg_it c1 hF
      exact eg_sub [] [] rfl (hk0 h (Option.some.inj hF).symm)
    · replace hF := eg_if c1 hF
      refine eg_iload_n (i := 3) 3 dX9_pairOfLower_7 rfl rfl ?_
      refine eg_aload_n (i := 0) 0 dX9_pairOfLower_8 rfl rfl ?_
      replace hF := eg_bind hF; obtain ⟨p2, e3, hF⟩ := hF
      refine eg_getR dX9_pairOfLower_9 e3 (Nat.le_of_ble_eq_true rfl) (Nat.le_of_ble_eq_true rfl) rfl ew_320 ?_
      replace hF := eg_bind hF; obtain ⟨v4, e5, hF⟩ := hF
      refine eg_alen dX9_pairOfLower_12 e5 ?_
      refine eg_ic_ge 34 dX9_pairOfLower_13 rfl (fun c6 => ?_) (fun c6 => ?_)
      · replace hF := eg_it c6 hF
        exact eg_sub [] [] rfl (hk0 h (Option.some.inj hF).symm)
      · replace hF := eg_if c6 hF
        refine eg_aload_n (i := 0) 0 dX9_pairOfLower_16 rfl rfl ?_
        replace hF := eg_bind hF; obtain ⟨p7, e8, hF⟩ := hF
        refine eg_getR dX9_pairOfLower_17 e8 (Nat.le_of_ble_eq_true rfl) (Nat.le_of_ble_eq_true rfl) rfl ew_320 ?_
        refine eg_iload_n (i := 3) 3 dX9_pairOfLower_20 rfl rfl ?_
        replace hF := eg_bind hF; obtain ⟨v9, e10, hF⟩ := hF
        refine eg_iald dX9_pairOfLower_21 e10 ?_
        refine eg_iload_n (i := 1) 1 dX9_pairOfLower_22 rfl rfl ?_
        refine eg_ic_ne 28 dX9_pairOfLower_23 rfl (fun c11 => ?_) (fun c11 => ?_)
        · replace hF := eg_it c11 hF
          exact eg_sub [3] [(3, .int l3)] rfl (hk1 l3 h (Option.some.inj hF).symm)
        · replace hF := eg_if c11 hF
          refine eg_iinc (i := 3) (v := (l3 + (1 : Int32))) 3 [(3, .int (l3 + (1 : Int32))), (0, .ref l0), (1, .int l1), (2, .int l2)] dX9_pairOfLower_28 rfl rfl (Nat.le_of_ble_eq_true rfl) rfl ?_
          refine eg_goto 2 dX9_pairOfLower_31 rfl ?_
          exact eg_sub [1, 2, 3, 0] [(0, .ref l0), (1, .int l1), (2, .int l2), (3, .int (l3 + (1 : Int32)))] rfl (hrec h l0 l1 l2 (l3 + (1 : Int32)) hF)
def fX9_pairOfLower (h : eg_H) (l0 : Nat) (l1 : Int32) (l2 : Int32) : Option (Int32 × eg_H) :=
  if eg_isO h 9 l0 then (
    (fX9_pairOfLower_L2 eg_F h l0 l1 l2 (0 : Int32)).bind fun e =>
    match e with
    | .inl h3 =>
      some ((-1 : Int32), h3)
    | .inr (v5, h6) =>
      some (v5, h6)) else none
theorem fX9_pairOfLower_O {h : eg_H} {l0 : Nat} {l1 : Int32} {l2 : Int32} {rE : Int32} {hE : eg_H} (hF : fX9_pairOfLower h l0 l1 l2 = some (rE, hE)) : eg_isO h 9 l0 := (eg_ifn hF).1
set_option maxRecDepth 20000 in
theorem mX9_pairOfLower {h : eg_H} {l0 : Nat} {l1 : Int32} {l2 : Int32} {rE : Int32} {hE : eg_H} (hF : fX9_pairOfLower h l0 l1 l2 = some (rE, hE)) : eg_Met yX9_pairOfLower cX9_pairOfLower 4 (some .int) 1 [.ref l0, .int l1, .int l2] h (some (.int rE)) hE := by
  refine eg_enter rfl (Nat.le_of_ble_eq_true rfl) ?_
  show eg_AW (RX9, cX9_pairOfLower, 4, 1, none, "pairOfLower", (some .int)) (eg_Zm (some (.int rE)) hE h) (eg_nc hE) (eg_ns hE) h 0 [(0, .ref l0), (1, .int l1), (2, .int l2)] [] h
  replace hF := (eg_ifn hF).2
  refine eg_iconst (v := (0 : Int32)) dX9_pairOfLower_0 (by decide) ?_
  refine eg_istore_n (i := 3) [(3, .int (0 : Int32)), (0, .ref l0), (1, .int l1), (2, .int l2)] dX9_pairOfLower_1 rfl (Nat.le_of_ble_eq_true rfl) rfl ?_
  replace hF := eg_bind hF; obtain ⟨x2, e1, hF⟩ := hF
  refine eg_sub [1, 2, 3, 0] [(0, .ref l0), (1, .int l1), (2, .int l2), (3, .int (0 : Int32))] rfl (fX9_pairOfLower_L2_ok eg_F h l0 l1 l2 (0 : Int32) x2 e1 ?_ ?_)
  · intro h3 e4
    subst e4
    refine eg_iconst (v := (-1 : Int32)) dX9_pairOfLower_34 (by decide) ?_
    exact eg_iretE dX9_pairOfLower_35 hF
  · intro v5 h6 e7
    subst e7
    refine eg_iload_n (i := 3) 0 dX9_pairOfLower_26 rfl rfl ?_
    exact eg_iretE dX9_pairOfLower_27 hF
theorem dX9_lowersIn_0 : decode cX9_lowersIn 0 = .ok (.iconst 0, 1) := by decide +kernel
theorem dX9_lowersIn_1 : decode cX9_lowersIn 1 = .ok (.istore_n 2, 1) := by decide +kernel
theorem dX9_lowersIn_2 : decode cX9_lowersIn 2 = .ok (.iconst 0, 1) := by decide +kernel
theorem dX9_lowersIn_3 : decode cX9_lowersIn 3 = .ok (.istore_n 3, 1) := by decide +kernel
theorem dX9_lowersIn_4 : decode cX9_lowersIn 4 = .ok (.iload_n 3, 1) := by decide +kernel
theorem dX9_lowersIn_5 : decode cX9_lowersIn 5 = .ok (.aload_n 0, 1) := by decide +kernel
theorem dX9_lowersIn_6 : decode cX9_lowersIn 6 = .ok (.getfield 19, 3) := by decide +kernel
theorem dX9_lowersIn_9 : decode cX9_lowersIn 9 = .ok (.arraylength, 1) := by decide +kernel
theorem dX9_lowersIn_10 : decode cX9_lowersIn 10 = .ok (.if_icmp .ge 29, 3) := by decide +kernel
theorem dX9_lowersIn_13 : decode cX9_lowersIn 13 = .ok (.iload_n 1, 1) := by decide +kernel
theorem dX9_lowersIn_14 : decode cX9_lowersIn 14 = .ok (.iload_n 3, 1) := by decide +kernel
theorem dX9_lowersIn_15 : decode cX9_lowersIn 15 = .ok (.ishr, 1) := by decide +kernel
theorem dX9_lowersIn_16 : decode cX9_lowersIn 16 = .ok (.iconst 1, 1) := by decide +kernel
theorem dX9_lowersIn_17 : decode cX9_lowersIn 17 = .ok (.iand, 1) := by decide +kernel
theorem dX9_lowersIn_18 : decode cX9_lowersIn 18 = .ok (.iconst 1, 1) := by decide +kernel
theorem dX9_lowersIn_19 : decode cX9_lowersIn 19 = .ok (.if_icmp .ne 14, 3) := by decide +kernel
theorem dX9_lowersIn_22 : decode cX9_lowersIn 22 = .ok (.iload_n 2, 1) := by decide +kernel
theorem dX9_lowersIn_23 : decode cX9_lowersIn 23 = .ok (.iconst 1, 1) := by decide +kernel
theorem dX9_lowersIn_24 : decode cX9_lowersIn 24 = .ok (.aload_n 0, 1) := by decide +kernel
theorem dX9_lowersIn_25 : decode cX9_lowersIn 25 = .ok (.getfield 19, 3) := by decide +kernel
theorem dX9_lowersIn_28 : decode cX9_lowersIn 28 = .ok (.iload_n 3, 1) := by decide +kernel
theorem dX9_lowersIn_29 : decode cX9_lowersIn 29 = .ok (.iaload, 1) := by decide +kernel
theorem dX9_lowersIn_30 : decode cX9_lowersIn 30 = .ok (.ishl, 1) := by decide +kernel
theorem dX9_lowersIn_31 : decode cX9_lowersIn 31 = .ok (.ior, 1) := by decide +kernel
theorem dX9_lowersIn_32 : decode cX9_lowersIn 32 = .ok (.istore_n 2, 1) := by decide +kernel
theorem dX9_lowersIn_33 : decode cX9_lowersIn 33 = .ok (.iinc 3 1, 3) := by decide +kernel
theorem dX9_lowersIn_36 : decode cX9_lowersIn 36 = .ok (.goto (-32), 3) := by decide +kernel
theorem dX9_lowersIn_39 : decode cX9_lowersIn 39 = .ok (.iload_n 2, 1) := by decide +kernel
theorem dX9_lowersIn_40 : decode cX9_lowersIn 40 = .ok (.ireturn, 1) := by decide +kernel
def fX9_lowersIn_L4 : Nat → eg_H → Nat → Int32 → Int32 → Int32 → Option (Int32 × eg_H)
  | 0, _, _, _, _, _ => none
  | n + 1, h, l0, l1, l2, l3 =>
    (eg_gR h 9 2 l0).bind fun p1 =>
    (eg_al h p1).bind fun v3 =>
    if v3 ≤ l3 then
      (some (l2, h))
    else
      if ((l1 >>> (l3 &&& 31)) &&& (1 : Int32)) = (1 : Int32) then
        ((eg_gR h 9 2 l0).bind fun p7 =>
        (eg_aI h 100 p7 l3).bind fun v9 =>
        (some ((l2 ||| ((1 : Int32) <<< (v9 &&& 31))))).bind fun v11 =>
        fX9_lowersIn_L4 n h l0 l1 v11 (l3 + (1 : Int32)))
      else
        fX9_lowersIn_L4 n h l0 l1 l2 (l3 + (1 : Int32))
set_option maxRecDepth 20000 in
theorem fX9_lowersIn_L4_ok {h0 : eg_H} {Z : eg_C → State → Prop} {N S : Nat} : ∀ (n : Nat) (h : eg_H) (l0 : Nat) (l1 : Int32) (l2 : Int32) (l3 : Int32) (eE : Int32 × eg_H), fX9_lowersIn_L4 n h l0 l1 l2 l3 = some eE → (hk0 : ∀ (l2 : Int32) (h : eg_H), eE = (l2, h) → eg_AW (RX9, cX9_lowersIn, 4, 1, none, "lowersIn", (some .int)) Z N S h0 39 [(2, .int l2)] [] h) → eg_AW (RX9, cX9_lowersIn, 4, 1, none, "lowersIn", (some .int)) Z N S h0 4 [(0, .ref l0), (1, .int l1), (2, .int l2), (3, .int l3)] [] h := by
  intro n
  induction n with
  | zero => intro h l0 l1 l2 l3 eE hF; exact absurd hF (by intro q; cases q)
  | succ n ih =>
    intro h l0 l1 l2 l3 eE hF hk0
    have hrec := fun (h' : eg_H) (l0 : Nat) (l1 : Int32) (l2 : Int32) (l3 : Int32) hq => ih h' l0 l1 l2 l3 eE hq hk0
    refine eg_iload_n (i := 3) 3 dX9_lowersIn_4 rfl rfl ?_
    refine eg_aload_n (i := 0) 0 dX9_lowersIn_5 rfl rfl ?_
    replace hF := eg_bind hF; obtain ⟨p1, e2, hF⟩ := hF
    refine eg_getR dX9_lowersIn_6 e2 (Nat.le_of_ble_eq_true rfl) (Nat.le_of_ble_eq_true rfl) rfl ew_320 ?_
    replace hF := eg_bind hF; obtain ⟨v3, e4, hF⟩ := hF
    refine eg_alen dX9_lowersIn_9 e4 ?_
    refine eg_ic_ge 39 dX9_lowersIn_10 rfl (fun c5 => ?_) (fun c5 => ?_)
    · replace hF := eg_it c5 hF
      exact eg_sub [2] [(2, .int l2)] rfl (hk0 l2 h (Option.some.inj hF).symm)
    · replace hF := eg_if c5 hF
      refine eg_iload_n (i := 1) 1 dX9_lowersIn_13 rfl rfl ?_
      refine eg_iload_n (i := 3) 3 dX9_lowersIn_14 rfl rfl ?_
      refine eg_ishr dX9_lowersIn_15 ?_
      refine eg_iconst (v := (1 : Int32)) dX9_lowersIn_16 (by decide) ?_
      refine eg_iand dX9_lowersIn_17 ?_
      refine eg_iconst (v := (1 : Int32)) dX9_lowersIn_18 (by decide) ?_
      refine eg_ic_ne 33 dX9_lowersIn_19 rfl (fun c6 => ?_) (fun c6 => ?_)
      · replace hF := eg_it c6 hF
        refine eg_iload_n (i := 2) 2 dX9_lowersIn_22 rfl rfl ?_
        refine eg_iconst (v := (1 : Int32)) dX9_lowersIn_23 (by decide) ?_
        refine eg_aload_n (i := 0) 0 dX9_lowersIn_24 rfl rfl ?_
        replace hF := eg_bind hF; obtain ⟨p7, e8, hF⟩ := hF
        refine eg_getR dX9_lowersIn_25 e8 (Nat.le_of_ble_eq_true rfl) (Nat.le_of_ble_eq_true rfl) rfl ew_320 ?_
        refine eg_iload_n (i := 3) 3 dX9_lowersIn_28 rfl rfl ?_
        replace hF := eg_bind hF; obtain ⟨v9, e10, hF⟩ := hF
        refine eg_iald dX9_lowersIn_29 e10 ?_
        refine eg_ishl dX9_lowersIn_30 ?_
        refine eg_ior dX9_lowersIn_31 ?_
        replace hF := eg_bind hF; obtain ⟨v11, e12, hF⟩ := hF
        replace e12 := Option.some.inj e12
        rw [e12]
        refine eg_istore_n (i := 2) [(2, .int v11), (0, .ref l0), (1, .int l1), (3, .int l3)] dX9_lowersIn_32 rfl (Nat.le_of_ble_eq_true rfl) rfl ?_
        refine eg_iinc (i := 3) (v := (l3 + (1 : Int32))) 3 [(3, .int (l3 + (1 : Int32))), (2, .int v11), (0, .ref l0), (1, .int l1)] dX9_lowersIn_33 rfl rfl (Nat.le_of_ble_eq_true rfl) rfl ?_
        refine eg_goto 4 dX9_lowersIn_36 rfl ?_
        exact eg_sub [2, 3, 1, 0] [(0, .ref l0), (1, .int l1), (2, .int v11), (3, .int (l3 + (1 : Int32)))] rfl (hrec h l0 l1 v11 (l3 + (1 : Int32)) hF)
      · replace hF := eg_if c6 hF
        refine eg_iinc (i := 3) (v := (l3 + (1 : Int32))) 3 [(3, .int (l3 + (1 : Int32))), (0, .ref l0), (1, .int l1), (2, .int l2)] dX9_lowersIn_33 rfl rfl (Nat.le_of_ble_eq_true rfl) rfl ?_
        refine eg_goto 4 dX9_lowersIn_36 rfl ?_
        exact eg_sub [1, 2, 3, 0] [(0, .ref l0), (1, .int l1), (2, .int l2), (3, .int (l3 + (1 : Int32)))] rfl (hrec h l0 l1 l2 (l3 + (1 : Int32)) hF)
def fX9_lowersIn (h : eg_H) (l0 : Nat) (l1 : Int32) : Option (Int32 × eg_H) :=
  if eg_isO h 9 l0 then (
    (fX9_lowersIn_L4 eg_F h l0 l1 (0 : Int32) (0 : Int32)).bind fun e =>
    match e with
    | (v3, h4) =>
      some (v3, h4)) else none
theorem fX9_lowersIn_O {h : eg_H} {l0 : Nat} {l1 : Int32} {rE : Int32} {hE : eg_H} (hF : fX9_lowersIn h l0 l1 = some (rE, hE)) : eg_isO h 9 l0 := (eg_ifn hF).1
set_option maxRecDepth 20000 in
theorem mX9_lowersIn {h : eg_H} {l0 : Nat} {l1 : Int32} {rE : Int32} {hE : eg_H} (hF : fX9_lowersIn h l0 l1 = some (rE, hE)) : eg_Met yX9_lowersIn cX9_lowersIn 4 (some .int) 1 [.ref l0, .int l1] h (some (.int rE)) hE := by
  refine eg_enter rfl (Nat.le_of_ble_eq_true rfl) ?_
  show eg_AW (RX9, cX9_lowersIn, 4, 1, none, "lowersIn", (some .int)) (eg_Zm (some (.int rE)) hE h) (eg_nc hE) (eg_ns hE) h 0 [(0, .ref l0), (1, .int l1)] [] h
  replace hF := (eg_ifn hF).2
  refine eg_iconst (v := (0 : Int32)) dX9_lowersIn_0 (by decide) ?_
  refine eg_istore_n (i := 2) [(2, .int (0 : Int32)), (0, .ref l0), (1, .int l1)] dX9_lowersIn_1 rfl (Nat.le_of_ble_eq_true rfl) rfl ?_
  refine eg_iconst (v := (0 : Int32)) dX9_lowersIn_2 (by decide) ?_
  refine eg_istore_n (i := 3) [(3, .int (0 : Int32)), (2, .int (0 : Int32)), (0, .ref l0), (1, .int l1)] dX9_lowersIn_3 rfl (Nat.le_of_ble_eq_true rfl) rfl ?_
  replace hF := eg_bind hF; obtain ⟨x2, e1, hF⟩ := hF
  refine eg_sub [2, 3, 1, 0] [(0, .ref l0), (1, .int l1), (2, .int (0 : Int32)), (3, .int (0 : Int32))] rfl (fX9_lowersIn_L4_ok eg_F h l0 l1 (0 : Int32) (0 : Int32) x2 e1 ?_)
  · intro v3 h4 e5
    subst e5
    refine eg_iload_n (i := 2) 0 dX9_lowersIn_39 rfl rfl ?_
    exact eg_iretE dX9_lowersIn_40 hF
theorem dX9_readRow_0 : decode cX9_readRow 0 = .ok (.iload_n 2, 1) := by decide +kernel
theorem dX9_readRow_1 : decode cX9_readRow 1 = .ok (.ifCond .le 25, 3) := by decide +kernel
theorem dX9_readRow_4 : decode cX9_readRow 4 = .ok (.iload_n 2, 1) := by decide +kernel
theorem dX9_readRow_5 : decode cX9_readRow 5 = .ok (.aload_n 0, 1) := by decide +kernel
theorem dX9_readRow_6 : decode cX9_readRow 6 = .ok (.getfield 15, 3) := by decide +kernel
theorem dX9_readRow_9 : decode cX9_readRow 9 = .ok (.arraylength, 1) := by decide +kernel
theorem dX9_readRow_10 : decode cX9_readRow 10 = .ok (.if_icmp .gt 16, 3) := by decide +kernel
theorem dX9_readRow_13 : decode cX9_readRow 13 = .ok (.aload_n 0, 1) := by decide +kernel
theorem dX9_readRow_14 : decode cX9_readRow 14 = .ok (.iload_n 1, 1) := by decide +kernel
theorem dX9_readRow_15 : decode cX9_readRow 15 = .ok (.aload_n 0, 1) := by decide +kernel
theorem dX9_readRow_16 : decode cX9_readRow 16 = .ok (.getfield 15, 3) := by decide +kernel
theorem dX9_readRow_19 : decode cX9_readRow 19 = .ok (.iload_n 2, 1) := by decide +kernel
theorem dX9_readRow_20 : decode cX9_readRow 20 = .ok (.invokevirtual 66, 3) := by decide +kernel
theorem dX9_readRow_23 : decode cX9_readRow 23 = .ok (.ifCond .ne 5, 3) := by decide +kernel
theorem dX9_readRow_26 : decode cX9_readRow 26 = .ok (.iconst 0, 1) := by decide +kernel
theorem dX9_readRow_27 : decode cX9_readRow 27 = .ok (.ireturn, 1) := by decide +kernel
theorem dX9_readRow_28 : decode cX9_readRow 28 = .ok (.iconst 0, 1) := by decide +kernel
theorem dX9_readRow_29 : decode cX9_readRow 29 = .ok (.istore_n 3, 1) := by decide +kernel
theorem dX9_readRow_30 : decode cX9_readRow 30 = .ok (.iconst 0, 1) := by decide +kernel
theorem dX9_readRow_31 : decode cX9_readRow 31 = .ok (.istore 4, 2) := by decide +kernel
theorem dX9_readRow_33 : decode cX9_readRow 33 = .ok (.iload 4, 2) := by decide +kernel
theorem dX9_readRow_35 : decode cX9_readRow 35 = .ok (.iload_n 2, 1) := by decide +kernel
theorem dX9_readRow_36 : decode cX9_readRow 36 = .ok (.if_icmp .ge 21, 3) := by decide +kernel
theorem dX9_readRow_39 : decode cX9_readRow 39 = .ok (.iload_n 3, 1) := by decide +kernel
theorem dX9_readRow_40 : decode cX9_readRow 40 = .ok (.iconst 1, 1) := by decide +kernel
theorem dX9_readRow_41 : decode cX9_readRow 41 = .ok (.aload_n 0, 1) := by decide +kernel
theorem dX9_readRow_42 : decode cX9_readRow 42 = .ok (.getfield 15, 3) := by decide +kernel
theorem dX9_readRow_45 : decode cX9_readRow 45 = .ok (.iload 4, 2) := by decide +kernel
theorem dX9_readRow_47 : decode cX9_readRow 47 = .ok (.iaload, 1) := by decide +kernel
theorem dX9_readRow_48 : decode cX9_readRow 48 = .ok (.ishl, 1) := by decide +kernel
theorem dX9_readRow_49 : decode cX9_readRow 49 = .ok (.ior, 1) := by decide +kernel
theorem dX9_readRow_50 : decode cX9_readRow 50 = .ok (.istore_n 3, 1) := by decide +kernel
theorem dX9_readRow_51 : decode cX9_readRow 51 = .ok (.iinc 4 1, 3) := by decide +kernel
theorem dX9_readRow_54 : decode cX9_readRow 54 = .ok (.goto (-21), 3) := by decide +kernel
theorem dX9_readRow_57 : decode cX9_readRow 57 = .ok (.iload_n 3, 1) := by decide +kernel
theorem dX9_readRow_58 : decode cX9_readRow 58 = .ok (.iconst 1, 1) := by decide +kernel
theorem dX9_readRow_59 : decode cX9_readRow 59 = .ok (.iload_n 2, 1) := by decide +kernel
theorem dX9_readRow_60 : decode cX9_readRow 60 = .ok (.ishl, 1) := by decide +kernel
theorem dX9_readRow_61 : decode cX9_readRow 61 = .ok (.iconst 1, 1) := by decide +kernel
theorem dX9_readRow_62 : decode cX9_readRow 62 = .ok (.isub, 1) := by decide +kernel
theorem dX9_readRow_63 : decode cX9_readRow 63 = .ok (.if_icmp .ne 7, 3) := by decide +kernel
theorem dX9_readRow_66 : decode cX9_readRow 66 = .ok (.iconst 1, 1) := by decide +kernel
theorem dX9_readRow_67 : decode cX9_readRow 67 = .ok (.goto 4, 3) := by decide +kernel
theorem dX9_readRow_70 : decode cX9_readRow 70 = .ok (.iconst 0, 1) := by decide +kernel
theorem dX9_readRow_71 : decode cX9_readRow 71 = .ok (.ireturn, 1) := by decide +kernel
def fX9_readRow_L33 : Nat → eg_H → Nat → Int32 → Int32 → Int32 → Option (Int32 × Int32 × eg_H)
  | 0, _, _, _, _, _ => none
  | n + 1, h, l0, l2, l3, l4 =>
    if l2 ≤ l4 then
      (some (l2, l3, h))
    else
      (eg_gR h 9 1 l0).bind fun p2 =>
      (eg_aI h 100 p2 l4).bind fun v4 =>
      (some ((l3 ||| ((1 : Int32) <<< (v4 &&& 31))))).bind fun v6 =>
      fX9_readRow_L33 n h l0 l2 v6 (l4 + (1 : Int32))
set_option maxRecDepth 20000 in
theorem fX9_readRow_L33_ok {h0 : eg_H} {Z : eg_C → State → Prop} {N S : Nat} : ∀ (n : Nat) (h : eg_H) (l0 : Nat) (l2 : Int32) (l3 : Int32) (l4 : Int32) (eE : Int32 × Int32 × eg_H), fX9_readRow_L33 n h l0 l2 l3 l4 = some eE → (hk0 : ∀ (l2 : Int32) (l3 : Int32) (h : eg_H), eE = (l2, l3, h) → eg_AW (RX9, cX9_readRow, 5, 2, none, "readRow", (some .boolean)) Z N S h0 57 [(2, .int l2), (3, .int l3)] [] h) → eg_AW (RX9, cX9_readRow, 5, 2, none, "readRow", (some .boolean)) Z N S h0 33 [(0, .ref l0), (2, .int l2), (3, .int l3), (4, .int l4)] [] h := by
  intro n
  induction n with
  | zero => intro h l0 l2 l3 l4 eE hF; exact absurd hF (by intro q; cases q)
  | succ n ih =>
    intro h l0 l2 l3 l4 eE hF hk0
    have hrec := fun (h' : eg_H) (l0 : Nat) (l2 : Int32) (l3 : Int32) (l4 : Int32) hq => ih h' l0 l2 l3 l4 eE hq hk0
    refine eg_iload (i := 4) 3 dX9_readRow_33 rfl ?_
    refine eg_iload_n (i := 2) 1 dX9_readRow_35 rfl rfl ?_
    refine eg_ic_ge 57 dX9_readRow_36 rfl (fun c1 => ?_) (fun c1 => ?_)
    · replace hF := eg_it c1 hF
      exact eg_sub [1, 2] [(2, .int l2), (3, .int l3)] rfl (hk0 l2 l3 h (Option.some.inj hF).symm)
    · replace hF := eg_if c1 hF
      refine eg_iload_n (i := 3) 2 dX9_readRow_39 rfl rfl ?_
      refine eg_iconst (v := (1 : Int32)) dX9_readRow_40 (by decide) ?_
      refine eg_aload_n (i := 0) 0 dX9_readRow_41 rfl rfl ?_
      replace hF := eg_bind hF; obtain ⟨p2, e3, hF⟩ := hF
      refine eg_getR dX9_readRow_42 e3 (Nat.le_of_ble_eq_true rfl) (Nat.le_of_ble_eq_true rfl) rfl ew_319 ?_
      refine eg_iload (i := 4) 3 dX9_readRow_45 rfl ?_
      replace hF := eg_bind hF; obtain ⟨v4, e5, hF⟩ := hF
      refine eg_iald dX9_readRow_47 e5 ?_
      refine eg_ishl dX9_readRow_48 ?_
      refine eg_ior dX9_readRow_49 ?_
      replace hF := eg_bind hF; obtain ⟨v6, e7, hF⟩ := hF
      replace e7 := Option.some.inj e7
      rw [e7]
      refine eg_istore_n (i := 3) [(3, .int v6), (0, .ref l0), (2, .int l2), (4, .int l4)] dX9_readRow_50 rfl (Nat.le_of_ble_eq_true rfl) rfl ?_
      refine eg_iinc (i := 4) (v := (l4 + (1 : Int32))) 3 [(4, .int (l4 + (1 : Int32))), (3, .int v6), (0, .ref l0), (2, .int l2)] dX9_readRow_51 rfl rfl (Nat.le_of_ble_eq_true rfl) rfl ?_
      refine eg_goto 33 dX9_readRow_54 rfl ?_
      exact eg_sub [2, 3, 1, 0] [(0, .ref l0), (2, .int l2), (3, .int v6), (4, .int (l4 + (1 : Int32)))] rfl (hrec h l0 l2 v6 (l4 + (1 : Int32)) hF)
def fX9_readRow (h : eg_H) (l0 : Nat) (l1 : Int32) (l2 : Int32) : Option (Int32 × eg_H) :=
  if eg_isO h 9 l0 then (
    if l2 ≤ 0 then
      (some ((0 : Int32), h))
    else
      (eg_gR h 9 1 l0).bind fun p2 =>
      (eg_al h p2).bind fun v4 =>
      if v4 < l2 then
        (some ((0 : Int32), h))
      else
        (eg_gR h 9 1 l0).bind fun p7 =>
        (fX9_readDigits h l0 l1 p7 l2).bind fun ⟨v10, h9⟩ =>
        if v10 = 0 then
          (some ((0 : Int32), h9))
        else
          (fX9_readRow_L33 eg_F h9 l0 l2 (0 : Int32) (0 : Int32)).bind fun e =>
          match e with
          | (v15, v16, h17) =>
            if v16 = (((1 : Int32) <<< (v15 &&& 31)) - (1 : Int32)) then
              (some ((1 : Int32), h17))
            else
              some ((0 : Int32), h17)) else none
theorem fX9_readRow_O {h : eg_H} {l0 : Nat} {l1 : Int32} {l2 : Int32} {rE : Int32} {hE : eg_H} (hF : fX9_readRow h l0 l1 l2 = some (rE, hE)) : eg_isO h 9 l0 := (eg_ifn hF).1
set_option maxRecDepth 20000 in
theorem mX9_readRow {h : eg_H} {l0 : Nat} {l1 : Int32} {l2 : Int32} {rE : Int32} {hE : eg_H} (hF : fX9_readRow h l0 l1 l2 = some (rE, hE)) : eg_Met yX9_readRow cX9_readRow 5 (some .boolean) 2 [.ref l0, .int l1, .int l2] h (some (.int rE)) hE := by
  refine eg_enter rfl (Nat.le_of_ble_eq_true rfl) ?_
  show eg_AW (RX9, cX9_readRow, 5, 2, none, "readRow", (some .boolean)) (eg_Zm (some (.int rE)) hE h) (eg_nc hE) (eg_ns hE) h 0 [(0, .ref l0), (1, .int l1), (2, .int l2)] [] h
  replace hF := (eg_ifn hF).2
  refine eg_iload_n (i := 2) 2 dX9_readRow_0 rfl rfl ?_
  refine eg_if_le 26 dX9_readRow_1 rfl (fun c1 => ?_) (fun c1 => ?_)
  · replace hF := eg_it c1 hF
    refine eg_iconst (v := (0 : Int32)) dX9_readRow_26 (by decide) ?_
    exact eg_zretE dX9_readRow_27 (Or.inl rfl) hF
  · replace hF := eg_if c1 hF
    refine eg_iload_n (i := 2) 2 dX9_readRow_4 rfl rfl ?_
    refine eg_aload_n (i := 0) 0 dX9_readRow_5 rfl rfl ?_
    replace hF := eg_bind hF; obtain ⟨p2, e3, hF⟩ := hF
    refine eg_getR dX9_readRow_6 e3 (Nat.le_of_ble_eq_true rfl) (Nat.le_of_ble_eq_true rfl) rfl ew_319 ?_
    replace hF := eg_bind hF; obtain ⟨v4, e5, hF⟩ := hF
    refine eg_alen dX9_readRow_9 e5 ?_
    refine eg_ic_gt 26 dX9_readRow_10 rfl (fun c6 => ?_) (fun c6 => ?_)
    · replace hF := eg_it c6 hF
      refine eg_iconst (v := (0 : Int32)) dX9_readRow_26 (by decide) ?_
      exact eg_zretE dX9_readRow_27 (Or.inl rfl) hF
    · replace hF := eg_if c6 hF
      refine eg_aload_n (i := 0) 0 dX9_readRow_13 rfl rfl ?_
      refine eg_iload_n (i := 1) 1 dX9_readRow_14 rfl rfl ?_
      refine eg_aload_n (i := 0) 0 dX9_readRow_15 rfl rfl ?_
      replace hF := eg_bind hF; obtain ⟨p7, e8, hF⟩ := hF
      refine eg_getR dX9_readRow_16 e8 (Nat.le_of_ble_eq_true rfl) (Nat.le_of_ble_eq_true rfl) rfl ew_319 ?_
      refine eg_iload_n (i := 2) 2 dX9_readRow_19 rfl rfl ?_
      replace hF := eg_bind hF; obtain ⟨⟨v10, h9⟩, e11, hF⟩ := hF
      refine eg_callV (c := 9) (n := 3) [.int l1, .ref p7, .int l2] dX9_readRow_20 (mX9_readDigits e11) rfl (fX9_readDigits_O e11) (Nat.le_of_ble_eq_true rfl) rfl ew_1144 ew_1146 ew_38 ew_109 ew_1147 hy_X9_readDigits rfl (Nat.le_of_ble_eq_true rfl) (Nat.le_of_ble_eq_true rfl) (Nat.le_of_ble_eq_true rfl) ?_
      refine eg_if_ne 28 dX9_readRow_23 rfl (fun c12 => ?_) (fun c12 => ?_)
      · replace hF := eg_it c12 hF
        refine eg_iconst (v := (0 : Int32)) dX9_readRow_26 (by decide) ?_
        exact eg_zretE dX9_readRow_27 (Or.inl rfl) hF
      · replace hF := eg_if c12 hF
        refine eg_iconst (v := (0 : Int32)) dX9_readRow_28 (by decide) ?_
        refine eg_istore_n (i := 3) [(3, .int (0 : Int32)), (0, .ref l0), (1, .int l1), (2, .int l2)] dX9_readRow_29 rfl (Nat.le_of_ble_eq_true rfl) rfl ?_
        refine eg_iconst (v := (0 : Int32)) dX9_readRow_30 (by decide) ?_
        refine eg_istore (i := 4) [(4, .int (0 : Int32)), (3, .int (0 : Int32)), (0, .ref l0), (1, .int l1), (2, .int l2)] dX9_readRow_31 (Nat.le_of_ble_eq_true rfl) rfl ?_
        replace hF := eg_bind hF; obtain ⟨x14, e13, hF⟩ := hF
        refine eg_sub [2, 4, 1, 0] [(0, .ref l0), (2, .int l2), (3, .int (0 : Int32)), (4, .int (0 : Int32))] rfl (fX9_readRow_L33_ok eg_F h9 l0 l2 (0 : Int32) (0 : Int32) x14 e13 ?_)
        · intro v15 v16 h17 e19
          subst e19
          refine eg_iload_n (i := 3) 1 dX9_readRow_57 rfl rfl ?_
          refine eg_iconst (v := (1 : Int32)) dX9_readRow_58 (by decide) ?_
          refine eg_iload_n (i := 2) 0 dX9_readRow_59 rfl rfl ?_
          refine eg_ishl dX9_readRow_60 ?_
          refine eg_iconst (v := (1 : Int32)) dX9_readRow_61 (by decide) ?_
          refine eg_isub dX9_readRow_62 ?_
          refine eg_ic_ne 70 dX9_readRow_63 rfl (fun c18 => ?_) (fun c18 => ?_)
          · replace hF := eg_it c18 hF
            refine eg_iconst (v := (1 : Int32)) dX9_readRow_66 (by decide) ?_
            refine eg_goto 71 dX9_readRow_67 rfl ?_
            exact eg_zretE dX9_readRow_71 (Or.inr rfl) hF
          · replace hF := eg_if c18 hF
            refine eg_iconst (v := (0 : Int32)) dX9_readRow_70 (by decide) ?_
            exact eg_zretE dX9_readRow_71 (Or.inl rfl) hF
theorem dX9_placed_0 : decode cX9_placed 0 = .ok (.iload_n 1, 1) := by decide +kernel
theorem dX9_placed_1 : decode cX9_placed 1 = .ok (.ifCond .lt 12, 3) := by decide +kernel
theorem dX9_placed_4 : decode cX9_placed 4 = .ok (.iload_n 1, 1) := by decide +kernel
theorem dX9_placed_5 : decode cX9_placed 5 = .ok (.aload_n 0, 1) := by decide +kernel
theorem dX9_placed_6 : decode cX9_placed 6 = .ok (.getfield 15, 3) := by decide +kernel
theorem dX9_placed_9 : decode cX9_placed 9 = .ok (.arraylength, 1) := by decide +kernel
theorem dX9_placed_10 : decode cX9_placed 10 = .ok (.if_icmp .lt 7, 3) := by decide +kernel
theorem dX9_placed_13 : decode cX9_placed 13 = .ok (.iconst 0, 1) := by decide +kernel
theorem dX9_placed_14 : decode cX9_placed 14 = .ok (.goto 9, 3) := by decide +kernel
theorem dX9_placed_17 : decode cX9_placed 17 = .ok (.aload_n 0, 1) := by decide +kernel
theorem dX9_placed_18 : decode cX9_placed 18 = .ok (.getfield 15, 3) := by decide +kernel
theorem dX9_placed_21 : decode cX9_placed 21 = .ok (.iload_n 1, 1) := by decide +kernel
theorem dX9_placed_22 : decode cX9_placed 22 = .ok (.iaload, 1) := by decide +kernel
theorem dX9_placed_23 : decode cX9_placed 23 = .ok (.ireturn, 1) := by decide +kernel
def fX9_placed (h : eg_H) (l0 : Nat) (l1 : Int32) : Option (Int32 × eg_H) :=
  if eg_isO h 9 l0 then (
    if l1 < 0 then
      (some ((0 : Int32), h))
    else
      (eg_gR h 9 1 l0).bind fun p2 =>
      (eg_al h p2).bind fun v4 =>
      if l1 < v4 then
        ((eg_gR h 9 1 l0).bind fun p7 =>
        (eg_aI h 100 p7 l1).bind fun v9 =>
        some (v9, h))
      else
        some ((0 : Int32), h)) else none
theorem fX9_placed_O {h : eg_H} {l0 : Nat} {l1 : Int32} {rE : Int32} {hE : eg_H} (hF : fX9_placed h l0 l1 = some (rE, hE)) : eg_isO h 9 l0 := (eg_ifn hF).1
set_option maxRecDepth 20000 in
theorem mX9_placed {h : eg_H} {l0 : Nat} {l1 : Int32} {rE : Int32} {hE : eg_H} (hF : fX9_placed h l0 l1 = some (rE, hE)) : eg_Met yX9_placed cX9_placed 2 (some .int) 1 [.ref l0, .int l1] h (some (.int rE)) hE := by
  refine eg_enter rfl (Nat.le_of_ble_eq_true rfl) ?_
  show eg_AW (RX9, cX9_placed, 2, 1, none, "placed", (some .int)) (eg_Zm (some (.int rE)) hE h) (eg_nc hE) (eg_ns hE) h 0 [(0, .ref l0), (1, .int l1)] [] h
  replace hF := (eg_ifn hF).2
  refine eg_iload_n (i := 1) 1 dX9_placed_0 rfl rfl ?_
  refine eg_if_lt 13 dX9_placed_1 rfl (fun c1 => ?_) (fun c1 => ?_)
  · replace hF := eg_it c1 hF
    refine eg_iconst (v := (0 : Int32)) dX9_placed_13 (by decide) ?_
    refine eg_goto 23 dX9_placed_14 rfl ?_
    exact eg_iretE dX9_placed_23 hF
  · replace hF := eg_if c1 hF
    refine eg_iload_n (i := 1) 1 dX9_placed_4 rfl rfl ?_
    refine eg_aload_n (i := 0) 0 dX9_placed_5 rfl rfl ?_
    replace hF := eg_bind hF; obtain ⟨p2, e3, hF⟩ := hF
    refine eg_getR dX9_placed_6 e3 (Nat.le_of_ble_eq_true rfl) (Nat.le_of_ble_eq_true rfl) rfl ew_319 ?_
    replace hF := eg_bind hF; obtain ⟨v4, e5, hF⟩ := hF
    refine eg_alen dX9_placed_9 e5 ?_
    refine eg_ic_lt 17 dX9_placed_10 rfl (fun c6 => ?_) (fun c6 => ?_)
    · replace hF := eg_it c6 hF
      refine eg_aload_n (i := 0) 0 dX9_placed_17 rfl rfl ?_
      replace hF := eg_bind hF; obtain ⟨p7, e8, hF⟩ := hF
      refine eg_getR dX9_placed_18 e8 (Nat.le_of_ble_eq_true rfl) (Nat.le_of_ble_eq_true rfl) rfl ew_319 ?_
      refine eg_iload_n (i := 1) 1 dX9_placed_21 rfl rfl ?_
      replace hF := eg_bind hF; obtain ⟨v9, e10, hF⟩ := hF
      refine eg_iald dX9_placed_22 e10 ?_
      exact eg_iretE dX9_placed_23 hF
    · replace hF := eg_if c6 hF
      refine eg_iconst (v := (0 : Int32)) dX9_placed_13 (by decide) ?_
      refine eg_goto 23 dX9_placed_14 rfl ?_
      exact eg_iretE dX9_placed_23 hF
theorem dX9_keepGood_0 : decode cX9_keepGood 0 = .ok (.iload_n 1, 1) := by decide +kernel
theorem dX9_keepGood_1 : decode cX9_keepGood 1 = .ok (.bipush 6, 2) := by decide +kernel
theorem dX9_keepGood_3 : decode cX9_keepGood 3 = .ok (.imul, 1) := by decide +kernel
theorem dX9_keepGood_4 : decode cX9_keepGood 4 = .ok (.iload_n 2, 1) := by decide +kernel
theorem dX9_keepGood_5 : decode cX9_keepGood 5 = .ok (.iadd, 1) := by decide +kernel
theorem dX9_keepGood_6 : decode cX9_keepGood 6 = .ok (.istore 5, 2) := by decide +kernel
theorem dX9_keepGood_8 : decode cX9_keepGood 8 = .ok (.iload 5, 2) := by decide +kernel
theorem dX9_keepGood_10 : decode cX9_keepGood 10 = .ok (.ifCond .lt 38, 3) := by decide +kernel
theorem dX9_keepGood_13 : decode cX9_keepGood 13 = .ok (.iload 5, 2) := by decide +kernel
theorem dX9_keepGood_15 : decode cX9_keepGood 15 = .ok (.aload_n 0, 1) := by decide +kernel
theorem dX9_keepGood_16 : decode cX9_keepGood 16 = .ok (.getfield 22, 3) := by decide +kernel
theorem dX9_keepGood_19 : decode cX9_keepGood 19 = .ok (.arraylength, 1) := by decide +kernel
theorem dX9_keepGood_20 : decode cX9_keepGood 20 = .ok (.if_icmp .ge 28, 3) := by decide +kernel
theorem dX9_keepGood_23 : decode cX9_keepGood 23 = .ok (.iload_n 1, 1) := by decide +kernel
theorem dX9_keepGood_24 : decode cX9_keepGood 24 = .ok (.aload_n 0, 1) := by decide +kernel
theorem dX9_keepGood_25 : decode cX9_keepGood 25 = .ok (.getfield 25, 3) := by decide +kernel
theorem dX9_keepGood_28 : decode cX9_keepGood 28 = .ok (.arraylength, 1) := by decide +kernel
theorem dX9_keepGood_29 : decode cX9_keepGood 29 = .ok (.if_icmp .ge 19, 3) := by decide +kernel
theorem dX9_keepGood_32 : decode cX9_keepGood 32 = .ok (.aload_n 0, 1) := by decide +kernel
theorem dX9_keepGood_33 : decode cX9_keepGood 33 = .ok (.getfield 22, 3) := by decide +kernel
theorem dX9_keepGood_36 : decode cX9_keepGood 36 = .ok (.iload 5, 2) := by decide +kernel
theorem dX9_keepGood_38 : decode cX9_keepGood 38 = .ok (.iload_n 3, 1) := by decide +kernel
theorem dX9_keepGood_39 : decode cX9_keepGood 39 = .ok (.iastore, 1) := by decide +kernel
theorem dX9_keepGood_40 : decode cX9_keepGood 40 = .ok (.aload_n 0, 1) := by decide +kernel
theorem dX9_keepGood_41 : decode cX9_keepGood 41 = .ok (.getfield 25, 3) := by decide +kernel
theorem dX9_keepGood_44 : decode cX9_keepGood 44 = .ok (.iload_n 1, 1) := by decide +kernel
theorem dX9_keepGood_45 : decode cX9_keepGood 45 = .ok (.iload 4, 2) := by decide +kernel
theorem dX9_keepGood_47 : decode cX9_keepGood 47 = .ok (.iastore, 1) := by decide +kernel
theorem dX9_keepGood_48 : decode cX9_keepGood 48 = .ok (.return_, 1) := by decide +kernel
def fX9_keepGood (h : eg_H) (l0 : Nat) (l1 : Int32) (l2 : Int32) (l3 : Int32) (l4 : Int32) : Option (eg_H) :=
  if eg_isO h 9 l0 then (
    (some (((l1 * (6 : Int32)) + l2))).bind fun v1 =>
    if v1 < 0 then
      (some h)
    else
      (eg_gR h 9 3 l0).bind fun p4 =>
      (eg_al h p4).bind fun v6 =>
      if v6 ≤ v1 then
        (some h)
      else
        (eg_gR h 9 4 l0).bind fun p9 =>
        (eg_al h p9).bind fun v11 =>
        if v11 ≤ l1 then
          (some h)
        else
          (eg_gR h 9 3 l0).bind fun p14 =>
          (eg_wI h 100 p14 v1 l3).bind fun h16 =>
          (eg_gR h16 9 4 l0).bind fun p18 =>
          (eg_wI h16 100 p18 l1 l4).bind fun h20 =>
          some h20) else none
theorem fX9_keepGood_O {h : eg_H} {l0 : Nat} {l1 : Int32} {l2 : Int32} {l3 : Int32} {l4 : Int32} {hE : eg_H} (hF : fX9_keepGood h l0 l1 l2 l3 l4 = some hE) : eg_isO h 9 l0 := (eg_ifn hF).1
set_option maxRecDepth 20000 in
theorem mX9_keepGood {h : eg_H} {l0 : Nat} {l1 : Int32} {l2 : Int32} {l3 : Int32} {l4 : Int32} {hE : eg_H} (hF : fX9_keepGood h l0 l1 l2 l3 l4 = some hE) : eg_Met yX9_keepGood cX9_keepGood 6 none 1 [.ref l0, .int l1, .int l2, .int l3, .int l4] h none hE := by
  refine eg_enter rfl (Nat.le_of_ble_eq_true rfl) ?_
  show eg_AW (RX9, cX9_keepGood, 6, 1, none, "keepGood", none) (eg_Zm none hE h) (eg_nc hE) (eg_ns hE) h 0 [(0, .ref l0), (1, .int l1), (2, .int l2), (3, .int l3), (4, .int l4)] [] h
  replace hF := (eg_ifn hF).2
  refine eg_iload_n (i := 1) 1 dX9_keepGood_0 rfl rfl ?_
  refine eg_bipush (v := (6 : Int32)) dX9_keepGood_1 (by decide) ?_
  refine eg_imul dX9_keepGood_3 ?_
  refine eg_iload_n (i := 2) 2 dX9_keepGood_4 rfl rfl ?_
  refine eg_iadd dX9_keepGood_5 ?_
  replace hF := eg_bind hF; obtain ⟨v1, e2, hF⟩ := hF
  replace e2 := Option.some.inj e2
  rw [e2]
  refine eg_istore (i := 5) [(5, .int v1), (0, .ref l0), (1, .int l1), (2, .int l2), (3, .int l3), (4, .int l4)] dX9_keepGood_6 (Nat.le_of_ble_eq_true rfl) rfl ?_
  refine eg_iload (i := 5) 0 dX9_keepGood_8 rfl ?_
  refine eg_if_lt 48 dX9_keepGood_10 rfl (fun c3 => ?_) (fun c3 => ?_)
  · replace hF := eg_it c3 hF
    exact eg_vretE dX9_keepGood_48 hF
  · replace hF := eg_if c3 hF
    refine eg_iload (i := 5) 0 dX9_keepGood_13 rfl ?_
    refine eg_aload_n (i := 0) 1 dX9_keepGood_15 rfl rfl ?_
    replace hF := eg_bind hF; obtain ⟨p4, e5, hF⟩ := hF
    refine eg_getR dX9_keepGood_16 e5 (Nat.le_of_ble_eq_true rfl) (Nat.le_of_ble_eq_true rfl) rfl ew_321 ?_
    replace hF := eg_bind hF; obtain ⟨v6, e7, hF⟩ := hF
    refine eg_alen dX9_keepGood_19 e7 ?_
    refine eg_ic_ge 48 dX9_keepGood_20 rfl (fun c8 => ?_) (fun c8 => ?_)
    · replace hF := eg_it c8 hF
      exact eg_vretE dX9_keepGood_48 hF
    · replace hF := eg_if c8 hF
      refine eg_iload_n (i := 1) 2 dX9_keepGood_23 rfl rfl ?_
      refine eg_aload_n (i := 0) 1 dX9_keepGood_24 rfl rfl ?_
      replace hF := eg_bind hF; obtain ⟨p9, e10, hF⟩ := hF
      refine eg_getR dX9_keepGood_25 e10 (Nat.le_of_ble_eq_true rfl) (Nat.le_of_ble_eq_true rfl) rfl ew_322 ?_
      replace hF := eg_bind hF; obtain ⟨v11, e12, hF⟩ := hF
      refine eg_alen dX9_keepGood_28 e12 ?_
      refine eg_ic_ge 48 dX9_keepGood_29 rfl (fun c13 => ?_) (fun c13 => ?_)
      · replace hF := eg_it c13 hF
        exact eg_vretE dX9_keepGood_48 hF
      · replace hF := eg_if c13 hF
        refine eg_aload_n (i := 0) 1 dX9_keepGood_32 rfl rfl ?_
        replace hF := eg_bind hF; obtain ⟨p14, e15, hF⟩ := hF
        refine eg_getR dX9_keepGood_33 e15 (Nat.le_of_ble_eq_true rfl) (Nat.le_of_ble_eq_true rfl) rfl ew_321 ?_
        refine eg_iload (i := 5) 0 dX9_keepGood_36 rfl ?_
        refine eg_iload_n (i := 3) 4 dX9_keepGood_38 rfl rfl ?_
        replace hF := eg_bind hF; obtain ⟨h16, e17, hF⟩ := hF
        refine eg_iast dX9_keepGood_39 e17 ?_
        refine eg_aload_n (i := 0) 1 dX9_keepGood_40 rfl rfl ?_
        replace hF := eg_bind hF; obtain ⟨p18, e19, hF⟩ := hF
        refine eg_getR dX9_keepGood_41 e19 (Nat.le_of_ble_eq_true rfl) (Nat.le_of_ble_eq_true rfl) rfl ew_322 ?_
        refine eg_iload_n (i := 1) 2 dX9_keepGood_44 rfl rfl ?_
        refine eg_iload (i := 4) 5 dX9_keepGood_45 rfl ?_
        replace hF := eg_bind hF; obtain ⟨h20, e21, hF⟩ := hF
        refine eg_iast dX9_keepGood_47 e21 ?_
        exact eg_vretE dX9_keepGood_48 hF
theorem dX9_share_0 : decode cX9_share 0 = .ok (.iload_n 2, 1) := by decide +kernel
theorem dX9_share_1 : decode cX9_share 1 = .ok (.bipush 6, 2) := by decide +kernel
theorem dX9_share_3 : decode cX9_share 3 = .ok (.imul, 1) := by decide +kernel
theorem dX9_share_4 : decode cX9_share 4 = .ok (.iload_n 3, 1) := by decide +kernel
theorem dX9_share_5 : decode cX9_share 5 = .ok (.iadd, 1) := by decide +kernel
theorem dX9_share_6 : decode cX9_share 6 = .ok (.istore 4, 2) := by decide +kernel
theorem dX9_share_8 : decode cX9_share 8 = .ok (.iload_n 2, 1) := by decide +kernel
theorem dX9_share_9 : decode cX9_share 9 = .ok (.ifCond .lt 31, 3) := by decide +kernel
theorem dX9_share_12 : decode cX9_share 12 = .ok (.iload_n 2, 1) := by decide +kernel
theorem dX9_share_13 : decode cX9_share 13 = .ok (.aload_n 0, 1) := by decide +kernel
theorem dX9_share_14 : decode cX9_share 14 = .ok (.getfield 25, 3) := by decide +kernel
theorem dX9_share_17 : decode cX9_share 17 = .ok (.arraylength, 1) := by decide +kernel
theorem dX9_share_18 : decode cX9_share 18 = .ok (.if_icmp .ge 22, 3) := by decide +kernel
theorem dX9_share_21 : decode cX9_share 21 = .ok (.iload 4, 2) := by decide +kernel
theorem dX9_share_23 : decode cX9_share 23 = .ok (.aload_n 0, 1) := by decide +kernel
theorem dX9_share_24 : decode cX9_share 24 = .ok (.getfield 22, 3) := by decide +kernel
theorem dX9_share_27 : decode cX9_share 27 = .ok (.arraylength, 1) := by decide +kernel
theorem dX9_share_28 : decode cX9_share 28 = .ok (.if_icmp .ge 12, 3) := by decide +kernel
theorem dX9_share_31 : decode cX9_share 31 = .ok (.aload_n 0, 1) := by decide +kernel
theorem dX9_share_32 : decode cX9_share 32 = .ok (.getfield 25, 3) := by decide +kernel
theorem dX9_share_35 : decode cX9_share 35 = .ok (.iload_n 2, 1) := by decide +kernel
theorem dX9_share_36 : decode cX9_share 36 = .ok (.iaload, 1) := by decide +kernel
theorem dX9_share_37 : decode cX9_share 37 = .ok (.ifCond .gt 5, 3) := by decide +kernel
theorem dX9_share_40 : decode cX9_share 40 = .ok (.iconst 0, 1) := by decide +kernel
theorem dX9_share_41 : decode cX9_share 41 = .ok (.ireturn, 1) := by decide +kernel
theorem dX9_share_42 : decode cX9_share 42 = .ok (.iload_n 1, 1) := by decide +kernel
theorem dX9_share_43 : decode cX9_share 43 = .ok (.i2l, 1) := by decide +kernel
theorem dX9_share_44 : decode cX9_share 44 = .ok (.aload_n 0, 1) := by decide +kernel
theorem dX9_share_45 : decode cX9_share 45 = .ok (.getfield 22, 3) := by decide +kernel
theorem dX9_share_48 : decode cX9_share 48 = .ok (.iload 4, 2) := by decide +kernel
theorem dX9_share_50 : decode cX9_share 50 = .ok (.iaload, 1) := by decide +kernel
theorem dX9_share_51 : decode cX9_share 51 = .ok (.i2l, 1) := by decide +kernel
theorem dX9_share_52 : decode cX9_share 52 = .ok (.lmul, 1) := by decide +kernel
theorem dX9_share_53 : decode cX9_share 53 = .ok (.aload_n 0, 1) := by decide +kernel
theorem dX9_share_54 : decode cX9_share 54 = .ok (.getfield 25, 3) := by decide +kernel
theorem dX9_share_57 : decode cX9_share 57 = .ok (.iload_n 2, 1) := by decide +kernel
theorem dX9_share_58 : decode cX9_share 58 = .ok (.iaload, 1) := by decide +kernel
theorem dX9_share_59 : decode cX9_share 59 = .ok (.i2l, 1) := by decide +kernel
theorem dX9_share_60 : decode cX9_share 60 = .ok (.ldiv, 1) := by decide +kernel
theorem dX9_share_61 : decode cX9_share 61 = .ok (.l2i, 1) := by decide +kernel
theorem dX9_share_62 : decode cX9_share 62 = .ok (.ireturn, 1) := by decide +kernel
def fX9_share (h : eg_H) (l0 : Nat) (l1 : Int32) (l2 : Int32) (l3 : Int32) : Option (Int32 × eg_H) :=
  if eg_isO h 9 l0 then (
    (some (((l2 * (6 : Int32)) + l3))).bind fun v1 =>
    if l2 < 0 then
      (some ((0 : Int32), h))
    else
      (eg_gR h 9 4 l0).bind fun p4 =>
      (eg_al h p4).bind fun v6 =>
      if v6 ≤ l2 then
        (some ((0 : Int32), h))
      else
        (eg_gR h 9 3 l0).bind fun p9 =>
        (eg_al h p9).bind fun v11 =>
        if v11 ≤ v1 then
          (some ((0 : Int32), h))
        else
          (eg_gR h 9 4 l0).bind fun p14 =>
          (eg_aI h 100 p14 l2).bind fun v16 =>
          if 0 < v16 then
            ((eg_gR h 9 3 l0).bind fun p19 =>
            (eg_aI h 100 p19 v1).bind fun v21 =>
            (eg_gR h 9 4 l0).bind fun p23 =>
            (eg_aI h 100 p23 l2).bind fun v25 =>
            if v25.toInt64 = 0 then none else
            some (((l1.toInt64 * v21.toInt64) / v25.toInt64).toInt32, h))
          else
            some ((0 : Int32), h)) else none
theorem fX9_share_O {h : eg_H} {l0 : Nat} {l1 : Int32} {l2 : Int32} {l3 : Int32} {rE : Int32} {hE : eg_H} (hF : fX9_share h l0 l1 l2 l3 = some (rE, hE)) : eg_isO h 9 l0 := (eg_ifn hF).1
set_option maxRecDepth 20000 in
theorem mX9_share {h : eg_H} {l0 : Nat} {l1 : Int32} {l2 : Int32} {l3 : Int32} {rE : Int32} {hE : eg_H} (hF : fX9_share h l0 l1 l2 l3 = some (rE, hE)) : eg_Met yX9_share cX9_share 5 (some .int) 1 [.ref l0, .int l1, .int l2, .int l3] h (some (.int rE)) hE := by
  refine eg_enter rfl (Nat.le_of_ble_eq_true rfl) ?_
  show eg_AW (RX9, cX9_share, 5, 1, none, "share", (some .int)) (eg_Zm (some (.int rE)) hE h) (eg_nc hE) (eg_ns hE) h 0 [(0, .ref l0), (1, .int l1), (2, .int l2), (3, .int l3)] [] h
  replace hF := (eg_ifn hF).2
  refine eg_iload_n (i := 2) 2 dX9_share_0 rfl rfl ?_
  refine eg_bipush (v := (6 : Int32)) dX9_share_1 (by decide) ?_
  refine eg_imul dX9_share_3 ?_
  refine eg_iload_n (i := 3) 3 dX9_share_4 rfl rfl ?_
  refine eg_iadd dX9_share_5 ?_
  replace hF := eg_bind hF; obtain ⟨v1, e2, hF⟩ := hF
  replace e2 := Option.some.inj e2
  rw [e2]
  refine eg_istore (i := 4) [(4, .int v1), (0, .ref l0), (1, .int l1), (2, .int l2), (3, .int l3)] dX9_share_6 (Nat.le_of_ble_eq_true rfl) rfl ?_
  refine eg_iload_n (i := 2) 3 dX9_share_8 rfl rfl ?_
  refine eg_if_lt 40 dX9_share_9 rfl (fun c3 => ?_) (fun c3 => ?_)
  · replace hF := eg_it c3 hF
    refine eg_iconst (v := (0 : Int32)) dX9_share_40 (by decide) ?_
    exact eg_iretE dX9_share_41 hF
  · replace hF := eg_if c3 hF
    refine eg_iload_n (i := 2) 3 dX9_share_12 rfl rfl ?_
    refine eg_aload_n (i := 0) 1 dX9_share_13 rfl rfl ?_
    replace hF := eg_bind hF; obtain ⟨p4, e5, hF⟩ := hF
    refine eg_getR dX9_share_14 e5 (Nat.le_of_ble_eq_true rfl) (Nat.le_of_ble_eq_true rfl) rfl ew_322 ?_
    replace hF := eg_bind hF; obtain ⟨v6, e7, hF⟩ := hF
    refine eg_alen dX9_share_17 e7 ?_
    refine eg_ic_ge 40 dX9_share_18 rfl (fun c8 => ?_) (fun c8 => ?_)
    · replace hF := eg_it c8 hF
      refine eg_iconst (v := (0 : Int32)) dX9_share_40 (by decide) ?_
      exact eg_iretE dX9_share_41 hF
    · replace hF := eg_if c8 hF
      refine eg_iload (i := 4) 0 dX9_share_21 rfl ?_
      refine eg_aload_n (i := 0) 1 dX9_share_23 rfl rfl ?_
      replace hF := eg_bind hF; obtain ⟨p9, e10, hF⟩ := hF
      refine eg_getR dX9_share_24 e10 (Nat.le_of_ble_eq_true rfl) (Nat.le_of_ble_eq_true rfl) rfl ew_321 ?_
      replace hF := eg_bind hF; obtain ⟨v11, e12, hF⟩ := hF
      refine eg_alen dX9_share_27 e12 ?_
      refine eg_ic_ge 40 dX9_share_28 rfl (fun c13 => ?_) (fun c13 => ?_)
      · replace hF := eg_it c13 hF
        refine eg_iconst (v := (0 : Int32)) dX9_share_40 (by decide) ?_
        exact eg_iretE dX9_share_41 hF
      · replace hF := eg_if c13 hF
        refine eg_aload_n (i := 0) 1 dX9_share_31 rfl rfl ?_
        replace hF := eg_bind hF; obtain ⟨p14, e15, hF⟩ := hF
        refine eg_getR dX9_share_32 e15 (Nat.le_of_ble_eq_true rfl) (Nat.le_of_ble_eq_true rfl) rfl ew_322 ?_
        refine eg_iload_n (i := 2) 3 dX9_share_35 rfl rfl ?_
        replace hF := eg_bind hF; obtain ⟨v16, e17, hF⟩ := hF
        refine eg_iald dX9_share_36 e17 ?_
        refine eg_if_gt 42 dX9_share_37 rfl (fun c18 => ?_) (fun c18 => ?_)
        · replace hF := eg_it c18 hF
          refine eg_iload_n (i := 1) 2 dX9_share_42 rfl rfl ?_
          refine eg_i2l dX9_share_43 ?_
          refine eg_aload_n (i := 0) 1 dX9_share_44 rfl rfl ?_
          replace hF := eg_bind hF; obtain ⟨p19, e20, hF⟩ := hF
          refine eg_getR dX9_share_45 e20 (Nat.le_of_ble_eq_true rfl) (Nat.le_of_ble_eq_true rfl) rfl ew_321 ?_
          refine eg_iload (i := 4) 0 dX9_share_48 rfl ?_
          replace hF := eg_bind hF; obtain ⟨v21, e22, hF⟩ := hF
          refine eg_iald dX9_share_50 e22 ?_
          refine eg_i2l dX9_share_51 ?_
          refine eg_lmul dX9_share_52 ?_
          refine eg_aload_n (i := 0) 1 dX9_share_53 rfl rfl ?_
          replace hF := eg_bind hF; obtain ⟨p23, e24, hF⟩ := hF
          refine eg_getR dX9_share_54 e24 (Nat.le_of_ble_eq_true rfl) (Nat.le_of_ble_eq_true rfl) rfl ew_322 ?_
          refine eg_iload_n (i := 2) 3 dX9_share_57 rfl rfl ?_
          replace hF := eg_bind hF; obtain ⟨v25, e26, hF⟩ := hF
          refine eg_iald dX9_share_58 e26 ?_
          refine eg_i2l dX9_share_59 ?_
          replace hF := eg_nif hF; obtain ⟨c27, hF⟩ := hF
          refine eg_ldiv dX9_share_60 c27 ?_
          refine eg_l2i dX9_share_61 ?_
          exact eg_iretE dX9_share_62 hF
        · replace hF := eg_if c18 hF
          refine eg_iconst (v := (0 : Int32)) dX9_share_40 (by decide) ?_
          exact eg_iretE dX9_share_41 hF
theorem dX9_place_0 : decode cX9_place 0 = .ok (.iload 4, 2) := by decide +kernel
theorem dX9_place_2 : decode cX9_place 2 = .ok (.aload_n 0, 1) := by decide +kernel
theorem dX9_place_3 : decode cX9_place 3 = .ok (.getfield 45, 3) := by decide +kernel
theorem dX9_place_6 : decode cX9_place 6 = .ok (.if_icmp .gt 4, 3) := by decide +kernel
theorem dX9_place_9 : decode cX9_place 9 = .ok (.return_, 1) := by decide +kernel
theorem dX9_place_10 : decode cX9_place 10 = .ok (.iload_n 1, 1) := by decide +kernel
theorem dX9_place_11 : decode cX9_place 11 = .ok (.aload_n 0, 1) := by decide +kernel
theorem dX9_place_12 : decode cX9_place 12 = .ok (.getfield 31, 3) := by decide +kernel
theorem dX9_place_15 : decode cX9_place 15 = .ok (.if_icmp .lt 15, 3) := by decide +kernel
theorem dX9_place_18 : decode cX9_place 18 = .ok (.aload_n 0, 1) := by decide +kernel
theorem dX9_place_19 : decode cX9_place 19 = .ok (.iload 4, 2) := by decide +kernel
theorem dX9_place_21 : decode cX9_place 21 = .ok (.putfield 45, 3) := by decide +kernel
theorem dX9_place_24 : decode cX9_place 24 = .ok (.aload_n 0, 1) := by decide +kernel
theorem dX9_place_25 : decode cX9_place 25 = .ok (.iload_n 3, 1) := by decide +kernel
theorem dX9_place_26 : decode cX9_place 26 = .ok (.putfield 42, 3) := by decide +kernel
theorem dX9_place_29 : decode cX9_place 29 = .ok (.return_, 1) := by decide +kernel
theorem dX9_place_30 : decode cX9_place 30 = .ok (.aload_n 0, 1) := by decide +kernel
theorem dX9_place_31 : decode cX9_place 31 = .ok (.getfield 38, 3) := by decide +kernel
theorem dX9_place_34 : decode cX9_place 34 = .ok (.ifCond .eq 10, 3) := by decide +kernel
theorem dX9_place_37 : decode cX9_place 37 = .ok (.iload_n 3, 1) := by decide +kernel
theorem dX9_place_38 : decode cX9_place 38 = .ok (.bipush 10, 2) := by decide +kernel
theorem dX9_place_40 : decode cX9_place 40 = .ok (.irem, 1) := by decide +kernel
theorem dX9_place_41 : decode cX9_place 41 = .ok (.goto 4, 3) := by decide +kernel
theorem dX9_place_44 : decode cX9_place 44 = .ok (.iload_n 1, 1) := by decide +kernel
theorem dX9_place_45 : decode cX9_place 45 = .ok (.istore 5, 2) := by decide +kernel
theorem dX9_place_47 : decode cX9_place 47 = .ok (.iconst 0, 1) := by decide +kernel
theorem dX9_place_48 : decode cX9_place 48 = .ok (.istore 6, 2) := by decide +kernel
theorem dX9_place_50 : decode cX9_place 50 = .ok (.iload 6, 2) := by decide +kernel
theorem dX9_place_52 : decode cX9_place 52 = .ok (.aload_n 0, 1) := by decide +kernel
theorem dX9_place_53 : decode cX9_place 53 = .ok (.getfield 35, 3) := by decide +kernel
theorem dX9_place_56 : decode cX9_place 56 = .ok (.if_icmp .ge 76, 3) := by decide +kernel
theorem dX9_place_59 : decode cX9_place 59 = .ok (.iload_n 2, 1) := by decide +kernel
theorem dX9_place_60 : decode cX9_place 60 = .ok (.iload 6, 2) := by decide +kernel
theorem dX9_place_62 : decode cX9_place 62 = .ok (.ishr, 1) := by decide +kernel
theorem dX9_place_63 : decode cX9_place 63 = .ok (.iconst 1, 1) := by decide +kernel
theorem dX9_place_64 : decode cX9_place 64 = .ok (.iand, 1) := by decide +kernel
theorem dX9_place_65 : decode cX9_place 65 = .ok (.ifCond .ne 61, 3) := by decide +kernel
theorem dX9_place_68 : decode cX9_place 68 = .ok (.aload_n 0, 1) := by decide +kernel
theorem dX9_place_69 : decode cX9_place 69 = .ok (.getfield 38, 3) := by decide +kernel
theorem dX9_place_72 : decode cX9_place 72 = .ok (.ifCond .eq 11, 3) := by decide +kernel
theorem dX9_place_75 : decode cX9_place 75 = .ok (.iload_n 1, 1) := by decide +kernel
theorem dX9_place_76 : decode cX9_place 76 = .ok (.ifCond .ne 7, 3) := by decide +kernel
theorem dX9_place_79 : decode cX9_place 79 = .ok (.iconst 1, 1) := by decide +kernel
theorem dX9_place_80 : decode cX9_place 80 = .ok (.goto 4, 3) := by decide +kernel
theorem dX9_place_83 : decode cX9_place 83 = .ok (.iconst 0, 1) := by decide +kernel
theorem dX9_place_84 : decode cX9_place 84 = .ok (.istore 7, 2) := by decide +kernel
theorem dX9_place_86 : decode cX9_place 86 = .ok (.aload_n 0, 1) := by decide +kernel
theorem dX9_place_87 : decode cX9_place 87 = .ok (.iload_n 1, 1) := by decide +kernel
theorem dX9_place_88 : decode cX9_place 88 = .ok (.iconst 1, 1) := by decide +kernel
theorem dX9_place_89 : decode cX9_place 89 = .ok (.iadd, 1) := by decide +kernel
theorem dX9_place_90 : decode cX9_place 90 = .ok (.iload_n 2, 1) := by decide +kernel
theorem dX9_place_91 : decode cX9_place 91 = .ok (.iconst 1, 1) := by decide +kernel
theorem dX9_place_92 : decode cX9_place 92 = .ok (.iload 6, 2) := by decide +kernel
theorem dX9_place_94 : decode cX9_place 94 = .ok (.ishl, 1) := by decide +kernel
theorem dX9_place_95 : decode cX9_place 95 = .ok (.ior, 1) := by decide +kernel
theorem dX9_place_96 : decode cX9_place 96 = .ok (.bipush 10, 2) := by decide +kernel
theorem dX9_place_98 : decode cX9_place 98 = .ok (.iload_n 3, 1) := by decide +kernel
theorem dX9_place_99 : decode cX9_place 99 = .ok (.imul, 1) := by decide +kernel
theorem dX9_place_100 : decode cX9_place 100 = .ok (.iload 6, 2) := by decide +kernel
theorem dX9_place_102 : decode cX9_place 102 = .ok (.iadd, 1) := by decide +kernel
theorem dX9_place_103 : decode cX9_place 103 = .ok (.iload 7, 2) := by decide +kernel
theorem dX9_place_105 : decode cX9_place 105 = .ok (.ifCond .eq 8, 3) := by decide +kernel
theorem dX9_place_108 : decode cX9_place 108 = .ok (.iload 4, 2) := by decide +kernel
theorem dX9_place_110 : decode cX9_place 110 = .ok (.goto 13, 3) := by decide +kernel
theorem dX9_place_113 : decode cX9_place 113 = .ok (.aload_n 0, 1) := by decide +kernel
theorem dX9_place_114 : decode cX9_place 114 = .ok (.iload 4, 2) := by decide +kernel
theorem dX9_place_116 : decode cX9_place 116 = .ok (.iload 5, 2) := by decide +kernel
theorem dX9_place_118 : decode cX9_place 118 = .ok (.iload 6, 2) := by decide +kernel
theorem dX9_place_120 : decode cX9_place 120 = .ok (.invokevirtual 75, 3) := by decide +kernel
theorem dX9_place_123 : decode cX9_place 123 = .ok (.invokevirtual 71, 3) := by decide +kernel
theorem dX9_place_126 : decode cX9_place 126 = .ok (.iinc 6 1, 3) := by decide +kernel
theorem dX9_place_129 : decode cX9_place 129 = .ok (.goto (-79), 3) := by decide +kernel
theorem dX9_place_132 : decode cX9_place 132 = .ok (.return_, 1) := by decide +kernel
def fX9_place_j84 (rc : eg_H → Nat → Int32 → Int32 → Int32 → Int32 → Option (eg_H)) (rec : eg_H → Nat → Int32 → Int32 → Int32 → Int32 → Int32 → Int32 → Option (eg_H)) (h : eg_H) (l0 : Nat) (l1 : Int32) (l2 : Int32) (l3 : Int32) (l4 : Int32) (l5 : Int32) (l6 : Int32) (s0 : Int32) : Option (eg_H) :=
  if s0 = 0 then
    ((fX9_share h l0 l4 l5 l6).bind fun ⟨v3, h2⟩ =>
    if eg_isO h2 9 l0 then (
    (rc h2 l0 (l1 + (1 : Int32)) (l2 ||| ((1 : Int32) <<< (l6 &&& 31))) (((10 : Int32) * l3) + l6) v3).bind fun h5 =>
    rec h5 l0 l1 l2 l3 l4 l5 (l6 + (1 : Int32))) else none)
  else
    if eg_isO h 9 l0 then (
    (rc h l0 (l1 + (1 : Int32)) (l2 ||| ((1 : Int32) <<< (l6 &&& 31))) (((10 : Int32) * l3) + l6) l4).bind fun h8 =>
    rec h8 l0 l1 l2 l3 l4 l5 (l6 + (1 : Int32))) else none
set_option maxRecDepth 20000 in
theorem fX9_place_j84_ok {rc : eg_H → Nat → Int32 → Int32 → Int32 → Int32 → Option (eg_H)} {dr : Nat} (hdr : 1 ≤ dr) (hrc : ∀ (h : eg_H) (a0 : Nat) (a1 : Int32) (a2 : Int32) (a3 : Int32) (a4 : Int32) (hE : eg_H), rc h a0 a1 a2 a3 a4 = some hE → eg_Met yX9_place cX9_place 8 none dr [.ref a0, .int a1, .int a2, .int a3, .int a4] h none hE) {rec : eg_H → Nat → Int32 → Int32 → Int32 → Int32 → Int32 → Int32 → Option (eg_H)} {h0 : eg_H} {Z : eg_C → State → Prop} {N S : Nat} (h : eg_H) (l0 : Nat) (l1 : Int32) (l2 : Int32) (l3 : Int32) (l4 : Int32) (l5 : Int32) (l6 : Int32) (s0 : Int32) (eE : eg_H) (hF : fX9_place_j84 rc rec h l0 l1 l2 l3 l4 l5 l6 s0 = some eE) (hrec : ∀ (h : eg_H) (l0 : Nat) (l1 : Int32) (l2 : Int32) (l3 : Int32) (l4 : Int32) (l5 : Int32) (l6 : Int32), rec h l0 l1 l2 l3 l4 l5 l6 = some eE → eg_AW (RX9, cX9_place, 8, dr + 1, none, "place", none) Z N S h0 50 [(0, .ref l0), (1, .int l1), (2, .int l2), (3, .int l3), (4, .int l4), (5, .int l5), (6, .int l6)] [] h) (hk0 : ∀  (h : eg_H), eE = h → eg_AW (RX9, cX9_place, 8, dr + 1, none, "place", none) Z N S h0 132 [] [] h) : eg_AW (RX9, cX9_place, 8, dr + 1, none, "place", none) Z N S h0 84 [(0, .ref l0), (1, .int l1), (2, .int l2), (3, .int l3), (4, .int l4), (5, .int l5), (6, .int l6)] [.int s0] h := by
  refine eg_istore (i := 7) [(7, .int s0), (0, .ref l0), (1, .int l1), (2, .int l2), (3, .int l3), (4, .int l4), (5, .int l5), (6, .int l6)] dX9_place_84 (Nat.le_of_ble_eq_true rfl) rfl ?_
  refine eg_aload_n (i := 0) 1 dX9_place_86 rfl rfl ?_
  refine eg_iload_n (i := 1) 2 dX9_place_87 rfl rfl ?_
  refine eg_iconst (v := (1 : Int32)) dX9_place_88 (by decide) ?_
  refine eg_iadd dX9_place_89 ?_
  refine eg_iload_n (i := 2) 3 dX9_place_90 rfl rfl ?_
  refine eg_iconst (v := (1 : Int32)) dX9_place_91 (by decide) ?_
  refine eg_iload (i := 6) 7 dX9_place_92 rfl ?_
  refine eg_ishl dX9_place_94 ?_
  refine eg_ior dX9_place_95 ?_
  refine eg_bipush (v := (10 : Int32)) dX9_place_96 (by decide) ?_
  refine eg_iload_n (i := 3) 4 dX9_place_98 rfl rfl ?_
  refine eg_imul dX9_place_99 ?_
  refine eg_iload (i := 6) 7 dX9_place_100 rfl ?_
  refine eg_iadd dX9_place_102 ?_
  refine eg_iload (i := 7) 0 dX9_place_103 rfl ?_
  refine eg_if_eq 113 dX9_place_105 rfl (fun c1 => ?_) (fun c1 => ?_)
  · replace hF := eg_it c1 hF
    refine eg_aload_n (i := 0) 1 dX9_place_113 rfl rfl ?_
    refine eg_iload (i := 4) 5 dX9_place_114 rfl ?_
    refine eg_iload (i := 5) 6 dX9_place_116 rfl ?_
    refine eg_iload (i := 6) 7 dX9_place_118 rfl ?_
    replace hF := eg_bind hF; obtain ⟨⟨v3, h2⟩, e4, hF⟩ := hF
    refine eg_callV (c := 9) (n := 3) [.int l4, .int l5, .int l6] dX9_place_120 (mX9_share e4) rfl (fX9_share_O e4) (Nat.le_of_ble_eq_true rfl) rfl ew_1210 ew_1212 ew_44 ew_109 ew_1213 hy_X9_share rfl (by have := eg_D_eq; omega) (Nat.le_of_ble_eq_true rfl) (Nat.le_of_ble_eq_true rfl) ?_
    replace hF := eg_ifn hF; obtain ⟨c7, hF⟩ := hF
    replace hF := eg_bind hF; obtain ⟨h5, e6, hF⟩ := hF
    refine eg_callV (c := 9) (n := 4) [.int (l1 + (1 : Int32)), .int (l2 ||| ((1 : Int32) <<< (l6 &&& 31))), .int (((10 : Int32) * l3) + l6), .int v3] dX9_place_123 (hrc _ _ _ _ _ _ _ e6) rfl c7 (Nat.le_of_ble_eq_true rfl) rfl ew_1206 ew_1208 ew_43 ew_109 ew_1209 hy_X9_place rfl (by have := eg_D_eq; omega) (Nat.le_of_ble_eq_true rfl) (Nat.le_of_ble_eq_true rfl) ?_
    refine eg_iinc (i := 6) (v := (l6 + (1 : Int32))) 7 [(6, .int (l6 + (1 : Int32))), (7, .int s0), (0, .ref l0), (1, .int l1), (2, .int l2), (3, .int l3), (4, .int l4), (5, .int l5)] dX9_place_126 rfl rfl (Nat.le_of_ble_eq_true rfl) rfl ?_
    refine eg_goto 50 dX9_place_129 rfl ?_
    exact eg_sub [2, 3, 4, 5, 6, 7, 0] [(0, .ref l0), (1, .int l1), (2, .int l2), (3, .int l3), (4, .int l4), (5, .int l5), (6, .int (l6 + (1 : Int32)))] rfl (hrec h5 l0 l1 l2 l3 l4 l5 (l6 + (1 : Int32)) hF)
  · replace hF := eg_if c1 hF
    refine eg_iload (i := 4) 5 dX9_place_108 rfl ?_
    refine eg_goto 123 dX9_place_110 rfl ?_
    replace hF := eg_ifn hF; obtain ⟨c10, hF⟩ := hF
    replace hF := eg_bind hF; obtain ⟨h8, e9, hF⟩ := hF
    refine eg_callV (c := 9) (n := 4) [.int (l1 + (1 : Int32)), .int (l2 ||| ((1 : Int32) <<< (l6 &&& 31))), .int (((10 : Int32) * l3) + l6), .int l4] dX9_place_123 (hrc _ _ _ _ _ _ _ e9) rfl c10 (Nat.le_of_ble_eq_true rfl) rfl ew_1206 ew_1208 ew_43 ew_109 ew_1209 hy_X9_place rfl (by have := eg_D_eq; omega) (Nat.le_of_ble_eq_true rfl) (Nat.le_of_ble_eq_true rfl) ?_
    refine eg_iinc (i := 6) (v := (l6 + (1 : Int32))) 7 [(6, .int (l6 + (1 : Int32))), (7, .int s0), (0, .ref l0), (1, .int l1), (2, .int l2), (3, .int l3), (4, .int l4), (5, .int l5)] dX9_place_126 rfl rfl (Nat.le_of_ble_eq_true rfl) rfl ?_
    refine eg_goto 50 dX9_place_129 rfl ?_
    exact eg_sub [2, 3, 4, 5, 6, 7, 0] [(0, .ref l0), (1, .int l1), (2, .int l2), (3, .int l3), (4, .int l4), (5, .int l5), (6, .int (l6 + (1 : Int32)))] rfl (hrec h8 l0 l1 l2 l3 l4 l5 (l6 + (1 : Int32)) hF)
def fX9_place_j83 (rc : eg_H → Nat → Int32 → Int32 → Int32 → Int32 → Option (eg_H)) (rec : eg_H → Nat → Int32 → Int32 → Int32 → Int32 → Int32 → Int32 → Option (eg_H)) (h : eg_H) (l0 : Nat) (l1 : Int32) (l2 : Int32) (l3 : Int32) (l4 : Int32) (l5 : Int32) (l6 : Int32) : Option (eg_H) :=
  fX9_place_j84 rc rec h l0 l1 l2 l3 l4 l5 l6 (0 : Int32)
set_option maxRecDepth 20000 in
theorem fX9_place_j83_ok {rc : eg_H → Nat → Int32 → Int32 → Int32 → Int32 → Option (eg_H)} {dr : Nat} (hdr : 1 ≤ dr) (hrc : ∀ (h : eg_H) (a0 : Nat) (a1 : Int32) (a2 : Int32) (a3 : Int32) (a4 : Int32) (hE : eg_H), rc h a0 a1 a2 a3 a4 = some hE → eg_Met yX9_place cX9_place 8 none dr [.ref a0, .int a1, .int a2, .int a3, .int a4] h none hE) {rec : eg_H → Nat → Int32 → Int32 → Int32 → Int32 → Int32 → Int32 → Option (eg_H)} {h0 : eg_H} {Z : eg_C → State → Prop} {N S : Nat} (h : eg_H) (l0 : Nat) (l1 : Int32) (l2 : Int32) (l3 : Int32) (l4 : Int32) (l5 : Int32) (l6 : Int32) (eE : eg_H) (hF : fX9_place_j83 rc rec h l0 l1 l2 l3 l4 l5 l6 = some eE) (hrec : ∀ (h : eg_H) (l0 : Nat) (l1 : Int32) (l2 : Int32) (l3 : Int32) (l4 : Int32) (l5 : Int32) (l6 : Int32), rec h l0 l1 l2 l3 l4 l5 l6 = some eE → eg_AW (RX9, cX9_place, 8, dr + 1, none, "place", none) Z N S h0 50 [(0, .ref l0), (1, .int l1), (2, .int l2), (3, .int l3), (4, .int l4), (5, .int l5), (6, .int l6)] [] h) (hk0 : ∀  (h : eg_H), eE = h → eg_AW (RX9, cX9_place, 8, dr + 1, none, "place", none) Z N S h0 132 [] [] h) : eg_AW (RX9, cX9_place, 8, dr + 1, none, "place", none) Z N S h0 83 [(0, .ref l0), (1, .int l1), (2, .int l2), (3, .int l3), (4, .int l4), (5, .int l5), (6, .int l6)] [] h := by
  refine eg_iconst (v := (0 : Int32)) dX9_place_83 (by decide) ?_
  exact (fX9_place_j84_ok hdr hrc h l0 l1 l2 l3 l4 l5 l6 (0 : Int32) eE hF hrec hk0)
def fX9_place_L50 (rc : eg_H → Nat → Int32 → Int32 → Int32 → Int32 → Option (eg_H)) : Nat → eg_H → Nat → Int32 → Int32 → Int32 → Int32 → Int32 → Int32 → Option (eg_H)
  | 0, _, _, _, _, _, _, _, _ => none
  | n + 1, h, l0, l1, l2, l3, l4, l5, l6 =>
    (eg_gI h 9 7 l0).bind fun v1 =>
    if v1 ≤ l6 then
      (some h)
    else
      if ((l2 >>> (l6 &&& 31)) &&& (1 : Int32)) = 0 then
        ((eg_gI h 9 8 l0).bind fun v5 =>
        if v5 = 0 then
          (fX9_place_j83 rc (fX9_place_L50 rc n) h l0 l1 l2 l3 l4 l5 l6)
        else
          if l1 = 0 then
            (fX9_place_j84 rc (fX9_place_L50 rc n) h l0 l1 l2 l3 l4 l5 l6 (1 : Int32))
          else
            fX9_place_j83 rc (fX9_place_L50 rc n) h l0 l1 l2 l3 l4 l5 l6)
      else
        fX9_place_L50 rc n h l0 l1 l2 l3 l4 l5 (l6 + (1 : Int32))
set_option maxRecDepth 20000 in
theorem fX9_place_L50_ok {rc : eg_H → Nat → Int32 → Int32 → Int32 → Int32 → Option (eg_H)} {dr : Nat} (hdr : 1 ≤ dr) (hrc : ∀ (h : eg_H) (a0 : Nat) (a1 : Int32) (a2 : Int32) (a3 : Int32) (a4 : Int32) (hE : eg_H), rc h a0 a1 a2 a3 a4 = some hE → eg_Met yX9_place cX9_place 8 none dr [.ref a0, .int a1, .int a2, .int a3, .int a4] h none hE) {h0 : eg_H} {Z : eg_C → State → Prop} {N S : Nat} : ∀ (n : Nat) (h : eg_H) (l0 : Nat) (l1 : Int32) (l2 : Int32) (l3 : Int32) (l4 : Int32) (l5 : Int32) (l6 : Int32) (eE : eg_H), fX9_place_L50 rc n h l0 l1 l2 l3 l4 l5 l6 = some eE → (hk0 : ∀  (h : eg_H), eE = h → eg_AW (RX9, cX9_place, 8, dr + 1, none, "place", none) Z N S h0 132 [] [] h) → eg_AW (RX9, cX9_place, 8, dr + 1, none, "place", none) Z N S h0 50 [(0, .ref l0), (1, .int l1), (2, .int l2), (3, .int l3), (4, .int l4), (5, .int l5), (6, .int l6)] [] h := by
  intro n
  induction n with
  | zero => intro h l0 l1 l2 l3 l4 l5 l6 eE hF; exact absurd hF (by intro q; cases q)
  | succ n ih =>
    intro h l0 l1 l2 l3 l4 l5 l6 eE hF hk0
    have hrec := fun (h' : eg_H) (l0 : Nat) (l1 : Int32) (l2 : Int32) (l3 : Int32) (l4 : Int32) (l5 : Int32) (l6 : Int32) hq => ih h' l0 l1 l2 l3 l4 l5 l6 eE hq hk0
    refine eg_iload (i := 6) 6 dX9_place_50 rfl ?_
    refine eg_aload_n (i := 0) 0 dX9_place_52 rfl rfl ?_
    replace hF := eg_bind hF; obtain ⟨v1, e2, hF⟩ := hF
    refine eg_getI dX9_place_53 e2 (Nat.le_of_ble_eq_true rfl) (Nat.le_of_ble_eq_true rfl) rfl ew_325 ?_
    refine eg_ic_ge 132 dX9_place_56 rfl (fun c3 => ?_) (fun c3 => ?_)
    · replace hF := eg_it c3 hF
      exact eg_sub [] [] rfl (hk0 h (Option.some.inj hF).symm)
    · replace hF := eg_if c3 hF
      refine eg_iload_n (i := 2) 2 dX9_place_59 rfl rfl ?_
      refine eg_iload (i := 6) 6 dX9_place_60 rfl ?_
      refine eg_ishr dX9_place_62 ?_
      refine eg_iconst (v := (1 : Int32)) dX9_place_63 (by decide) ?_
      refine eg_iand dX9_place_64 ?_
      refine eg_if_ne 126 dX9_place_65 rfl (fun c4 => ?_) (fun c4 => ?_)
      · replace hF := eg_it c4 hF
        refine eg_aload_n (i := 0) 0 dX9_place_68 rfl rfl ?_
        replace hF := eg_bind hF; obtain ⟨v5, e6, hF⟩ := hF
        refine eg_getI dX9_place_69 e6 (Nat.le_of_ble_eq_true rfl) (Nat.le_of_ble_eq_true rfl) rfl ew_326 ?_
        refine eg_if_eq 83 dX9_place_72 rfl (fun c7 => ?_) (fun c7 => ?_)
        · replace hF := eg_it c7 hF
          exact (fX9_place_j83_ok hdr hrc h l0 l1 l2 l3 l4 l5 l6 eE hF hrec hk0)
        · replace hF := eg_if c7 hF
          refine eg_iload_n (i := 1) 1 dX9_place_75 rfl rfl ?_
          refine eg_if_ne 83 dX9_place_76 rfl (fun c8 => ?_) (fun c8 => ?_)
          · replace hF := eg_it c8 hF
            refine eg_iconst (v := (1 : Int32)) dX9_place_79 (by decide) ?_
            refine eg_goto 84 dX9_place_80 rfl ?_
            exact (fX9_place_j84_ok hdr hrc h l0 l1 l2 l3 l4 l5 l6 (1 : Int32) eE hF hrec hk0)
          · replace hF := eg_if c8 hF
            exact (fX9_place_j83_ok hdr hrc h l0 l1 l2 l3 l4 l5 l6 eE hF hrec hk0)
      · replace hF := eg_if c4 hF
        refine eg_iinc (i := 6) (v := (l6 + (1 : Int32))) 6 [(6, .int (l6 + (1 : Int32))), (0, .ref l0), (1, .int l1), (2, .int l2), (3, .int l3), (4, .int l4), (5, .int l5)] dX9_place_126 rfl rfl (Nat.le_of_ble_eq_true rfl) rfl ?_
        refine eg_goto 50 dX9_place_129 rfl ?_
        exact eg_sub [1, 2, 3, 4, 5, 6, 0] [(0, .ref l0), (1, .int l1), (2, .int l2), (3, .int l3), (4, .int l4), (5, .int l5), (6, .int (l6 + (1 : Int32)))] rfl (hrec h l0 l1 l2 l3 l4 l5 (l6 + (1 : Int32)) hF)
def fX9_place_j45 (rc : eg_H → Nat → Int32 → Int32 → Int32 → Int32 → Option (eg_H)) (h : eg_H) (l0 : Nat) (l1 : Int32) (l2 : Int32) (l3 : Int32) (l4 : Int32) (s0 : Int32) : Option (eg_H) :=
  (fX9_place_L50 rc eg_F h l0 l1 l2 l3 l4 s0 (0 : Int32)).bind fun e =>
  match e with
  | h3 =>
    some h3
set_option maxRecDepth 20000 in
theorem fX9_place_j45_ok {rc : eg_H → Nat → Int32 → Int32 → Int32 → Int32 → Option (eg_H)} {dr : Nat} (hdr : 1 ≤ dr) (hrc : ∀ (h : eg_H) (a0 : Nat) (a1 : Int32) (a2 : Int32) (a3 : Int32) (a4 : Int32) (hE : eg_H), rc h a0 a1 a2 a3 a4 = some hE → eg_Met yX9_place cX9_place 8 none dr [.ref a0, .int a1, .int a2, .int a3, .int a4] h none hE) {h0 : eg_H} (h : eg_H) (l0 : Nat) (l1 : Int32) (l2 : Int32) (l3 : Int32) (l4 : Int32) (s0 : Int32) {hE : eg_H} (hF : fX9_place_j45 rc h l0 l1 l2 l3 l4 s0 = some hE) : eg_AW (RX9, cX9_place, 8, dr + 1, none, "place", none) (eg_Zm none hE h0) (eg_nc hE) (eg_ns hE) h0 45 [(0, .ref l0), (1, .int l1), (2, .int l2), (3, .int l3), (4, .int l4)] [.int s0] h := by
  refine eg_istore (i := 5) [(5, .int s0), (0, .ref l0), (1, .int l1), (2, .int l2), (3, .int l3), (4, .int l4)] dX9_place_45 (Nat.le_of_ble_eq_true rfl) rfl ?_
  refine eg_iconst (v := (0 : Int32)) dX9_place_47 (by decide) ?_
  refine eg_istore (i := 6) [(6, .int (0 : Int32)), (5, .int s0), (0, .ref l0), (1, .int l1), (2, .int l2), (3, .int l3), (4, .int l4)] dX9_place_48 (Nat.le_of_ble_eq_true rfl) rfl ?_
  replace hF := eg_bind hF; obtain ⟨x2, e1, hF⟩ := hF
  refine eg_sub [2, 3, 4, 5, 6, 1, 0] [(0, .ref l0), (1, .int l1), (2, .int l2), (3, .int l3), (4, .int l4), (5, .int s0), (6, .int (0 : Int32))] rfl (fX9_place_L50_ok hdr hrc eg_F h l0 l1 l2 l3 l4 s0 (0 : Int32) x2 e1 ?_)
  · intro h3 e4
    subst e4
    exact eg_vretE dX9_place_132 hF
def fX9_placeB (rc : eg_H → Nat → Int32 → Int32 → Int32 → Int32 → Option (eg_H)) (h : eg_H) (l0 : Nat) (l1 : Int32) (l2 : Int32) (l3 : Int32) (l4 : Int32) : Option (eg_H) :=
  if eg_isO h 9 l0 then (
    (eg_gI h 9 10 l0).bind fun v1 =>
    if v1 < l4 then
      ((eg_gI h 9 6 l0).bind fun v4 =>
      if l1 < v4 then
        ((eg_gI h 9 8 l0).bind fun v7 =>
        if v7 = 0 then
          (fX9_place_j45 rc h l0 l1 l2 l3 l4 l1)
        else
          fX9_place_j45 rc h l0 l1 l2 l3 l4 (l3 % (10 : Int32)))
      else
        (eg_pI h 9 10 l0 l4).bind fun h10 =>
        (eg_pI h10 9 9 l0 l3).bind fun h12 =>
        some h12)
    else
      some h) else none
theorem fX9_placeB_O {rc : eg_H → Nat → Int32 → Int32 → Int32 → Int32 → Option (eg_H)} {h : eg_H} {l0 : Nat} {l1 : Int32} {l2 : Int32} {l3 : Int32} {l4 : Int32} {hE : eg_H} (hF : fX9_placeB rc h l0 l1 l2 l3 l4 = some hE) : eg_isO h 9 l0 := (eg_ifn hF).1
set_option maxRecDepth 20000 in
theorem mX9_placeB {rc : eg_H → Nat → Int32 → Int32 → Int32 → Int32 → Option (eg_H)} {dr : Nat} (hdr : 1 ≤ dr) (hrc : ∀ (h : eg_H) (a0 : Nat) (a1 : Int32) (a2 : Int32) (a3 : Int32) (a4 : Int32) (hE : eg_H), rc h a0 a1 a2 a3 a4 = some hE → eg_Met yX9_place cX9_place 8 none dr [.ref a0, .int a1, .int a2, .int a3, .int a4] h none hE) {h : eg_H} {l0 : Nat} {l1 : Int32} {l2 : Int32} {l3 : Int32} {l4 : Int32} {hE : eg_H} (hF : fX9_placeB rc h l0 l1 l2 l3 l4 = some hE) : eg_Met yX9_place cX9_place 8 none (dr + 1) [.ref l0, .int l1, .int l2, .int l3, .int l4] h none hE := by
  refine eg_enter rfl (Nat.le_of_ble_eq_true rfl) ?_
  show eg_AW (RX9, cX9_place, 8, dr + 1, none, "place", none) (eg_Zm none hE h) (eg_nc hE) (eg_ns hE) h 0 [(0, .ref l0), (1, .int l1), (2, .int l2), (3, .int l3), (4, .int l4)] [] h
  replace hF := (eg_ifn hF).2
  refine eg_iload (i := 4) 4 dX9_place_0 rfl ?_
  refine eg_aload_n (i := 0) 0 dX9_place_2 rfl rfl ?_
  replace hF := eg_bind hF; obtain ⟨v1, e2, hF⟩ := hF
  refine eg_getI dX9_place_3 e2 (Nat.le_of_ble_eq_true rfl) (Nat.le_of_ble_eq_true rfl) rfl ew_328 ?_
  refine eg_ic_gt 10 dX9_place_6 rfl (fun c3 => ?_) (fun c3 => ?_)
  · replace hF := eg_it c3 hF
    refine eg_iload_n (i := 1) 1 dX9_place_10 rfl rfl ?_
    refine eg_aload_n (i := 0) 0 dX9_place_11 rfl rfl ?_
    replace hF := eg_bind hF; obtain ⟨v4, e5, hF⟩ := hF
    refine eg_getI dX9_place_12 e5 (Nat.le_of_ble_eq_true rfl) (Nat.le_of_ble_eq_true rfl) rfl ew_324 ?_
    refine eg_ic_lt 30 dX9_place_15 rfl (fun c6 => ?_) (fun c6 => ?_)
    · replace hF := eg_it c6 hF
      refine eg_aload_n (i := 0) 0 dX9_place_30 rfl rfl ?_
      replace hF := eg_bind hF; obtain ⟨v7, e8, hF⟩ := hF
      refine eg_getI dX9_place_31 e8 (Nat.le_of_ble_eq_true rfl) (Nat.le_of_ble_eq_true rfl) rfl ew_326 ?_
      refine eg_if_eq 44 dX9_place_34 rfl (fun c9 => ?_) (fun c9 => ?_)
      · replace hF := eg_it c9 hF
        refine eg_iload_n (i := 1) 1 dX9_place_44 rfl rfl ?_
        exact (fX9_place_j45_ok hdr hrc h l0 l1 l2 l3 l4 l1 hF)
      · replace hF := eg_if c9 hF
        refine eg_iload_n (i := 3) 3 dX9_place_37 rfl rfl ?_
        refine eg_bipush (v := (10 : Int32)) dX9_place_38 (by decide) ?_
        refine eg_irem dX9_place_40 (by decide) ?_
        refine eg_goto 45 dX9_place_41 rfl ?_
        exact (fX9_place_j45_ok hdr hrc h l0 l1 l2 l3 l4 (l3 % (10 : Int32)) hF)
    · replace hF := eg_if c6 hF
      refine eg_aload_n (i := 0) 0 dX9_place_18 rfl rfl ?_
      refine eg_iload (i := 4) 4 dX9_place_19 rfl ?_
      replace hF := eg_bind hF; obtain ⟨h10, e11, hF⟩ := hF
      refine eg_putI dX9_place_21 e11 (Nat.le_of_ble_eq_true rfl) (Nat.le_of_ble_eq_true rfl) rfl ew_328 (Or.inl rfl) ?_
      refine eg_aload_n (i := 0) 0 dX9_place_24 rfl rfl ?_
      refine eg_iload_n (i := 3) 3 dX9_place_25 rfl rfl ?_
      replace hF := eg_bind hF; obtain ⟨h12, e13, hF⟩ := hF
      refine eg_putI dX9_place_26 e13 (Nat.le_of_ble_eq_true rfl) (Nat.le_of_ble_eq_true rfl) rfl ew_327 (Or.inl rfl) ?_
      exact eg_vretE dX9_place_29 hF
  · replace hF := eg_if c3 hF
    exact eg_vretE dX9_place_9 hF
def fX9_place : Nat → eg_H → Nat → Int32 → Int32 → Int32 → Int32 → Option (eg_H)
  | 0 => fun _ _ _ _ _ _ => none
  | n + 1 => fX9_placeB (fX9_place n)
theorem fX9_place_O {n : Nat} {h : eg_H} {l0 : Nat} {l1 : Int32} {l2 : Int32} {l3 : Int32} {l4 : Int32} {hE : eg_H} (hF : fX9_place n h l0 l1 l2 l3 l4 = some hE) : eg_isO h 9 l0 := by
  cases n with
  | zero => cases hF
  | succ n => exact fX9_placeB_O (rc := fX9_place n) hF
theorem mX9_place_x : ∀ (n : Nat) (h : eg_H) (l0 : Nat) (l1 : Int32) (l2 : Int32) (l3 : Int32) (l4 : Int32) (hE : eg_H), fX9_place n h l0 l1 l2 l3 l4 = some hE → eg_Met yX9_place cX9_place 8 none (1 + 1 * n) [.ref l0, .int l1, .int l2, .int l3, .int l4] h none hE := by
  intro n
  induction n with
  | zero => intro h l0 l1 l2 l3 l4 hE hF; cases hF
  | succ n ih =>
    intro h l0 l1 l2 l3 l4 hE hF
    exact mX9_placeB (rc := fX9_place n) (dr := 1 + 1 * n) (by omega) ih hF
theorem mX9_place (n : Nat) {h : eg_H} {l0 : Nat} {l1 : Int32} {l2 : Int32} {l3 : Int32} {l4 : Int32} {hE : eg_H} (hF : fX9_place n h l0 l1 l2 l3 l4 = some hE) : eg_Met yX9_place cX9_place 8 none (1 + 1 * n) [.ref l0, .int l1, .int l2, .int l3, .int l4] h none hE := mX9_place_x n h l0 l1 l2 l3 l4 hE hF
theorem dX9_findRow_0 : decode cX9_findRow 0 = .ok (.aload_n 0, 1) := by decide +kernel
theorem dX9_findRow_1 : decode cX9_findRow 1 = .ok (.iload_n 1, 1) := by decide +kernel
theorem dX9_findRow_2 : decode cX9_findRow 2 = .ok (.putfield 31, 3) := by decide +kernel
theorem dX9_findRow_5 : decode cX9_findRow 5 = .ok (.aload_n 0, 1) := by decide +kernel
theorem dX9_findRow_6 : decode cX9_findRow 6 = .ok (.iload_n 2, 1) := by decide +kernel
theorem dX9_findRow_7 : decode cX9_findRow 7 = .ok (.putfield 35, 3) := by decide +kernel
theorem dX9_findRow_10 : decode cX9_findRow 10 = .ok (.aload_n 0, 1) := by decide +kernel
theorem dX9_findRow_11 : decode cX9_findRow 11 = .ok (.iload_n 3, 1) := by decide +kernel
theorem dX9_findRow_12 : decode cX9_findRow 12 = .ok (.putfield 38, 3) := by decide +kernel
theorem dX9_findRow_15 : decode cX9_findRow 15 = .ok (.aload_n 0, 1) := by decide +kernel
theorem dX9_findRow_16 : decode cX9_findRow 16 = .ok (.iconst (-1), 1) := by decide +kernel
theorem dX9_findRow_17 : decode cX9_findRow 17 = .ok (.putfield 45, 3) := by decide +kernel
theorem dX9_findRow_20 : decode cX9_findRow 20 = .ok (.aload_n 0, 1) := by decide +kernel
theorem dX9_findRow_21 : decode cX9_findRow 21 = .ok (.iconst 0, 1) := by decide +kernel
theorem dX9_findRow_22 : decode cX9_findRow 22 = .ok (.putfield 42, 3) := by decide +kernel
theorem dX9_findRow_25 : decode cX9_findRow 25 = .ok (.aload_n 0, 1) := by decide +kernel
theorem dX9_findRow_26 : decode cX9_findRow 26 = .ok (.iconst 0, 1) := by decide +kernel
theorem dX9_findRow_27 : decode cX9_findRow 27 = .ok (.iconst 0, 1) := by decide +kernel
theorem dX9_findRow_28 : decode cX9_findRow 28 = .ok (.iconst 0, 1) := by decide +kernel
theorem dX9_findRow_29 : decode cX9_findRow 29 = .ok (.ldc 70, 2) := by decide +kernel
theorem dX9_findRow_31 : decode cX9_findRow 31 = .ok (.invokevirtual 71, 3) := by decide +kernel
theorem dX9_findRow_34 : decode cX9_findRow 34 = .ok (.return_, 1) := by decide +kernel
def fX9_findRow (h : eg_H) (l0 : Nat) (l1 : Int32) (l2 : Int32) (l3 : Int32) : Option (eg_H) :=
  if eg_isO h 9 l0 then (
    (eg_pI h 9 6 l0 l1).bind fun h1 =>
    (eg_pI h1 9 7 l0 l2).bind fun h3 =>
    (eg_pZ h3 9 8 l0 l3).bind fun h5 =>
    (eg_pI h5 9 10 l0 (-1 : Int32)).bind fun h7 =>
    (eg_pI h7 9 9 l0 (0 : Int32)).bind fun h9 =>
    (fX9_place eg_D h9 l0 (0 : Int32) (0 : Int32) (0 : Int32) (1000000000 : Int32)).bind fun h11 =>
    some h11) else none
theorem fX9_findRow_O {h : eg_H} {l0 : Nat} {l1 : Int32} {l2 : Int32} {l3 : Int32} {hE : eg_H} (hF : fX9_findRow h l0 l1 l2 l3 = some hE) : eg_isO h 9 l0 := (eg_ifn hF).1
set_option maxRecDepth 20000 in
theorem mX9_findRow {h : eg_H} {l0 : Nat} {l1 : Int32} {l2 : Int32} {l3 : Int32} {hE : eg_H} (hF : fX9_findRow h l0 l1 l2 l3 = some hE) : eg_Met yX9_findRow cX9_findRow 4 none 66 [.ref l0, .int l1, .int l2, .int l3] h none hE := by
  refine eg_enter rfl (Nat.le_of_ble_eq_true rfl) ?_
  show eg_AW (RX9, cX9_findRow, 4, 66, none, "findRow", none) (eg_Zm none hE h) (eg_nc hE) (eg_ns hE) h 0 [(0, .ref l0), (1, .int l1), (2, .int l2), (3, .int l3)] [] h
  replace hF := (eg_ifn hF).2
  refine eg_aload_n (i := 0) 0 dX9_findRow_0 rfl rfl ?_
  refine eg_iload_n (i := 1) 1 dX9_findRow_1 rfl rfl ?_
  replace hF := eg_bind hF; obtain ⟨h1, e2, hF⟩ := hF
  refine eg_putI dX9_findRow_2 e2 (Nat.le_of_ble_eq_true rfl) (Nat.le_of_ble_eq_true rfl) rfl ew_324 (Or.inl rfl) ?_
  refine eg_aload_n (i := 0) 0 dX9_findRow_5 rfl rfl ?_
  refine eg_iload_n (i := 2) 2 dX9_findRow_6 rfl rfl ?_
  replace hF := eg_bind hF; obtain ⟨h3, e4, hF⟩ := hF
  refine eg_putI dX9_findRow_7 e4 (Nat.le_of_ble_eq_true rfl) (Nat.le_of_ble_eq_true rfl) rfl ew_325 (Or.inl rfl) ?_
  refine eg_aload_n (i := 0) 0 dX9_findRow_10 rfl rfl ?_
  refine eg_iload_n (i := 3) 3 dX9_findRow_11 rfl rfl ?_
  replace hF := eg_bind hF; obtain ⟨h5, e6, hF⟩ := hF
  refine eg_putZ dX9_findRow_12 e6 (Nat.le_of_ble_eq_true rfl) (Nat.le_of_ble_eq_true rfl) rfl ew_326 rfl ?_
  refine eg_aload_n (i := 0) 0 dX9_findRow_15 rfl rfl ?_
  refine eg_iconst (v := (-1 : Int32)) dX9_findRow_16 (by decide) ?_
  replace hF := eg_bind hF; obtain ⟨h7, e8, hF⟩ := hF
  refine eg_putI dX9_findRow_17 e8 (Nat.le_of_ble_eq_true rfl) (Nat.le_of_ble_eq_true rfl) rfl ew_328 (Or.inl rfl) ?_
  refine eg_aload_n (i := 0) 0 dX9_findRow_20 rfl rfl ?_
  refine eg_iconst (v := (0 : Int32)) dX9_findRow_21 (by decide) ?_
  replace hF := eg_bind hF; obtain ⟨h9, e10, hF⟩ := hF
  refine eg_putI dX9_findRow_22 e10 (Nat.le_of_ble_eq_true rfl) (Nat.le_of_ble_eq_true rfl) rfl ew_327 (Or.inl rfl) ?_
  refine eg_aload_n (i := 0) 0 dX9_findRow_25 rfl rfl ?_
  refine eg_iconst (v := (0 : Int32)) dX9_findRow_26 (by decide) ?_
  refine eg_iconst (v := (0 : Int32)) dX9_findRow_27 (by decide) ?_
  refine eg_iconst (v := (0 : Int32)) dX9_findRow_28 (by decide) ?_
  refine eg_ldc (v := (1000000000 : Int32)) dX9_findRow_29 ew_1205 ?_
  replace hF := eg_bind hF; obtain ⟨h11, e12, hF⟩ := hF
  refine eg_callV (c := 9) (n := 4) [.int (0 : Int32), .int (0 : Int32), .int (0 : Int32), .int (1000000000 : Int32)] dX9_findRow_31 (mX9_place eg_D e12) rfl (fX9_place_O e12) (Nat.le_of_ble_eq_true rfl) rfl ew_1206 ew_1208 ew_43 ew_109 ew_1209 hy_X9_place rfl (Nat.le_of_ble_eq_true rfl) (Nat.le_of_ble_eq_true rfl) (Nat.le_of_ble_eq_true rfl) ?_
  exact eg_vretE dX9_findRow_34 hF
theorem dX11_climbed_0 : decode cX11_climbed 0 = .ok (.iload_n 1, 1) := by decide +kernel
theorem dX11_climbed_1 : decode cX11_climbed 1 = .ok (.ifCond .lt 12, 3) := by decide +kernel
theorem dX11_climbed_4 : decode cX11_climbed 4 = .ok (.iload_n 1, 1) := by decide +kernel
theorem dX11_climbed_5 : decode cX11_climbed 5 = .ok (.aload_n 0, 1) := by decide +kernel
theorem dX11_climbed_6 : decode cX11_climbed 6 = .ok (.getfield 9, 3) := by decide +kernel
theorem dX11_climbed_9 : decode cX11_climbed 9 = .ok (.arraylength, 1) := by decide +kernel
theorem dX11_climbed_10 : decode cX11_climbed 10 = .ok (.if_icmp .lt 7, 3) := by decide +kernel
theorem dX11_climbed_13 : decode cX11_climbed 13 = .ok (.iconst 0, 1) := by decide +kernel
theorem dX11_climbed_14 : decode cX11_climbed 14 = .ok (.goto 9, 3) := by decide +kernel
theorem dX11_climbed_17 : decode cX11_climbed 17 = .ok (.aload_n 0, 1) := by decide +kernel
theorem dX11_climbed_18 : decode cX11_climbed 18 = .ok (.getfield 9, 3) := by decide +kernel
theorem dX11_climbed_21 : decode cX11_climbed 21 = .ok (.iload_n 1, 1) := by decide +kernel
theorem dX11_climbed_22 : decode cX11_climbed 22 = .ok (.iaload, 1) := by decide +kernel
theorem dX11_climbed_23 : decode cX11_climbed 23 = .ok (.ireturn, 1) := by decide +kernel
def fX11_climbed (h : eg_H) (l0 : Nat) (l1 : Int32) : Option (Int32 × eg_H) :=
  if eg_isO h 11 l0 then (
    if l1 < 0 then
      (some ((0 : Int32), h))
    else
      (eg_gR h 11 1 l0).bind fun p2 =>
      (eg_al h p2).bind fun v4 =>
      if l1 < v4 then
        ((eg_gR h 11 1 l0).bind fun p7 =>
        (eg_aI h 100 p7 l1).bind fun v9 =>
        some (v9, h))
      else
        some ((0 : Int32), h)) else none
theorem fX11_climbed_O {h : eg_H} {l0 : Nat} {l1 : Int32} {rE : Int32} {hE : eg_H} (hF : fX11_climbed h l0 l1 = some (rE, hE)) : eg_isO h 11 l0 := (eg_ifn hF).1
set_option maxRecDepth 20000 in
theorem mX11_climbed {h : eg_H} {l0 : Nat} {l1 : Int32} {rE : Int32} {hE : eg_H} (hF : fX11_climbed h l0 l1 = some (rE, hE)) : eg_Met yX11_climbed cX11_climbed 2 (some .int) 1 [.ref l0, .int l1] h (some (.int rE)) hE := by
  refine eg_enter rfl (Nat.le_of_ble_eq_true rfl) ?_
  show eg_AW (RX11, cX11_climbed, 2, 1, none, "climbed", (some .int)) (eg_Zm (some (.int rE)) hE h) (eg_nc hE) (eg_ns hE) h 0 [(0, .ref l0), (1, .int l1)] [] h
  replace hF := (eg_ifn hF).2
  refine eg_iload_n (i := 1) 1 dX11_climbed_0 rfl rfl ?_
  refine eg_if_lt 13 dX11_climbed_1 rfl (fun c1 => ?_) (fun c1 => ?_)
  · replace hF := eg_it c1 hF
    refine eg_iconst (v := (0 : Int32)) dX11_climbed_13 (by decide) ?_
    refine eg_goto 23 dX11_climbed_14 rfl ?_
    exact eg_iretE dX11_climbed_23 hF
  · replace hF := eg_if c1 hF
    refine eg_iload_n (i := 1) 1 dX11_climbed_4 rfl rfl ?_
    refine eg_aload_n (i := 0) 0 dX11_climbed_5 rfl rfl ?_
    replace hF := eg_bind hF; obtain ⟨p2, e3, hF⟩ := hF
    refine eg_getR dX11_climbed_6 e3 (Nat.le_of_ble_eq_true rfl) (Nat.le_of_ble_eq_true rfl) rfl ew_238 ?_
    replace hF := eg_bind hF; obtain ⟨v4, e5, hF⟩ := hF
    refine eg_alen dX11_climbed_9 e5 ?_
    refine eg_ic_lt 17 dX11_climbed_10 rfl (fun c6 => ?_) (fun c6 => ?_)
    · replace hF := eg_it c6 hF
      refine eg_aload_n (i := 0) 0 dX11_climbed_17 rfl rfl ?_
      replace hF := eg_bind hF; obtain ⟨p7, e8, hF⟩ := hF
      refine eg_getR dX11_climbed_18 e8 (Nat.le_of_ble_eq_true rfl) (Nat.le_of_ble_eq_true rfl) rfl ew_238 ?_
      refine eg_iload_n (i := 1) 1 dX11_climbed_21 rfl rfl ?_
      replace hF := eg_bind hF; obtain ⟨v9, e10, hF⟩ := hF
      refine eg_iald dX11_climbed_22 e10 ?_
      exact eg_iretE dX11_climbed_23 hF
    · replace hF := eg_if c6 hF
      refine eg_iconst (v := (0 : Int32)) dX11_climbed_13 (by decide) ?_
      refine eg_goto 23 dX11_climbed_14 rfl ?_
      exact eg_iretE dX11_climbed_23 hF
theorem dX9_keepClimb_0 : decode cX9_keepClimb 0 = .ok (.iconst 0, 1) := by decide +kernel
theorem dX9_keepClimb_1 : decode cX9_keepClimb 1 = .ok (.istore_n 3, 1) := by decide +kernel
theorem dX9_keepClimb_2 : decode cX9_keepClimb 2 = .ok (.iload_n 3, 1) := by decide +kernel
theorem dX9_keepClimb_3 : decode cX9_keepClimb 3 = .ok (.bipush 9, 2) := by decide +kernel
theorem dX9_keepClimb_5 : decode cX9_keepClimb 5 = .ok (.if_icmp .gt 44, 3) := by decide +kernel
theorem dX9_keepClimb_8 : decode cX9_keepClimb 8 = .ok (.iload_n 1, 1) := by decide +kernel
theorem dX9_keepClimb_9 : decode cX9_keepClimb 9 = .ok (.bipush 10, 2) := by decide +kernel
theorem dX9_keepClimb_11 : decode cX9_keepClimb 11 = .ok (.imul, 1) := by decide +kernel
theorem dX9_keepClimb_12 : decode cX9_keepClimb 12 = .ok (.iload_n 3, 1) := by decide +kernel
theorem dX9_keepClimb_13 : decode cX9_keepClimb 13 = .ok (.iadd, 1) := by decide +kernel
theorem dX9_keepClimb_14 : decode cX9_keepClimb 14 = .ok (.istore 4, 2) := by decide +kernel
theorem dX9_keepClimb_16 : decode cX9_keepClimb 16 = .ok (.iload 4, 2) := by decide +kernel
theorem dX9_keepClimb_18 : decode cX9_keepClimb 18 = .ok (.ifCond .lt 25, 3) := by decide +kernel
theorem dX9_keepClimb_21 : decode cX9_keepClimb 21 = .ok (.iload 4, 2) := by decide +kernel
theorem dX9_keepClimb_23 : decode cX9_keepClimb 23 = .ok (.aload_n 0, 1) := by decide +kernel
theorem dX9_keepClimb_24 : decode cX9_keepClimb 24 = .ok (.getfield 28, 3) := by decide +kernel
theorem dX9_keepClimb_27 : decode cX9_keepClimb 27 = .ok (.arraylength, 1) := by decide +kernel
theorem dX9_keepClimb_28 : decode cX9_keepClimb 28 = .ok (.if_icmp .ge 15, 3) := by decide +kernel
theorem dX9_keepClimb_31 : decode cX9_keepClimb 31 = .ok (.aload_n 0, 1) := by decide +kernel
theorem dX9_keepClimb_32 : decode cX9_keepClimb 32 = .ok (.getfield 28, 3) := by decide +kernel
theorem dX9_keepClimb_35 : decode cX9_keepClimb 35 = .ok (.iload 4, 2) := by decide +kernel
theorem dX9_keepClimb_37 : decode cX9_keepClimb 37 = .ok (.aload_n 2, 1) := by decide +kernel
theorem dX9_keepClimb_38 : decode cX9_keepClimb 38 = .ok (.iload_n 3, 1) := by decide +kernel
theorem dX9_keepClimb_39 : decode cX9_keepClimb 39 = .ok (.invokevirtual 79, 3) := by decide +kernel
theorem dX9_keepClimb_42 : decode cX9_keepClimb 42 = .ok (.iastore, 1) := by decide +kernel
theorem dX9_keepClimb_43 : decode cX9_keepClimb 43 = .ok (.iinc 3 1, 3) := by decide +kernel
theorem dX9_keepClimb_46 : decode cX9_keepClimb 46 = .ok (.goto (-44), 3) := by decide +kernel
theorem dX9_keepClimb_49 : decode cX9_keepClimb 49 = .ok (.return_, 1) := by decide +kernel
def fX9_keepClimb_L2 : Nat → eg_H → Nat → Int32 → Nat → Int32 → Option (eg_H)
  | 0, _, _, _, _, _ => none
  | n + 1, h, l0, l1, l2, l3 =>
    if (9 : Int32) < l3 then
      (some h)
    else
      (some (((l1 * (10 : Int32)) + l3))).bind fun v2 =>
      if v2 < 0 then
        (fX9_keepClimb_L2 n h l0 l1 l2 (l3 + (1 : Int32)))
      else
        (eg_gR h 9 5 l0).bind fun p5 =>
        (eg_al h p5).bind fun v7 =>
        if v7 ≤ v2 then
          (fX9_keepClimb_L2 n h l0 l1 l2 (l3 + (1 : Int32)))
        else
          (eg_gR h 9 5 l0).bind fun p10 =>
          (fX11_climbed h l2 l3).bind fun ⟨v13, h12⟩ =>
          (eg_wI h12 100 p10 v2 v13).bind fun h15 =>
          fX9_keepClimb_L2 n h15 l0 l1 l2 (l3 + (1 : Int32))
set_option maxRecDepth 20000 in
theorem fX9_keepClimb_L2_ok {h0 : eg_H} {Z : eg_C → State → Prop} {N S : Nat} : ∀ (n : Nat) (h : eg_H) (l0 : Nat) (l1 : Int32) (l2 : Nat) (l3 : Int32) (eE : eg_H), fX9_keepClimb_L2 n h l0 l1 l2 l3 = some eE → (hk0 : ∀  (h : eg_H), eE = h → eg_AW (RX9, cX9_keepClimb, 5, 2, none, "keepClimb", none) Z N S h0 49 [] [] h) → eg_AW (RX9, cX9_keepClimb, 5, 2, none, "keepClimb", none) Z N S h0 2 [(0, .ref l0), (1, .int l1), (2, .ref l2), (3, .int l3)] [] h := by
  intro n
  induction n with
  | zero => intro h l0 l1 l2 l3 eE hF; exact absurd hF (by intro q; cases q)
  | succ n ih =>
    intro h l0 l1 l2 l3 eE hF hk0
    have hrec := fun (h' : eg_H) (l0 : Nat) (l1 : Int32) (l2 : Nat) (l3 : Int32) hq => ih h' l0 l1 l2 l3 eE hq hk0
    refine eg_iload_n (i := 3) 3 dX9_keepClimb_2 rfl rfl ?_
    refine eg_bipush (v := (9 : Int32)) dX9_keepClimb_3 (by decide) ?_
    refine eg_ic_gt 49 dX9_keepClimb_5 rfl (fun c1 => ?_) (fun c1 => ?_)
    · replace hF := eg_it c1 hF
      exact eg_sub [] [] rfl (hk0 h (Option.some.inj hF).symm)
    · replace hF := eg_if c1 hF
      refine eg_iload_n (i := 1) 1 dX9_keepClimb_8 rfl rfl ?_
      refine eg_bipush (v := (10 : Int32)) dX9_keepClimb_9 (by decide) ?_
      refine eg_imul dX9_keepClimb_11 ?_
      refine eg_iload_n (i := 3) 3 dX9_keepClimb_12 rfl rfl ?_
      refine eg_iadd dX9_keepClimb_13 ?_
      replace hF := eg_bind hF; obtain ⟨v2, e3, hF⟩ := hF
      replace e3 := Option.some.inj e3
      rw [e3]
      refine eg_istore (i := 4) [(4, .int v2), (0, .ref l0), (1, .int l1), (2, .ref l2), (3, .int l3)] dX9_keepClimb_14 (Nat.le_of_ble_eq_true rfl) rfl ?_
      refine eg_iload (i := 4) 0 dX9_keepClimb_16 rfl ?_
      refine eg_if_lt 43 dX9_keepClimb_18 rfl (fun c4 => ?_) (fun c4 => ?_)
      · replace hF := eg_it c4 hF
        refine eg_iinc (i := 3) (v := (l3 + (1 : Int32))) 4 [(3, .int (l3 + (1 : Int32))), (4, .int v2), (0, .ref l0), (1, .int l1), (2, .ref l2)] dX9_keepClimb_43 rfl rfl (Nat.le_of_ble_eq_true rfl) rfl ?_
        refine eg_goto 2 dX9_keepClimb_46 rfl ?_
        exact eg_sub [2, 3, 4, 0] [(0, .ref l0), (1, .int l1), (2, .ref l2), (3, .int (l3 + (1 : Int32)))] rfl (hrec h l0 l1 l2 (l3 + (1 : Int32)) hF)
      · replace hF := eg_if c4 hF
        refine eg_iload (i := 4) 0 dX9_keepClimb_21 rfl ?_
        refine eg_aload_n (i := 0) 1 dX9_keepClimb_23 rfl rfl ?_
        replace hF := eg_bind hF; obtain ⟨p5, e6, hF⟩ := hF
        refine eg_getR dX9_keepClimb_24 e6 (Nat.le_of_ble_eq_true rfl) (Nat.le_of_ble_eq_true rfl) rfl ew_323 ?_
        replace hF := eg_bind hF; obtain ⟨v7, e8, hF⟩ := hF
        refine eg_alen dX9_keepClimb_27 e8 ?_
        refine eg_ic_ge 43 dX9_keepClimb_28 rfl (fun c9 => ?_) (fun c9 => ?_)
        · replace hF := eg_it c9 hF
          refine eg_iinc (i := 3) (v := (l3 + (1 : Int32))) 4 [(3, .int (l3 + (1 : Int32))), (4, .int v2), (0, .ref l0), (1, .int l1), (2, .ref l2)] dX9_keepClimb_43 rfl rfl (Nat.le_of_ble_eq_true rfl) rfl ?_
          refine eg_goto 2 dX9_keepClimb_46 rfl ?_
          exact eg_sub [2, 3, 4, 0] [(0, .ref l0), (1, .int l1), (2, .ref l2), (3, .int (l3 + (1 : Int32)))] rfl (hrec h l0 l1 l2 (l3 + (1 : Int32)) hF)
        · replace hF := eg_if c9 hF
          refine eg_aload_n (i := 0) 1 dX9_keepClimb_31 rfl rfl ?_
          replace hF := eg_bind hF; obtain ⟨p10, e11, hF⟩ := hF
          refine eg_getR dX9_keepClimb_32 e11 (Nat.le_of_ble_eq_true rfl) (Nat.le_of_ble_eq_true rfl) rfl ew_323 ?_
          refine eg_iload (i := 4) 0 dX9_keepClimb_35 rfl ?_
          refine eg_aload_n (i := 2) 3 dX9_keepClimb_37 rfl rfl ?_
          refine eg_iload_n (i := 3) 4 dX9_keepClimb_38 rfl rfl ?_
          replace hF := eg_bind hF; obtain ⟨⟨v13, h12⟩, e14, hF⟩ := hF
          refine eg_callV (c := 11) (n := 1) [.int l3] dX9_keepClimb_39 (mX11_climbed e14) rfl (fX11_climbed_O e14) (Nat.le_of_ble_eq_true rfl) rfl ew_1050 ew_1051 ew_1052 ew_106 ew_1053 hy_X11_climbed rfl (Nat.le_of_ble_eq_true rfl) (Nat.le_of_ble_eq_true rfl) (Nat.le_of_ble_eq_true rfl) ?_
          replace hF := eg_bind hF; obtain ⟨h15, e16, hF⟩ := hF
          refine eg_iast dX9_keepClimb_42 e16 ?_
          refine eg_iinc (i := 3) (v := (l3 + (1 : Int32))) 4 [(3, .int (l3 + (1 : Int32))), (4, .int v2), (0, .ref l0), (1, .int l1), (2, .ref l2)] dX9_keepClimb_43 rfl rfl (Nat.le_of_ble_eq_true rfl) rfl ?_
          refine eg_goto 2 dX9_keepClimb_46 rfl ?_
          exact eg_sub [2, 3, 4, 0] [(0, .ref l0), (1, .int l1), (2, .ref l2), (3, .int (l3 + (1 : Int32)))] rfl (hrec h15 l0 l1 l2 (l3 + (1 : Int32)) hF)
def fX9_keepClimb (h : eg_H) (l0 : Nat) (l1 : Int32) (l2 : Nat) : Option (eg_H) :=
  if eg_isO h 9 l0 then (
    (fX9_keepClimb_L2 eg_F h l0 l1 l2 (0 : Int32)).bind fun e =>
    match e with
    | h3 =>
      some h3) else none
theorem fX9_keepClimb_O {h : eg_H} {l0 : Nat} {l1 : Int32} {l2 : Nat} {hE : eg_H} (hF : fX9_keepClimb h l0 l1 l2 = some hE) : eg_isO h 9 l0 := (eg_ifn hF).1
set_option maxRecDepth 20000 in
theorem mX9_keepClimb {h : eg_H} {l0 : Nat} {l1 : Int32} {l2 : Nat} {hE : eg_H} (hF : fX9_keepClimb h l0 l1 l2 = some hE) : eg_Met yX9_keepClimb cX9_keepClimb 5 none 2 [.ref l0, .int l1, .ref l2] h none hE := by
  refine eg_enter rfl (Nat.le_of_ble_eq_true rfl) ?_
  show eg_AW (RX9, cX9_keepClimb, 5, 2, none, "keepClimb", none) (eg_Zm none hE h) (eg_nc hE) (eg_ns hE) h 0 [(0, .ref l0), (1, .int l1), (2, .ref l2)] [] h
  replace hF := (eg_ifn hF).2
  refine eg_iconst (v := (0 : Int32)) dX9_keepClimb_0 (by decide) ?_
  refine eg_istore_n (i := 3) [(3, .int (0 : Int32)), (0, .ref l0), (1, .int l1), (2, .ref l2)] dX9_keepClimb_1 rfl (Nat.le_of_ble_eq_true rfl) rfl ?_
  replace hF := eg_bind hF; obtain ⟨x2, e1, hF⟩ := hF
  refine eg_sub [1, 2, 3, 0] [(0, .ref l0), (1, .int l1), (2, .ref l2), (3, .int (0 : Int32))] rfl (fX9_keepClimb_L2_ok eg_F h l0 l1 l2 (0 : Int32) x2 e1 ?_)
  · intro h3 e4
    subst e4
    exact eg_vretE dX9_keepClimb_49 hF
theorem dX9_reaches_0 : decode cX9_reaches 0 = .ok (.ldc2_w 94, 3) := by decide +kernel
theorem dX9_reaches_3 : decode cX9_reaches 3 = .ok (.lstore 6, 2) := by decide +kernel
theorem dX9_reaches_5 : decode cX9_reaches 5 = .ok (.iconst 1, 1) := by decide +kernel
theorem dX9_reaches_6 : decode cX9_reaches 6 = .ok (.istore 8, 2) := by decide +kernel
theorem dX9_reaches_8 : decode cX9_reaches 8 = .ok (.iload 8, 2) := by decide +kernel
theorem dX9_reaches_10 : decode cX9_reaches 10 = .ok (.iload 4, 2) := by decide +kernel
theorem dX9_reaches_12 : decode cX9_reaches 12 = .ok (.if_icmp .gt 115, 3) := by decide +kernel
theorem dX9_reaches_15 : decode cX9_reaches 15 = .ok (.lload 6, 2) := by decide +kernel
theorem dX9_reaches_17 : decode cX9_reaches 17 = .ok (.iload 5, 2) := by decide +kernel
theorem dX9_reaches_19 : decode cX9_reaches 19 = .ok (.i2l, 1) := by decide +kernel
theorem dX9_reaches_20 : decode cX9_reaches 20 = .ok (.lcmp, 1) := by decide +kernel
theorem dX9_reaches_21 : decode cX9_reaches 21 = .ok (.ifCond .lt 106, 3) := by decide +kernel
theorem dX9_reaches_24 : decode cX9_reaches 24 = .ok (.iload 8, 2) := by decide +kernel
theorem dX9_reaches_26 : decode cX9_reaches 26 = .ok (.iconst 2, 1) := by decide +kernel
theorem dX9_reaches_27 : decode cX9_reaches 27 = .ok (.irem, 1) := by decide +kernel
theorem dX9_reaches_28 : decode cX9_reaches 28 = .ok (.iconst 1, 1) := by decide +kernel
theorem dX9_reaches_29 : decode cX9_reaches 29 = .ok (.if_icmp .ne 7, 3) := by decide +kernel
theorem dX9_reaches_32 : decode cX9_reaches 32 = .ok (.iconst 1, 1) := by decide +kernel
theorem dX9_reaches_33 : decode cX9_reaches 33 = .ok (.goto 4, 3) := by decide +kernel
theorem dX9_reaches_36 : decode cX9_reaches 36 = .ok (.iconst 0, 1) := by decide +kernel
theorem dX9_reaches_37 : decode cX9_reaches 37 = .ok (.istore 9, 2) := by decide +kernel
theorem dX9_reaches_39 : decode cX9_reaches 39 = .ok (.iload 8, 2) := by decide +kernel
theorem dX9_reaches_41 : decode cX9_reaches 41 = .ok (.bipush 10, 2) := by decide +kernel
theorem dX9_reaches_43 : decode cX9_reaches 43 = .ok (.imul, 1) := by decide +kernel
theorem dX9_reaches_44 : decode cX9_reaches 44 = .ok (.iload 9, 2) := by decide +kernel
theorem dX9_reaches_46 : decode cX9_reaches 46 = .ok (.ifCond .eq 10, 3) := by decide +kernel
theorem dX9_reaches_49 : decode cX9_reaches 49 = .ok (.iload_n 3, 1) := by decide +kernel
theorem dX9_reaches_50 : decode cX9_reaches 50 = .ok (.bipush 100, 2) := by decide +kernel
theorem dX9_reaches_52 : decode cX9_reaches 52 = .ok (.idiv, 1) := by decide +kernel
theorem dX9_reaches_53 : decode cX9_reaches 53 = .ok (.goto 7, 3) := by decide +kernel
theorem dX9_reaches_56 : decode cX9_reaches 56 = .ok (.iload_n 3, 1) := by decide +kernel
theorem dX9_reaches_57 : decode cX9_reaches 57 = .ok (.bipush 100, 2) := by decide +kernel
theorem dX9_reaches_59 : decode cX9_reaches 59 = .ok (.irem, 1) := by decide +kernel
theorem dX9_reaches_60 : decode cX9_reaches 60 = .ok (.iadd, 1) := by decide +kernel
theorem dX9_reaches_61 : decode cX9_reaches 61 = .ok (.istore 10, 2) := by decide +kernel
theorem dX9_reaches_63 : decode cX9_reaches 63 = .ok (.aload_n 1, 1) := by decide +kernel
theorem dX9_reaches_64 : decode cX9_reaches 64 = .ok (.iload 9, 2) := by decide +kernel
theorem dX9_reaches_66 : decode cX9_reaches 66 = .ok (.ifCond .eq 10, 3) := by decide +kernel
theorem dX9_reaches_69 : decode cX9_reaches 69 = .ok (.iload_n 2, 1) := by decide +kernel
theorem dX9_reaches_70 : decode cX9_reaches 70 = .ok (.bipush 10, 2) := by decide +kernel
theorem dX9_reaches_72 : decode cX9_reaches 72 = .ok (.idiv, 1) := by decide +kernel
theorem dX9_reaches_73 : decode cX9_reaches 73 = .ok (.goto 7, 3) := by decide +kernel
theorem dX9_reaches_76 : decode cX9_reaches 76 = .ok (.iload_n 2, 1) := by decide +kernel
theorem dX9_reaches_77 : decode cX9_reaches 77 = .ok (.bipush 10, 2) := by decide +kernel
theorem dX9_reaches_79 : decode cX9_reaches 79 = .ok (.irem, 1) := by decide +kernel
theorem dX9_reaches_80 : decode cX9_reaches 80 = .ok (.invokevirtual 96, 3) := by decide +kernel
theorem dX9_reaches_83 : decode cX9_reaches 83 = .ok (.istore 11, 2) := by decide +kernel
theorem dX9_reaches_85 : decode cX9_reaches 85 = .ok (.iload 10, 2) := by decide +kernel
theorem dX9_reaches_87 : decode cX9_reaches 87 = .ok (.ifCond .lt 13, 3) := by decide +kernel
theorem dX9_reaches_90 : decode cX9_reaches 90 = .ok (.iload 10, 2) := by decide +kernel
theorem dX9_reaches_92 : decode cX9_reaches 92 = .ok (.aload_n 0, 1) := by decide +kernel
theorem dX9_reaches_93 : decode cX9_reaches 93 = .ok (.getfield 28, 3) := by decide +kernel
theorem dX9_reaches_96 : decode cX9_reaches 96 = .ok (.arraylength, 1) := by decide +kernel
theorem dX9_reaches_97 : decode cX9_reaches 97 = .ok (.if_icmp .lt 7, 3) := by decide +kernel
theorem dX9_reaches_100 : decode cX9_reaches 100 = .ok (.lconst 0, 1) := by decide +kernel
theorem dX9_reaches_101 : decode cX9_reaches 101 = .ok (.goto 18, 3) := by decide +kernel
theorem dX9_reaches_104 : decode cX9_reaches 104 = .ok (.lload 6, 2) := by decide +kernel
theorem dX9_reaches_106 : decode cX9_reaches 106 = .ok (.aload_n 0, 1) := by decide +kernel
theorem dX9_reaches_107 : decode cX9_reaches 107 = .ok (.getfield 28, 3) := by decide +kernel
theorem dX9_reaches_110 : decode cX9_reaches 110 = .ok (.iload 10, 2) := by decide +kernel
theorem dX9_reaches_112 : decode cX9_reaches 112 = .ok (.iaload, 1) := by decide +kernel
theorem dX9_reaches_113 : decode cX9_reaches 113 = .ok (.i2l, 1) := by decide +kernel
theorem dX9_reaches_114 : decode cX9_reaches 114 = .ok (.lmul, 1) := by decide +kernel
theorem dX9_reaches_115 : decode cX9_reaches 115 = .ok (.iload 11, 2) := by decide +kernel
theorem dX9_reaches_117 : decode cX9_reaches 117 = .ok (.i2l, 1) := by decide +kernel
theorem dX9_reaches_118 : decode cX9_reaches 118 = .ok (.ldiv, 1) := by decide +kernel
theorem dX9_reaches_119 : decode cX9_reaches 119 = .ok (.lstore 6, 2) := by decide +kernel
theorem dX9_reaches_121 : decode cX9_reaches 121 = .ok (.iinc 8 1, 3) := by decide +kernel
theorem dX9_reaches_124 : decode cX9_reaches 124 = .ok (.goto (-116), 3) := by decide +kernel
theorem dX9_reaches_127 : decode cX9_reaches 127 = .ok (.lload 6, 2) := by decide +kernel
theorem dX9_reaches_129 : decode cX9_reaches 129 = .ok (.iload 5, 2) := by decide +kernel
theorem dX9_reaches_131 : decode cX9_reaches 131 = .ok (.i2l, 1) := by decide +kernel
theorem dX9_reaches_132 : decode cX9_reaches 132 = .ok (.lcmp, 1) := by decide +kernel
theorem dX9_reaches_133 : decode cX9_reaches 133 = .ok (.ifCond .lt 7, 3) := by decide +kernel
theorem dX9_reaches_136 : decode cX9_reaches 136 = .ok (.iconst 1, 1) := by decide +kernel
theorem dX9_reaches_137 : decode cX9_reaches 137 = .ok (.goto 4, 3) := by decide +kernel
theorem dX9_reaches_140 : decode cX9_reaches 140 = .ok (.iconst 0, 1) := by decide +kernel
theorem dX9_reaches_141 : decode cX9_reaches 141 = .ok (.ireturn, 1) := by decide +kernel
def fX9_reaches_j80 (rec : eg_H → Nat → Nat → Int32 → Int32 → Int32 → Int32 → Int64 → Int32 → Option (Int32 × Int64 × eg_H)) (h : eg_H) (l0 : Nat) (l1 : Nat) (l2 : Int32) (l3 : Int32) (l4 : Int32) (l5 : Int32) (l6 : Int64) (l8 : Int32) (l10 : Int32) (s0 : Nat) (s1 : Int32) : Option (Int32 × Int64 × eg_H) :=
  (fX7_slips h s0 s1).bind fun ⟨v2, h1⟩ =>
  if l10 < 0 then
    (rec h1 l0 l1 l2 l3 l4 l5 (0 : Int64) (l8 + (1 : Int32)))
  else
    (eg_gR h1 9 5 l0).bind fun p5 =>
    (eg_al h1 p5).bind fun v7 =>
    if l10 < v7 then
      ((eg_gR h1 9 5 l0).bind fun p10 =>
      (eg_aI h1 100 p10 l10).bind fun v12 =>
      if v2.toInt64 = 0 then none else
      (some (((l6 * v12.toInt64) / v2.toInt64))).bind fun v15 =>
      rec h1 l0 l1 l2 l3 l4 l5 v15 (l8 + (1 : Int32)))
    else
      rec h1 l0 l1 l2 l3 l4 l5 (0 : Int64) (l8 + (1 : Int32))
set_option maxRecDepth 20000 in
theorem fX9_reaches_j80_ok {rec : eg_H → Nat → Nat → Int32 → Int32 → Int32 → Int32 → Int64 → Int32 → Option (Int32 × Int64 × eg_H)} {h0 : eg_H} {Z : eg_C → State → Prop} {N S : Nat} (h : eg_H) (l0 : Nat) (l1 : Nat) (l2 : Int32) (l3 : Int32) (l4 : Int32) (l5 : Int32) (l6 : Int64) (l8 : Int32) (l10 : Int32) (s0 : Nat) (s1 : Int32) (eE : Int32 × Int64 × eg_H) (hF : fX9_reaches_j80 rec h l0 l1 l2 l3 l4 l5 l6 l8 l10 s0 s1 = some eE) (hrec : ∀ (h : eg_H) (l0 : Nat) (l1 : Nat) (l2 : Int32) (l3 : Int32) (l4 : Int32) (l5 : Int32) (l6 : Int64) (l8 : Int32), rec h l0 l1 l2 l3 l4 l5 l6 l8 = some eE → eg_AW (RX9, cX9_reaches, 12, 3, none, "reaches", (some .boolean)) Z N S h0 8 [(0, .ref l0), (1, .ref l1), (2, .int l2), (3, .int l3), (4, .int l4), (5, .int l5), (6, .long l6), (8, .int l8)] [] h) (hk0 : ∀ (l5 : Int32) (l6 : Int64) (h : eg_H), eE = (l5, l6, h) → eg_AW (RX9, cX9_reaches, 12, 3, none, "reaches", (some .boolean)) Z N S h0 127 [(5, .int l5), (6, .long l6)] [] h) : eg_AW (RX9, cX9_reaches, 12, 3, none, "reaches", (some .boolean)) Z N S h0 80 [(0, .ref l0), (1, .ref l1), (2, .int l2), (3, .int l3), (4, .int l4), (5, .int l5), (6, .long l6), (8, .int l8), (10, .int l10)] [.int s1, .ref s0] h := by
  replace hF := eg_bind hF; obtain ⟨⟨v2, h1⟩, e3, hF⟩ := hF
  refine eg_callV (c := 7) (n := 1) [.int s1] dX9_reaches_80 (mX7_slips e3) rfl (fX7_slips_O e3) (Nat.le_of_ble_eq_true rfl) rfl ew_1064 ew_906 ew_907 ew_104 ew_908 hy_X7_slips rfl (Nat.le_of_ble_eq_true rfl) (Nat.le_of_ble_eq_true rfl) (Nat.le_of_ble_eq_true rfl) ?_
  refine eg_istore (i := 11) [(11, .int v2), (0, .ref l0), (1, .ref l1), (2, .int l2), (3, .int l3), (4, .int l4), (5, .int l5), (6, .long l6), (8, .int l8), (10, .int l10)] dX9_reaches_83 (Nat.le_of_ble_eq_true rfl) rfl ?_
  refine eg_iload (i := 10) 9 dX9_reaches_85 rfl ?_
  refine eg_if_lt 100 dX9_reaches_87 rfl (fun c4 => ?_) (fun c4 => ?_)
  · replace hF := eg_it c4 hF
    refine eg_lconst (v := (0 : Int64)) dX9_reaches_100 (by decide) ?_
    refine eg_goto 119 dX9_reaches_101 rfl ?_
    refine eg_lstore (i := 6) [(6, .long (0 : Int64)), (11, .int v2), (0, .ref l0), (1, .ref l1), (2, .int l2), (3, .int l3), (4, .int l4), (5, .int l5), (8, .int l8), (10, .int l10)] dX9_reaches_119 (Nat.le_of_ble_eq_true rfl) rfl ?_
    refine eg_iinc (i := 8) (v := (l8 + (1 : Int32))) 8 [(8, .int (l8 + (1 : Int32))), (6, .long (0 : Int64)), (11, .int v2), (0, .ref l0), (1, .ref l1), (2, .int l2), (3, .int l3), (4, .int l4), (5, .int l5), (10, .int l10)] dX9_reaches_121 rfl rfl (Nat.le_of_ble_eq_true rfl) rfl ?_
    refine eg_goto 8 dX9_reaches_124 rfl ?_
    exact eg_sub [3, 4, 5, 6, 7, 8, 1, 0] [(0, .ref l0), (1, .ref l1), (2, .int l2), (3, .int l3), (4, .int l4), (5, .int l5), (6, .long (0 : Int64)), (8, .int (l8 + (1 : Int32)))] rfl (hrec h1 l0 l1 l2 l3 l4 l5 (0 : Int64) (l8 + (1 : Int32)) hF)
  · replace hF := eg_if c4 hF
    refine eg_iload (i := 10) 9 dX9_reaches_90 rfl ?_
    refine eg_aload_n (i := 0) 1 dX9_reaches_92 rfl rfl ?_
    replace hF := eg_bind hF; obtain ⟨p5, e6, hF⟩ := hF
    refine eg_getR dX9_reaches_93 e6 (Nat.le_of_ble_eq_true rfl) (Nat.le_of_ble_eq_true rfl) rfl ew_323 ?_
    replace hF := eg_bind hF; obtain ⟨v7, e8, hF⟩ := hF
    refine eg_alen dX9_reaches_96 e8 ?_
    refine eg_ic_lt 104 dX9_reaches_97 rfl (fun c9 => ?_) (fun c9 => ?_)
    · replace hF := eg_it c9 hF
      refine eg_lload (i := 6) 7 dX9_reaches_104 rfl ?_
      refine eg_aload_n (i := 0) 1 dX9_reaches_106 rfl rfl ?_
      replace hF := eg_bind hF; obtain ⟨p10, e11, hF⟩ := hF
      refine eg_getR dX9_reaches_107 e11 (Nat.le_of_ble_eq_true rfl) (Nat.le_of_ble_eq_true rfl) rfl ew_323 ?_
      refine eg_iload (i := 10) 9 dX9_reaches_110 rfl ?_
      replace hF := eg_bind hF; obtain ⟨v12, e13, hF⟩ := hF
      refine eg_iald dX9_reaches_112 e13 ?_
      refine eg_i2l dX9_reaches_113 ?_
      refine eg_lmul dX9_reaches_114 ?_
      refine eg_iload (i := 11) 0 dX9_reaches_115 rfl ?_
      refine eg_i2l dX9_reaches_117 ?_
      replace hF := eg_nif hF; obtain ⟨c14, hF⟩ := hF
      refine eg_ldiv dX9_reaches_118 c14 ?_
      replace hF := eg_bind hF; obtain ⟨v15, e16, hF⟩ := hF
      replace e16 := Option.some.inj e16
      rw [e16]
      refine eg_lstore (i := 6) [(6, .long v15), (11, .int v2), (0, .ref l0), (1, .ref l1), (2, .int l2), (3, .int l3), (4, .int l4), (5, .int l5), (8, .int l8), (10, .int l10)] dX9_reaches_119 (Nat.le_of_ble_eq_true rfl) rfl ?_
      refine eg_iinc (i := 8) (v := (l8 + (1 : Int32))) 8 [(8, .int (l8 + (1 : Int32))), (6, .long v15), (11, .int v2), (0, .ref l0), (1, .ref l1), (2, .int l2), (3, .int l3), (4, .int l4), (5, .int l5), (10, .int l10)] dX9_reaches_121 rfl rfl (Nat.le_of_ble_eq_true rfl) rfl ?_
      refine eg_goto 8 dX9_reaches_124 rfl ?_
      exact eg_sub [3, 4, 5, 6, 7, 8, 1, 0] [(0, .ref l0), (1, .ref l1), (2, .int l2), (3, .int l3), (4, .int l4), (5, .int l5), (6, .long v15), (8, .int (l8 + (1 : Int32)))] rfl (hrec h1 l0 l1 l2 l3 l4 l5 v15 (l8 + (1 : Int32)) hF)
    · replace hF := eg_if c9 hF
      refine eg_lconst (v := (0 : Int64)) dX9_reaches_100 (by decide) ?_
      refine eg_goto 119 dX9_reaches_101 rfl ?_
      refine eg_lstore (i := 6) [(6, .long (0 : Int64)), (11, .int v2), (0, .ref l0), (1, .ref l1), (2, .int l2), (3, .int l3), (4, .int l4), (5, .int l5), (8, .int l8), (10, .int l10)] dX9_reaches_119 (Nat.le_of_ble_eq_true rfl) rfl ?_
      refine eg_iinc (i := 8) (v := (l8 + (1 : Int32))) 8 [(8, .int (l8 + (1 : Int32))), (6, .long (0 : Int64)), (11, .int v2), (0, .ref l0), (1, .ref l1), (2, .int l2), (3, .int l3), (4, .int l4), (5, .int l5), (10, .int l10)] dX9_reaches_121 rfl rfl (Nat.le_of_ble_eq_true rfl) rfl ?_
      refine eg_goto 8 dX9_reaches_124 rfl ?_
      exact eg_sub [3, 4, 5, 6, 7, 8, 1, 0] [(0, .ref l0), (1, .ref l1), (2, .int l2), (3, .int l3), (4, .int l4), (5, .int l5), (6, .long (0 : Int64)), (8, .int (l8 + (1 : Int32)))] rfl (hrec h1 l0 l1 l2 l3 l4 l5 (0 : Int64) (l8 + (1 : Int32)) hF)
def fX9_reaches_j60 (rec : eg_H → Nat → Nat → Int32 → Int32 → Int32 → Int32 → Int64 → Int32 → Option (Int32 × Int64 × eg_H)) (h : eg_H) (l0 : Nat) (l1 : Nat) (l2 : Int32) (l3 : Int32) (l4 : Int32) (l5 : Int32) (l6 : Int64) (l8 : Int32) (l9 : Int32) (s0 : Int32) (s1 : Int32) : Option (Int32 × Int64 × eg_H) :=
  (some ((s0 + s1))).bind fun v1 =>
  if l9 = 0 then
    (fX9_reaches_j80 rec h l0 l1 l2 l3 l4 l5 l6 l8 v1 l1 (l2 % (10 : Int32)))
  else
    fX9_reaches_j80 rec h l0 l1 l2 l3 l4 l5 l6 l8 v1 l1 (l2 / (10 : Int32))
set_option maxRecDepth 20000 in
theorem fX9_reaches_j60_ok {rec : eg_H → Nat → Nat → Int32 → Int32 → Int32 → Int32 → Int64 → Int32 → Option (Int32 × Int64 × eg_H)} {h0 : eg_H} {Z : eg_C → State → Prop} {N S : Nat} (h : eg_H) (l0 : Nat) (l1 : Nat) (l2 : Int32) (l3 : Int32) (l4 : Int32) (l5 : Int32) (l6 : Int64) (l8 : Int32) (l9 : Int32) (s0 : Int32) (s1 : Int32) (eE : Int32 × Int64 × eg_H) (hF : fX9_reaches_j60 rec h l0 l1 l2 l3 l4 l5 l6 l8 l9 s0 s1 = some eE) (hrec : ∀ (h : eg_H) (l0 : Nat) (l1 : Nat) (l2 : Int32) (l3 : Int32) (l4 : Int32) (l5 : Int32) (l6 : Int64) (l8 : Int32), rec h l0 l1 l2 l3 l4 l5 l6 l8 = some eE → eg_AW (RX9, cX9_reaches, 12, 3, none, "reaches", (some .boolean)) Z N S h0 8 [(0, .ref l0), (1, .ref l1), (2, .int l2), (3, .int l3), (4, .int l4), (5, .int l5), (6, .long l6), (8, .int l8)] [] h) (hk0 : ∀ (l5 : Int32) (l6 : Int64) (h : eg_H), eE = (l5, l6, h) → eg_AW (RX9, cX9_reaches, 12, 3, none, "reaches", (some .boolean)) Z N S h0 127 [(5, .int l5), (6, .long l6)] [] h) : eg_AW (RX9, cX9_reaches, 12, 3, none, "reaches", (some .boolean)) Z N S h0 60 [(0, .ref l0), (1, .ref l1), (2, .int l2), (3, .int l3), (4, .int l4), (5, .int l5), (6, .long l6), (8, .int l8), (9, .int l9)] [.int s1, .int s0] h := by
  refine eg_iadd dX9_reaches_60 ?_
  replace hF := eg_bind hF; obtain ⟨v1, e2, hF⟩ := hF
  replace e2 := Option.some.inj e2
  rw [e2]
  refine eg_istore (i := 10) [(10, .int v1), (0, .ref l0), (1, .ref l1), (2, .int l2), (3, .int l3), (4, .int l4), (5, .int l5), (6, .long l6), (8, .int l8), (9, .int l9)] dX9_reaches_61 (Nat.le_of_ble_eq_true rfl) rfl ?_
  refine eg_aload_n (i := 1) 2 dX9_reaches_63 rfl rfl ?_
  refine eg_iload (i := 9) 9 dX9_reaches_64 rfl ?_
  refine eg_if_eq 76 dX9_reaches_66 rfl (fun c3 => ?_) (fun c3 => ?_)
  · replace hF := eg_it c3 hF
    refine eg_iload_n (i := 2) 3 dX9_reaches_76 rfl rfl ?_
    refine eg_bipush (v := (10 : Int32)) dX9_reaches_77 (by decide) ?_
    refine eg_irem dX9_reaches_79 (by decide) ?_
    exact eg_sub [1, 2, 3, 4, 5, 6, 7, 8, 0] [(0, .ref l0), (1, .ref l1), (2, .int l2), (3, .int l3), (4, .int l4), (5, .int l5), (6, .long l6), (8, .int l8), (10, .int v1)] rfl (fX9_reaches_j80_ok h l0 l1 l2 l3 l4 l5 l6 l8 v1 l1 (l2 % (10 : Int32)) eE hF hrec hk0)
  · replace hF := eg_if c3 hF
    refine eg_iload_n (i := 2) 3 dX9_reaches_69 rfl rfl ?_
    refine eg_bipush (v := (10 : Int32)) dX9_reaches_70 (by decide) ?_
    refine eg_idiv dX9_reaches_72 (by decide) ?_
    refine eg_goto 80 dX9_reaches_73 rfl ?_
    exact eg_sub [1, 2, 3, 4, 5, 6, 7, 8, 0] [(0, .ref l0), (1, .ref l1), (2, .int l2), (3, .int l3), (4, .int l4), (5, .int l5), (6, .long l6), (8, .int l8), (10, .int v1)] rfl (fX9_reaches_j80_ok h l0 l1 l2 l3 l4 l5 l6 l8 v1 l1 (l2 / (10 : Int32)) eE hF hrec hk0)
def fX9_reaches_j37 (rec : eg_H → Nat → Nat → Int32 → Int32 → Int32 → Int32 → Int64 → Int32 → Option (Int32 × Int64 × eg_H)) (h : eg_H) (l0 : Nat) (l1 : Nat) (l2 : Int32) (l3 : Int32) (l4 : Int32) (l5 : Int32) (l6 : Int64) (l8 : Int32) (s0 : Int32) : Option (Int32 × Int64 × eg_H) :=
  if s0 = 0 then
    (fX9_reaches_j60 rec h l0 l1 l2 l3 l4 l5 l6 l8 s0 (l8 * (10 : Int32)) (l3 % (100 : Int32)))
  else
    fX9_reaches_j60 rec h l0 l1 l2 l3 l4 l5 l6 l8 s0 (l8 * (10 : Int32)) (l3 / (100 : Int32))
set_option maxRecDepth 20000 in
theorem fX9_reaches_j37_ok {rec : eg_H → Nat → Nat → Int32 → Int32 → Int32 → Int32 → Int64 → Int32 → Option (Int32 × Int64 × eg_H)} {h0 : eg_H} {Z : eg_C → State → Prop} {N S : Nat} (h : eg_H) (l0 : Nat) (l1 : Nat) (l2 : Int32) (l3 : Int32) (l4 : Int32) (l5 : Int32) (l6 : Int64) (l8 : Int32) (s0 : Int32) (eE : Int32 × Int64 × eg_H) (hF : fX9_reaches_j37 rec h l0 l1 l2 l3 l4 l5 l6 l8 s0 = some eE) (hrec : ∀ (h : eg_H) (l0 : Nat) (l1 : Nat) (l2 : Int32) (l3 : Int32) (l4 : Int32) (l5 : Int32) (l6 : Int64) (l8 : Int32), rec h l0 l1 l2 l3 l4 l5 l6 l8 = some eE → eg_AW (RX9, cX9_reaches, 12, 3, none, "reaches", (some .boolean)) Z N S h0 8 [(0, .ref l0), (1, .ref l1), (2, .int l2), (3, .int l3), (4, .int l4), (5, .int l5), (6, .long l6), (8, .int l8)] [] h) (hk0 : ∀ (l5 : Int32) (l6 : Int64) (h : eg_H), eE = (l5, l6, h) → eg_AW (RX9, cX9_reaches, 12, 3, none, "reaches", (some .boolean)) Z N S h0 127 [(5, .int l5), (6, .long l6)] [] h) : eg_AW (RX9, cX9_reaches, 12, 3, none, "reaches", (some .boolean)) Z N S h0 37 [(0, .ref l0), (1, .ref l1), (2, .int l2), (3, .int l3), (4, .int l4), (5, .int l5), (6, .long l6), (8, .int l8)] [.int s0] h := by
  refine eg_istore (i := 9) [(9, .int s0), (0, .ref l0), (1, .ref l1), (2, .int l2), (3, .int l3), (4, .int l4), (5, .int l5), (6, .long l6), (8, .int l8)] dX9_reaches_37 (Nat.le_of_ble_eq_true rfl) rfl ?_
  refine eg_iload (i := 8) 8 dX9_reaches_39 rfl ?_
  refine eg_bipush (v := (10 : Int32)) dX9_reaches_41 (by decide) ?_
  refine eg_imul dX9_reaches_43 ?_
  refine eg_iload (i := 9) 0 dX9_reaches_44 rfl ?_
  refine eg_if_eq 56 dX9_reaches_46 rfl (fun c1 => ?_) (fun c1 => ?_)
  · replace hF := eg_it c1 hF
    refine eg_iload_n (i := 3) 4 dX9_reaches_56 rfl rfl ?_
    refine eg_bipush (v := (100 : Int32)) dX9_reaches_57 (by decide) ?_
    refine eg_irem dX9_reaches_59 (by decide) ?_
    exact eg_sub [1, 2, 3, 4, 5, 6, 7, 8, 0] [(0, .ref l0), (1, .ref l1), (2, .int l2), (3, .int l3), (4, .int l4), (5, .int l5), (6, .long l6), (8, .int l8), (9, .int s0)] rfl (fX9_reaches_j60_ok h l0 l1 l2 l3 l4 l5 l6 l8 s0 (l8 * (10 : Int32)) (l3 % (100 : Int32)) eE hF hrec hk0)
  · replace hF := eg_if c1 hF
    refine eg_iload_n (i := 3) 4 dX9_reaches_49 rfl rfl ?_
    refine eg_bipush (v := (100 : Int32)) dX9_reaches_50 (by decide) ?_
    refine eg_idiv dX9_reaches_52 (by decide) ?_
    refine eg_goto 60 dX9_reaches_53 rfl ?_
    exact eg_sub [1, 2, 3, 4, 5, 6, 7, 8, 0] [(0, .ref l0), (1, .ref l1), (2, .int l2), (3, .int l3), (4, .int l4), (5, .int l5), (6, .long l6), (8, .int l8), (9, .int s0)] rfl (fX9_reaches_j60_ok h l0 l1 l2 l3 l4 l5 l6 l8 s0 (l8 * (10 : Int32)) (l3 / (100 : Int32)) eE hF hrec hk0)
def fX9_reaches_L8 : Nat → eg_H → Nat → Nat → Int32 → Int32 → Int32 → Int32 → Int64 → Int32 → Option (Int32 × Int64 × eg_H)
  | 0, _, _, _, _, _, _, _, _, _ => none
  | n + 1, h, l0, l1, l2, l3, l4, l5, l6, l8 =>
    if l4 < l8 then
      (some (l5, l6, h))
    else
      if l6 < l5.toInt64 then
        (some (l5, l6, h))
      else
        if (l8 % (2 : Int32)) = (1 : Int32) then
          (fX9_reaches_j37 (fX9_reaches_L8 n) h l0 l1 l2 l3 l4 l5 l6 l8 (1 : Int32))
        else
          fX9_reaches_j37 (fX9_reaches_L8 n) h l0 l1 l2 l3 l4 l5 l6 l8 (0 : Int32)
set_option maxRecDepth 20000 in
theorem fX9_reaches_L8_ok {h0 : eg_H} {Z : eg_C → State → Prop} {N S : Nat} : ∀ (n : Nat) (h : eg_H) (l0 : Nat) (l1 : Nat) (l2 : Int32) (l3 : Int32) (l4 : Int32) (l5 : Int32) (l6 : Int64) (l8 : Int32) (eE : Int32 × Int64 × eg_H), fX9_reaches_L8 n h l0 l1 l2 l3 l4 l5 l6 l8 = some eE → (hk0 : ∀ (l5 : Int32) (l6 : Int64) (h : eg_H), eE = (l5, l6, h) → eg_AW (RX9, cX9_reaches, 12, 3, none, "reaches", (some .boolean)) Z N S h0 127 [(5, .int l5), (6, .long l6)] [] h) → eg_AW (RX9, cX9_reaches, 12, 3, none, "reaches", (some .boolean)) Z N S h0 8 [(0, .ref l0), (1, .ref l1), (2, .int l2), (3, .int l3), (4, .int l4), (5, .int l5), (6, .long l6), (8, .int l8)] [] h := by
  intro n
  induction n with
  | zero => intro h l0 l1 l2 l3 l4 l5 l6 l8 eE hF; exact absurd hF (by intro q; cases q)
  | succ n ih =>
    intro h l0 l1 l2 l3 l4 l5 l6 l8 eE hF hk0
    have hrec := fun (h' : eg_H) (l0 : Nat) (l1 : Nat) (l2 : Int32) (l3 : Int32) (l4 : Int32) (l5 : Int32) (l6 : Int64) (l8 : Int32) hq => ih h' l0 l1 l2 l3 l4 l5 l6 l8 eE hq hk0
    refine eg_iload (i := 8) 7 dX9_reaches_8 rfl ?_
    refine eg_iload (i := 4) 4 dX9_reaches_10 rfl ?_
    refine eg_ic_gt 127 dX9_reaches_12 rfl (fun c1 => ?_) (fun c1 => ?_)
    · replace hF := eg_it c1 hF
      exact eg_sub [5, 6] [(5, .int l5), (6, .long l6)] rfl (hk0 l5 l6 h (Option.some.inj hF).symm)
    · replace hF := eg_if c1 hF
      refine eg_lload (i := 6) 6 dX9_reaches_15 rfl ?_
      refine eg_iload (i := 5) 5 dX9_reaches_17 rfl ?_
      refine eg_i2l dX9_reaches_19 ?_
      refine eg_lc_lt 127 dX9_reaches_20 dX9_reaches_21 rfl (fun c2 => ?_) (fun c2 => ?_)
      · replace hF := eg_it c2 hF
        exact eg_sub [5, 6] [(5, .int l5), (6, .long l6)] rfl (hk0 l5 l6 h (Option.some.inj hF).symm)
      · replace hF := eg_if c2 hF
        refine eg_iload (i := 8) 7 dX9_reaches_24 rfl ?_
        refine eg_iconst (v := (2 : Int32)) dX9_reaches_26 (by decide) ?_
        refine eg_irem dX9_reaches_27 (by decide) ?_
        refine eg_iconst (v := (1 : Int32)) dX9_reaches_28 (by decide) ?_
        refine eg_ic_ne 36 dX9_reaches_29 rfl (fun c3 => ?_) (fun c3 => ?_)
        · replace hF := eg_it c3 hF
          refine eg_iconst (v := (1 : Int32)) dX9_reaches_32 (by decide) ?_
          refine eg_goto 37 dX9_reaches_33 rfl ?_
          exact (fX9_reaches_j37_ok h l0 l1 l2 l3 l4 l5 l6 l8 (1 : Int32) eE hF hrec hk0)
        · replace hF := eg_if c3 hF
          refine eg_iconst (v := (0 : Int32)) dX9_reaches_36 (by decide) ?_
          exact (fX9_reaches_j37_ok h l0 l1 l2 l3 l4 l5 l6 l8 (0 : Int32) eE hF hrec hk0)
def fX9_reaches (h : eg_H) (l0 : Nat) (l1 : Nat) (l2 : Int32) (l3 : Int32) (l4 : Int32) (l5 : Int32) : Option (Int32 × eg_H) :=
  if eg_isO h 9 l0 then (
    (fX9_reaches_L8 eg_F h l0 l1 l2 l3 l4 l5 (1000000000 : Int64) (1 : Int32)).bind fun e =>
    match e with
    | (v3, v4, h5) =>
      if v4 < v3.toInt64 then
        (some ((0 : Int32), h5))
      else
        some ((1 : Int32), h5)) else none
theorem fX9_reaches_O {h : eg_H} {l0 : Nat} {l1 : Nat} {l2 : Int32} {l3 : Int32} {l4 : Int32} {l5 : Int32} {rE : Int32} {hE : eg_H} (hF : fX9_reaches h l0 l1 l2 l3 l4 l5 = some (rE, hE)) : eg_isO h 9 l0 := (eg_ifn hF).1
set_option maxRecDepth 20000 in
theorem mX9_reaches {h : eg_H} {l0 : Nat} {l1 : Nat} {l2 : Int32} {l3 : Int32} {l4 : Int32} {l5 : Int32} {rE : Int32} {hE : eg_H} (hF : fX9_reaches h l0 l1 l2 l3 l4 l5 = some (rE, hE)) : eg_Met yX9_reaches cX9_reaches 12 (some .boolean) 3 [.ref l0, .ref l1, .int l2, .int l3, .int l4, .int l5] h (some (.int rE)) hE := by
  refine eg_enter rfl (Nat.le_of_ble_eq_true rfl) ?_
  show eg_AW (RX9, cX9_reaches, 12, 3, none, "reaches", (some .boolean)) (eg_Zm (some (.int rE)) hE h) (eg_nc hE) (eg_ns hE) h 0 [(0, .ref l0), (1, .ref l1), (2, .int l2), (3, .int l3), (4, .int l4), (5, .int l5)] [] h
  replace hF := (eg_ifn hF).2
  refine eg_ldc2 (v := (1000000000 : Int64)) dX9_reaches_0 ew_1063 ?_
  refine eg_lstore (i := 6) [(6, .long (1000000000 : Int64)), (0, .ref l0), (1, .ref l1), (2, .int l2), (3, .int l3), (4, .int l4), (5, .int l5)] dX9_reaches_3 (Nat.le_of_ble_eq_true rfl) rfl ?_
  refine eg_iconst (v := (1 : Int32)) dX9_reaches_5 (by decide) ?_
  refine eg_istore (i := 8) [(8, .int (1 : Int32)), (6, .long (1000000000 : Int64)), (0, .ref l0), (1, .ref l1), (2, .int l2), (3, .int l3), (4, .int l4), (5, .int l5)] dX9_reaches_6 (Nat.le_of_ble_eq_true rfl) rfl ?_
  replace hF := eg_bind hF; obtain ⟨x2, e1, hF⟩ := hF
  refine eg_sub [2, 3, 4, 5, 6, 7, 1, 0] [(0, .ref l0), (1, .ref l1), (2, .int l2), (3, .int l3), (4, .int l4), (5, .int l5), (6, .long (1000000000 : Int64)), (8, .int (1 : Int32))] rfl (fX9_reaches_L8_ok eg_F h l0 l1 l2 l3 l4 l5 (1000000000 : Int64) (1 : Int32) x2 e1 ?_)
  · intro v3 v4 h5 e7
    subst e7
    refine eg_lload (i := 6) 1 dX9_reaches_127 rfl ?_
    refine eg_iload (i := 5) 0 dX9_reaches_129 rfl ?_
    refine eg_i2l dX9_reaches_131 ?_
    refine eg_lc_lt 140 dX9_reaches_132 dX9_reaches_133 rfl (fun c6 => ?_) (fun c6 => ?_)
    · replace hF := eg_it c6 hF
      refine eg_iconst (v := (0 : Int32)) dX9_reaches_140 (by decide) ?_
      exact eg_zretE dX9_reaches_141 (Or.inl rfl) hF
    · replace hF := eg_if c6 hF
      refine eg_iconst (v := (1 : Int32)) dX9_reaches_136 (by decide) ?_
      refine eg_goto 141 dX9_reaches_137 rfl ?_
      exact eg_zretE dX9_reaches_141 (Or.inr rfl) hF
theorem dX9_leastRise_0 : decode cX9_leastRise 0 = .ok (.aload_n 1, 1) := by decide +kernel
theorem dX9_leastRise_1 : decode cX9_leastRise 1 = .ok (.iload_n 2, 1) := by decide +kernel
theorem dX9_leastRise_2 : decode cX9_leastRise 2 = .ok (.bipush 10, 2) := by decide +kernel
theorem dX9_leastRise_4 : decode cX9_leastRise 4 = .ok (.idiv, 1) := by decide +kernel
theorem dX9_leastRise_5 : decode cX9_leastRise 5 = .ok (.iconst 3, 1) := by decide +kernel
theorem dX9_leastRise_6 : decode cX9_leastRise 6 = .ok (.invokevirtual 85, 3) := by decide +kernel
theorem dX9_leastRise_9 : decode cX9_leastRise 9 = .ok (.istore 5, 2) := by decide +kernel
theorem dX9_leastRise_11 : decode cX9_leastRise 11 = .ok (.aload_n 1, 1) := by decide +kernel
theorem dX9_leastRise_12 : decode cX9_leastRise 12 = .ok (.iload_n 2, 1) := by decide +kernel
theorem dX9_leastRise_13 : decode cX9_leastRise 13 = .ok (.bipush 10, 2) := by decide +kernel
theorem dX9_leastRise_15 : decode cX9_leastRise 15 = .ok (.irem, 1) := by decide +kernel
theorem dX9_leastRise_16 : decode cX9_leastRise 16 = .ok (.iconst 3, 1) := by decide +kernel
theorem dX9_leastRise_17 : decode cX9_leastRise 17 = .ok (.invokevirtual 85, 3) := by decide +kernel
theorem dX9_leastRise_20 : decode cX9_leastRise 20 = .ok (.istore 6, 2) := by decide +kernel
theorem dX9_leastRise_22 : decode cX9_leastRise 22 = .ok (.iconst 0, 1) := by decide +kernel
theorem dX9_leastRise_23 : decode cX9_leastRise 23 = .ok (.istore 7, 2) := by decide +kernel
theorem dX9_leastRise_25 : decode cX9_leastRise 25 = .ok (.iload 7, 2) := by decide +kernel
theorem dX9_leastRise_27 : decode cX9_leastRise 27 = .ok (.bipush 18, 2) := by decide +kernel
theorem dX9_leastRise_29 : decode cX9_leastRise 29 = .ok (.if_icmp .gt 88, 3) := by decide +kernel
theorem dX9_leastRise_32 : decode cX9_leastRise 32 = .ok (.iconst 0, 1) := by decide +kernel
theorem dX9_leastRise_33 : decode cX9_leastRise 33 = .ok (.istore 8, 2) := by decide +kernel
theorem dX9_leastRise_35 : decode cX9_leastRise 35 = .ok (.iload 8, 2) := by decide +kernel
theorem dX9_leastRise_37 : decode cX9_leastRise 37 = .ok (.iload 7, 2) := by decide +kernel
theorem dX9_leastRise_39 : decode cX9_leastRise 39 = .ok (.if_icmp .gt 72, 3) := by decide +kernel
theorem dX9_leastRise_42 : decode cX9_leastRise 42 = .ok (.iload 5, 2) := by decide +kernel
theorem dX9_leastRise_44 : decode cX9_leastRise 44 = .ok (.iload 8, 2) := by decide +kernel
theorem dX9_leastRise_46 : decode cX9_leastRise 46 = .ok (.iadd, 1) := by decide +kernel
theorem dX9_leastRise_47 : decode cX9_leastRise 47 = .ok (.istore 9, 2) := by decide +kernel
theorem dX9_leastRise_49 : decode cX9_leastRise 49 = .ok (.iload 6, 2) := by decide +kernel
theorem dX9_leastRise_51 : decode cX9_leastRise 51 = .ok (.iload 7, 2) := by decide +kernel
theorem dX9_leastRise_53 : decode cX9_leastRise 53 = .ok (.iadd, 1) := by decide +kernel
theorem dX9_leastRise_54 : decode cX9_leastRise 54 = .ok (.iload 8, 2) := by decide +kernel
theorem dX9_leastRise_56 : decode cX9_leastRise 56 = .ok (.isub, 1) := by decide +kernel
theorem dX9_leastRise_57 : decode cX9_leastRise 57 = .ok (.istore 10, 2) := by decide +kernel
theorem dX9_leastRise_59 : decode cX9_leastRise 59 = .ok (.iload 9, 2) := by decide +kernel
theorem dX9_leastRise_61 : decode cX9_leastRise 61 = .ok (.bipush 9, 2) := by decide +kernel
theorem dX9_leastRise_63 : decode cX9_leastRise 63 = .ok (.if_icmp .gt 42, 3) := by decide +kernel
theorem dX9_leastRise_66 : decode cX9_leastRise 66 = .ok (.iload 10, 2) := by decide +kernel
theorem dX9_leastRise_68 : decode cX9_leastRise 68 = .ok (.bipush 9, 2) := by decide +kernel
theorem dX9_leastRise_70 : decode cX9_leastRise 70 = .ok (.if_icmp .gt 35, 3) := by decide +kernel
theorem dX9_leastRise_73 : decode cX9_leastRise 73 = .ok (.aload_n 0, 1) := by decide +kernel
theorem dX9_leastRise_74 : decode cX9_leastRise 74 = .ok (.aload_n 1, 1) := by decide +kernel
theorem dX9_leastRise_75 : decode cX9_leastRise 75 = .ok (.iload_n 2, 1) := by decide +kernel
theorem dX9_leastRise_76 : decode cX9_leastRise 76 = .ok (.bipush 100, 2) := by decide +kernel
theorem dX9_leastRise_78 : decode cX9_leastRise 78 = .ok (.iload 9, 2) := by decide +kernel
theorem dX9_leastRise_80 : decode cX9_leastRise 80 = .ok (.imul, 1) := by decide +kernel
theorem dX9_leastRise_81 : decode cX9_leastRise 81 = .ok (.iload 10, 2) := by decide +kernel
theorem dX9_leastRise_83 : decode cX9_leastRise 83 = .ok (.iadd, 1) := by decide +kernel
theorem dX9_leastRise_84 : decode cX9_leastRise 84 = .ok (.iload_n 3, 1) := by decide +kernel
theorem dX9_leastRise_85 : decode cX9_leastRise 85 = .ok (.iload 4, 2) := by decide +kernel
theorem dX9_leastRise_87 : decode cX9_leastRise 87 = .ok (.invokevirtual 90, 3) := by decide +kernel
theorem dX9_leastRise_90 : decode cX9_leastRise 90 = .ok (.ifCond .eq 15, 3) := by decide +kernel
theorem dX9_leastRise_93 : decode cX9_leastRise 93 = .ok (.bipush 10, 2) := by decide +kernel
theorem dX9_leastRise_95 : decode cX9_leastRise 95 = .ok (.iload 8, 2) := by decide +kernel
theorem dX9_leastRise_97 : decode cX9_leastRise 97 = .ok (.imul, 1) := by decide +kernel
theorem dX9_leastRise_98 : decode cX9_leastRise 98 = .ok (.iload 7, 2) := by decide +kernel
theorem dX9_leastRise_100 : decode cX9_leastRise 100 = .ok (.iadd, 1) := by decide +kernel
theorem dX9_leastRise_101 : decode cX9_leastRise 101 = .ok (.iload 8, 2) := by decide +kernel
theorem dX9_leastRise_103 : decode cX9_leastRise 103 = .ok (.isub, 1) := by decide +kernel
theorem dX9_leastRise_104 : decode cX9_leastRise 104 = .ok (.ireturn, 1) := by decide +kernel
theorem dX9_leastRise_105 : decode cX9_leastRise 105 = .ok (.iinc 8 1, 3) := by decide +kernel
theorem dX9_leastRise_108 : decode cX9_leastRise 108 = .ok (.goto (-73), 3) := by decide +kernel
theorem dX9_leastRise_111 : decode cX9_leastRise 111 = .ok (.iinc 7 1, 3) := by decide +kernel
theorem dX9_leastRise_114 : decode cX9_leastRise 114 = .ok (.goto (-89), 3) := by decide +kernel
theorem dX9_leastRise_117 : decode cX9_leastRise 117 = .ok (.iconst (-1), 1) := by decide +kernel
theorem dX9_leastRise_118 : decode cX9_leastRise 118 = .ok (.ireturn, 1) := by decide +kernel
def fX9_leastRise_L35 : Nat → eg_H → Nat → Nat → Int32 → Int32 → Int32 → Int32 → Int32 → Int32 → Int32 → Option ((Nat × Nat × Int32 × Int32 × Int32 × Int32 × Int32 × Int32 × eg_H) ⊕ (Int32 × Int32 × eg_H))
  | 0, _, _, _, _, _, _, _, _, _, _ => none
  | n + 1, h, l0, l1, l2, l3, l4, l5, l6, l7, l8 =>
    if l7 < l8 then
      (some (.inl (l0, l1, l2, l3, l4, l5, l6, l7, h)))
    else
      (some ((l5 + l8))).bind fun v2 =>
      (some (((l6 + l7) - l8))).bind fun v4 =>
      if (9 : Int32) < v2 then
        (fX9_leastRise_L35 n h l0 l1 l2 l3 l4 l5 l6 l7 (l8 + (1 : Int32)))
      else
        if (9 : Int32) < v4 then
          (fX9_leastRise_L35 n h l0 l1 l2 l3 l4 l5 l6 l7 (l8 + (1 : Int32)))
        else
          (fX9_reaches h l0 l1 l2 (((100 : Int32) * v2) + v4) l3 l4).bind fun ⟨v9, h8⟩ =>
          if v9 = 0 then
            (fX9_leastRise_L35 n h8 l0 l1 l2 l3 l4 l5 l6 l7 (l8 + (1 : Int32)))
          else
            some (.inr (l7, l8, h8))
set_option maxRecDepth 20000 in
theorem fX9_leastRise_L35_ok {h0 : eg_H} {Z : eg_C → State → Prop} {N S : Nat} : ∀ (n : Nat) (h : eg_H) (l0 : Nat) (l1 : Nat) (l2 : Int32) (l3 : Int32) (l4 : Int32) (l5 : Int32) (l6 : Int32) (l7 : Int32) (l8 : Int32) (eE : (Nat × Nat × Int32 × Int32 × Int32 × Int32 × Int32 × Int32 × eg_H) ⊕ (Int32 × Int32 × eg_H)), fX9_leastRise_L35 n h l0 l1 l2 l3 l4 l5 l6 l7 l8 = some eE → (hk0 : ∀ (l0 : Nat) (l1 : Nat) (l2 : Int32) (l3 : Int32) (l4 : Int32) (l5 : Int32) (l6 : Int32) (l7 : Int32) (h : eg_H), eE = (.inl (l0, l1, l2, l3, l4, l5, l6, l7, h)) → eg_AW (RX9, cX9_leastRise, 11, 4, none, "leastRise", (some .int)) Z N S h0 111 [(0, .ref l0), (1, .ref l1), (2, .int l2), (3, .int l3), (4, .int l4), (5, .int l5), (6, .int l6), (7, .int l7)] [] h) → (hk1 : ∀ (l7 : Int32) (l8 : Int32) (h : eg_H), eE = (.inr (l7, l8, h)) → eg_AW (RX9, cX9_leastRise, 11, 4, none, "leastRise", (some .int)) Z N S h0 93 [(7, .int l7), (8, .int l8)] [] h) → eg_AW (RX9, cX9_leastRise, 11, 4, none, "leastRise", (some .int)) Z N S h0 35 [(0, .ref l0), (1, .ref l1), (2, .int l2), (3, .int l3), (4, .int l4), (5, .int l5), (6, .int l6), (7, .int l7), (8, .int l8)] [] h := by
  intro n
  induction n with
  | zero => intro h l0 l1 l2 l3 l4 l5 l6 l7 l8 eE hF; exact absurd hF (by intro q; cases q)
  | succ n ih =>
    intro h l0 l1 l2 l3 l4 l5 l6 l7 l8 eE hF hk0 hk1
    have hrec := fun (h' : eg_H) (l0 : Nat) (l1 : Nat) (l2 : Int32) (l3 : Int32) (l4 : Int32) (l5 : Int32) (l6 : Int32) (l7 : Int32) (l8 : Int32) hq => ih h' l0 l1 l2 l3 l4 l5 l6 l7 l8 eE hq hk0 hk1
    refine eg_iload (i := 8) 8 dX9_leastRise_35 rfl ?_
    refine eg_iload (i := 7) 7 dX9_leastRise_37 rfl ?_
    refine eg_ic_gt 111 dX9_leastRise_39 rfl (fun c1 => ?_) (fun c1 => ?_)
    · replace hF := eg_it c1 hF
      exact eg_sub [0, 1, 2, 3, 4, 5, 6, 7] [(0, .ref l0), (1, .ref l1), (2, .int l2), (3, .int l3), (4, .int l4), (5, .int l5), (6, .int l6), (7, .int l7)] rfl (hk0 l0 l1 l2 l3 l4 l5 l6 l7 h (Option.some.inj hF).symm)
    · replace hF := eg_if c1 hF
      refine eg_iload (i := 5) 5 dX9_leastRise_42 rfl ?_
      refine eg_iload (i := 8) 8 dX9_leastRise_44 rfl ?_
      refine eg_iadd dX9_leastRise_46 ?_
      replace hF := eg_bind hF; obtain ⟨v2, e3, hF⟩ := hF
      replace e3 := Option.some.inj e3
      rw [e3]
      refine eg_istore (i := 9) [(9, .int v2), (0, .ref l0), (1, .ref l1), (2, .int l2), (3, .int l3), (4, .int l4), (5, .int l5), (6, .int l6), (7, .int l7), (8, .int l8)] dX9_leastRise_47 (Nat.le_of_ble_eq_true rfl) rfl ?_
      refine eg_iload (i := 6) 7 dX9_leastRise_49 rfl ?_
      refine eg_iload (i := 7) 8 dX9_leastRise_51 rfl ?_
      refine eg_iadd dX9_leastRise_53 ?_
      refine eg_iload (i := 8) 9 dX9_leastRise_54 rfl ?_
      refine eg_isub dX9_leastRise_56 ?_
      replace hF := eg_bind hF; obtain ⟨v4, e5, hF⟩ := hF
      replace e5 := Option.some.inj e5
      rw [e5]
      refine eg_istore (i := 10) [(10, .int v4), (9, .int v2), (0, .ref l0), (1, .ref l1), (2, .int l2), (3, .int l3), (4, .int l4), (5, .int l5), (6, .int l6), (7, .int l7), (8, .int l8)] dX9_leastRise_57 (Nat.le_of_ble_eq_true rfl) rfl ?_
      refine eg_iload (i := 9) 1 dX9_leastRise_59 rfl ?_
      refine eg_bipush (v := (9 : Int32)) dX9_leastRise_61 (by decide) ?_
      refine eg_ic_gt 105 dX9_leastRise_63 rfl (fun c6 => ?_) (fun c6 => ?_)
      · replace hF := eg_it c6 hF
        refine eg_iinc (i := 8) (v := (l8 + (1 : Int32))) 10 [(8, .int (l8 + (1 : Int32))), (10, .int v4), (9, .int v2), (0, .ref l0), (1, .ref l1), (2, .int l2), (3, .int l3), (4, .int l4), (5, .int l5), (6, .int l6), (7, .int l7)] dX9_leastRise_105 rfl rfl (Nat.le_of_ble_eq_true rfl) rfl ?_
        refine eg_goto 35 dX9_leastRise_108 rfl ?_
        exact eg_sub [3, 4, 5, 6, 7, 8, 9, 10, 0] [(0, .ref l0), (1, .ref l1), (2, .int l2), (3, .int l3), (4, .int l4), (5, .int l5), (6, .int l6), (7, .int l7), (8, .int (l8 + (1 : Int32)))] rfl (hrec h l0 l1 l2 l3 l4 l5 l6 l7 (l8 + (1 : Int32)) hF)
      · replace hF := eg_if c6 hF
        refine eg_iload (i := 10) 0 dX9_leastRise_66 rfl ?_
        refine eg_bipush (v := (9 : Int32)) dX9_leastRise_68 (by decide) ?_
        refine eg_ic_gt 105 dX9_leastRise_70 rfl (fun c7 => ?_) (fun c7 => ?_)
        · replace hF := eg_it c7 hF
          refine eg_iinc (i := 8) (v := (l8 + (1 : Int32))) 10 [(8, .int (l8 + (1 : Int32))), (10, .int v4), (9, .int v2), (0, .ref l0), (1, .ref l1), (2, .int l2), (3, .int l3), (4, .int l4), (5, .int l5), (6, .int l6), (7, .int l7)] dX9_leastRise_105 rfl rfl (Nat.le_of_ble_eq_true rfl) rfl ?_
          refine eg_goto 35 dX9_leastRise_108 rfl ?_
          exact eg_sub [3, 4, 5, 6, 7, 8, 9, 10, 0] [(0, .ref l0), (1, .ref l1), (2, .int l2), (3, .int l3), (4, .int l4), (5, .int l5), (6, .int l6), (7, .int l7), (8, .int (l8 + (1 : Int32)))] rfl (hrec h l0 l1 l2 l3 l4 l5 l6 l7 (l8 + (1 : Int32)) hF)
        · replace hF := eg_if c7 hF
          refine eg_aload_n (i := 0) 2 dX9_leastRise_73 rfl rfl ?_
          refine eg_aload_n (i := 1) 3 dX9_leastRise_74 rfl rfl ?_
          refine eg_iload_n (i := 2) 4 dX9_leastRise_75 rfl rfl ?_
          refine eg_bipush (v := (100 : Int32)) dX9_leastRise_76 (by decide) ?_
          refine eg_iload (i := 9) 1 dX9_leastRise_78 rfl ?_
          refine eg_imul dX9_leastRise_80 ?_
          refine eg_iload (i := 10) 0 dX9_leastRise_81 rfl ?_
          refine eg_iadd dX9_leastRise_83 ?_
          refine eg_iload_n (i := 3) 5 dX9_leastRise_84 rfl rfl ?_
          refine eg_iload (i := 4) 6 dX9_leastRise_85 rfl ?_
          replace hF := eg_bind hF; obtain ⟨⟨v9, h8⟩, e10, hF⟩ := hF
          refine eg_callV (c := 9) (n := 5) [.ref l1, .int l2, .int (((100 : Int32) * v2) + v4), .int l3, .int l4] dX9_leastRise_87 (mX9_reaches e10) rfl (fX9_reaches_O e10) (Nat.le_of_ble_eq_true rfl) rfl ew_1059 ew_1061 ew_31 ew_109 ew_1062 hy_X9_reaches rfl (Nat.le_of_ble_eq_true rfl) (Nat.le_of_ble_eq_true rfl) (Nat.le_of_ble_eq_true rfl) ?_
          refine eg_if_eq 105 dX9_leastRise_90 rfl (fun c11 => ?_) (fun c11 => ?_)
          · replace hF := eg_it c11 hF
            refine eg_iinc (i := 8) (v := (l8 + (1 : Int32))) 10 [(8, .int (l8 + (1 : Int32))), (10, .int v4), (9, .int v2), (0, .ref l0), (1, .ref l1), (2, .int l2), (3, .int l3), (4, .int l4), (5, .int l5), (6, .int l6), (7, .int l7)] dX9_leastRise_105 rfl rfl (Nat.le_of_ble_eq_true rfl) rfl ?_
            refine eg_goto 35 dX9_leastRise_108 rfl ?_
            exact eg_sub [3, 4, 5, 6, 7, 8, 9, 10, 0] [(0, .ref l0), (1, .ref l1), (2, .int l2), (3, .int l3), (4, .int l4), (5, .int l5), (6, .int l6), (7, .int l7), (8, .int (l8 + (1 : Int32)))] rfl (hrec h8 l0 l1 l2 l3 l4 l5 l6 l7 (l8 + (1 : Int32)) hF)
          · replace hF := eg_if c11 hF
            exact eg_sub [9, 10] [(7, .int l7), (8, .int l8)] rfl (hk1 l7 l8 h8 (Option.some.inj hF).symm)
def fX9_leastRise_L25 : Nat → eg_H → Nat → Nat → Int32 → Int32 → Int32 → Int32 → Int32 → Int32 → Option ((eg_H) ⊕ (Int32 × Int32 × eg_H))
  | 0, _, _, _, _, _, _, _, _, _ => none
  | n + 1, h, l0, l1, l2, l3, l4, l5, l6, l7 =>
    if (18 : Int32) < l7 then
      (some (.inl h))
    else
      (fX9_leastRise_L35 eg_F h l0 l1 l2 l3 l4 l5 l6 l7 (0 : Int32)).bind fun e =>
      match e with
      | .inl (p4, p5, v6, v7, v8, v9, v10, v11, h12) =>
        fX9_leastRise_L25 n h12 p4 p5 v6 v7 v8 v9 v10 (v11 + (1 : Int32))
      | .inr (v14, v15, h16) =>
        some (.inr (v14, v15, h16))
set_option maxRecDepth 20000 in
theorem fX9_leastRise_L25_ok {h0 : eg_H} {Z : eg_C → State → Prop} {N S : Nat} : ∀ (n : Nat) (h : eg_H) (l0 : Nat) (l1 : Nat) (l2 : Int32) (l3 : Int32) (l4 : Int32) (l5 : Int32) (l6 : Int32) (l7 : Int32) (eE : (eg_H) ⊕ (Int32 × Int32 × eg_H)), fX9_leastRise_L25 n h l0 l1 l2 l3 l4 l5 l6 l7 = some eE → (hk0 : ∀  (h : eg_H), eE = (.inl h) → eg_AW (RX9, cX9_leastRise, 11, 4, none, "leastRise", (some .int)) Z N S h0 117 [] [] h) → (hk1 : ∀ (l7 : Int32) (l8 : Int32) (h : eg_H), eE = (.inr (l7, l8, h)) → eg_AW (RX9, cX9_leastRise, 11, 4, none, "leastRise", (some .int)) Z N S h0 93 [(7, .int l7), (8, .int l8)] [] h) → eg_AW (RX9, cX9_leastRise, 11, 4, none, "leastRise", (some .int)) Z N S h0 25 [(0, .ref l0), (1, .ref l1), (2, .int l2), (3, .int l3), (4, .int l4), (5, .int l5), (6, .int l6), (7, .int l7)] [] h := by
  intro n
  induction n with
  | zero => intro h l0 l1 l2 l3 l4 l5 l6 l7 eE hF; exact absurd hF (by intro q; cases q)
  | succ n ih =>
    intro h l0 l1 l2 l3 l4 l5 l6 l7 eE hF hk0 hk1
    have hrec := fun (h' : eg_H) (l0 : Nat) (l1 : Nat) (l2 : Int32) (l3 : Int32) (l4 : Int32) (l5 : Int32) (l6 : Int32) (l7 : Int32) hq => ih h' l0 l1 l2 l3 l4 l5 l6 l7 eE hq hk0 hk1
    refine eg_iload (i := 7) 7 dX9_leastRise_25 rfl ?_
    refine eg_bipush (v := (18 : Int32)) dX9_leastRise_27 (by decide) ?_
    refine eg_ic_gt 117 dX9_leastRise_29 rfl (fun c1 => ?_) (fun c1 => ?_)
    · replace hF := eg_it c1 hF
      exact eg_sub [] [] rfl (hk0 h (Option.some.inj hF).symm)
    · replace hF := eg_if c1 hF
      refine eg_iconst (v := (0 : Int32)) dX9_leastRise_32 (by decide) ?_
      refine eg_istore (i := 8) [(8, .int (0 : Int32)), (0, .ref l0), (1, .ref l1), (2, .int l2), (3, .int l3), (4, .int l4), (5, .int l5), (6, .int l6), (7, .int l7)] dX9_leastRise_33 (Nat.le_of_ble_eq_true rfl) rfl ?_
      replace hF := eg_bind hF; obtain ⟨x3, e2, hF⟩ := hF
      refine eg_sub [1, 2, 3, 4, 5, 6, 7, 8, 0] [(0, .ref l0), (1, .ref l1), (2, .int l2), (3, .int l3), (4, .int l4), (5, .int l5), (6, .int l6), (7, .int l7), (8, .int (0 : Int32))] rfl (fX9_leastRise_L35_ok eg_F h l0 l1 l2 l3 l4 l5 l6 l7 (0 : Int32) x3 e2 ?_ ?_)
      · intro p4 p5 v6 v7 v8 v9 v10 v11 h12 e13
        subst e13
        refine eg_iinc (i := 7) (v := (v11 + (1 : Int32))) 7 [(7, .int (v11 + (1 : Int32))), (0, .ref p4), (1, .ref p5), (2, .int v6), (3, .int v7), (4, .int v8), (5, .int v9), (6, .int v10)] dX9_leastRise_111 rfl rfl (Nat.le_of_ble_eq_true rfl) rfl ?_
        refine eg_goto 25 dX9_leastRise_114 rfl ?_
        exact eg_sub [1, 2, 3, 4, 5, 6, 7, 0] [(0, .ref p4), (1, .ref p5), (2, .int v6), (3, .int v7), (4, .int v8), (5, .int v9), (6, .int v10), (7, .int (v11 + (1 : Int32)))] rfl (hrec h12 p4 p5 v6 v7 v8 v9 v10 (v11 + (1 : Int32)) hF)
      · intro v14 v15 h16 e17
        subst e17
        exact (hk1 v14 v15 h16 (Option.some.inj hF).symm)
def fX9_leastRise (h : eg_H) (l0 : Nat) (l1 : Nat) (l2 : Int32) (l3 : Int32) (l4 : Int32) : Option (Int32 × eg_H) :=
  if eg_isO h 9 l0 then (
    (fX7_ofPerson h l1 (l2 / (10 : Int32)) (3 : Int32)).bind fun ⟨v2, h1⟩ =>
    (fX7_ofPerson h1 l1 (l2 % (10 : Int32)) (3 : Int32)).bind fun ⟨v5, h4⟩ =>
    (fX9_leastRise_L25 eg_F h4 l0 l1 l2 l3 l4 v2 v5 (0 : Int32)).bind fun e =>
    match e with
    | .inl h9 =>
      some ((-1 : Int32), h9)
    | .inr (v11, v12, h13) =>
      some (((((10 : Int32) * v12) + v11) - v12), h13)) else none
theorem fX9_leastRise_O {h : eg_H} {l0 : Nat} {l1 : Nat} {l2 : Int32} {l3 : Int32} {l4 : Int32} {rE : Int32} {hE : eg_H} (hF : fX9_leastRise h l0 l1 l2 l3 l4 = some (rE, hE)) : eg_isO h 9 l0 := (eg_ifn hF).1
set_option maxRecDepth 20000 in
theorem mX9_leastRise {h : eg_H} {l0 : Nat} {l1 : Nat} {l2 : Int32} {l3 : Int32} {l4 : Int32} {rE : Int32} {hE : eg_H} (hF : fX9_leastRise h l0 l1 l2 l3 l4 = some (rE, hE)) : eg_Met yX9_leastRise cX9_leastRise 11 (some .int) 4 [.ref l0, .ref l1, .int l2, .int l3, .int l4] h (some (.int rE)) hE := by
  refine eg_enter rfl (Nat.le_of_ble_eq_true rfl) ?_
  show eg_AW (RX9, cX9_leastRise, 11, 4, none, "leastRise", (some .int)) (eg_Zm (some (.int rE)) hE h) (eg_nc hE) (eg_ns hE) h 0 [(0, .ref l0), (1, .ref l1), (2, .int l2), (3, .int l3), (4, .int l4)] [] h
  replace hF := (eg_ifn hF).2
  refine eg_aload_n (i := 1) 1 dX9_leastRise_0 rfl rfl ?_
  refine eg_iload_n (i := 2) 2 dX9_leastRise_1 rfl rfl ?_
  refine eg_bipush (v := (10 : Int32)) dX9_leastRise_2 (by decide) ?_
  refine eg_idiv dX9_leastRise_4 (by decide) ?_
  refine eg_iconst (v := (3 : Int32)) dX9_leastRise_5 (by decide) ?_
  replace hF := eg_bind hF; obtain ⟨⟨v2, h1⟩, e3, hF⟩ := hF
  refine eg_callV (c := 7) (n := 2) [.int (l2 / (10 : Int32)), .int (3 : Int32)] dX9_leastRise_6 (mX7_ofPerson e3) rfl (fX7_ofPerson_O e3) (Nat.le_of_ble_eq_true rfl) rfl ew_1058 ew_741 ew_742 ew_104 ew_743 hy_X7_ofPerson rfl (Nat.le_of_ble_eq_true rfl) (Nat.le_of_ble_eq_true rfl) (Nat.le_of_ble_eq_true rfl) ?_
  refine eg_istore (i := 5) [(5, .int v2), (0, .ref l0), (1, .ref l1), (2, .int l2), (3, .int l3), (4, .int l4)] dX9_leastRise_9 (Nat.le_of_ble_eq_true rfl) rfl ?_
  refine eg_aload_n (i := 1) 2 dX9_leastRise_11 rfl rfl ?_
  refine eg_iload_n (i := 2) 3 dX9_leastRise_12 rfl rfl ?_
  refine eg_bipush (v := (10 : Int32)) dX9_leastRise_13 (by decide) ?_
  refine eg_irem dX9_leastRise_15 (by decide) ?_
  refine eg_iconst (v := (3 : Int32)) dX9_leastRise_16 (by decide) ?_
  replace hF := eg_bind hF; obtain ⟨⟨v5, h4⟩, e6, hF⟩ := hF
  refine eg_callV (c := 7) (n := 2) [.int (l2 % (10 : Int32)), .int (3 : Int32)] dX9_leastRise_17 (mX7_ofPerson e6) rfl (fX7_ofPerson_O e6) (Nat.le_of_ble_eq_true rfl) rfl ew_1058 ew_741 ew_742 ew_104 ew_743 hy_X7_ofPerson rfl (Nat.le_of_ble_eq_true rfl) (Nat.le_of_ble_eq_true rfl) (Nat.le_of_ble_eq_true rfl) ?_
  refine eg_istore (i := 6) [(6, .int v5), (5, .int v2), (0, .ref l0), (1, .ref l1), (2, .int l2), (3, .int l3), (4, .int l4)] dX9_leastRise_20 (Nat.le_of_ble_eq_true rfl) rfl ?_
  refine eg_iconst (v := (0 : Int32)) dX9_leastRise_22 (by decide) ?_
  refine eg_istore (i := 7) [(7, .int (0 : Int32)), (6, .int v5), (5, .int v2), (0, .ref l0), (1, .ref l1), (2, .int l2), (3, .int l3), (4, .int l4)] dX9_leastRise_23 (Nat.le_of_ble_eq_true rfl) rfl ?_
  replace hF := eg_bind hF; obtain ⟨x8, e7, hF⟩ := hF
  refine eg_sub [3, 4, 5, 6, 7, 2, 1, 0] [(0, .ref l0), (1, .ref l1), (2, .int l2), (3, .int l3), (4, .int l4), (5, .int v2), (6, .int v5), (7, .int (0 : Int32))] rfl (fX9_leastRise_L25_ok eg_F h4 l0 l1 l2 l3 l4 v2 v5 (0 : Int32) x8 e7 ?_ ?_)
  · intro h9 e10
    subst e10
    refine eg_iconst (v := (-1 : Int32)) dX9_leastRise_117 (by decide) ?_
    exact eg_iretE dX9_leastRise_118 hF
  · intro v11 v12 h13 e14
    subst e14
    refine eg_bipush (v := (10 : Int32)) dX9_leastRise_93 (by decide) ?_
    refine eg_iload (i := 8) 1 dX9_leastRise_95 rfl ?_
    refine eg_imul dX9_leastRise_97 ?_
    refine eg_iload (i := 7) 0 dX9_leastRise_98 rfl ?_
    refine eg_iadd dX9_leastRise_100 ?_
    refine eg_iload (i := 8) 1 dX9_leastRise_101 rfl ?_
    refine eg_isub dX9_leastRise_103 ?_
    exact eg_iretE dX9_leastRise_104 hF
