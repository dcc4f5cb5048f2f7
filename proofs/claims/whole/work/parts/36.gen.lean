theorem dX13_part_0 : decode cX13_part 0 = .ok (.iload_n 1, 1) := by decide +kernel
theorem dX13_part_1 : decode cX13_part 1 = .ok (.ifCond .eq 12, 3) := by decide +kernel
theorem dX13_part_4 : decode cX13_part 4 = .ok (.aload_n 0, 1) := by decide +kernel
theorem dX13_part_5 : decode cX13_part 5 = .ok (.iconst 1, 1) := by decide +kernel
theorem dX13_part_6 : decode cX13_part 6 = .ok (.iload_n 2, 1) := by decide +kernel
theorem dX13_part_7 : decode cX13_part 7 = .ok (.invokevirtual 243, 3) := by decide +kernel
theorem dX13_part_10 : decode cX13_part 10 = .ok (.goto 7, 3) := by decide +kernel
theorem dX13_part_13 : decode cX13_part 13 = .ok (.aload_n 0, 1) := by decide +kernel
theorem dX13_part_14 : decode cX13_part 14 = .ok (.invokevirtual 236, 3) := by decide +kernel
theorem dX13_part_17 : decode cX13_part 17 = .ok (.istore_n 3, 1) := by decide +kernel
theorem dX13_part_18 : decode cX13_part 18 = .ok (.aload_n 0, 1) := by decide +kernel
theorem dX13_part_19 : decode cX13_part 19 = .ok (.getfield 180, 3) := by decide +kernel
theorem dX13_part_22 : decode cX13_part 22 = .ok (.iconst (-1), 1) := by decide +kernel
theorem dX13_part_23 : decode cX13_part 23 = .ok (.if_icmp .ne 46, 3) := by decide +kernel
theorem dX13_part_26 : decode cX13_part 26 = .ok (.aload_n 0, 1) := by decide +kernel
theorem dX13_part_27 : decode cX13_part 27 = .ok (.invokevirtual 190, 3) := by decide +kernel
theorem dX13_part_30 : decode cX13_part 30 = .ok (.bipush 38, 2) := by decide +kernel
theorem dX13_part_32 : decode cX13_part 32 = .ok (.if_icmp .ne 37, 3) := by decide +kernel
theorem dX13_part_35 : decode cX13_part 35 = .ok (.aload_n 0, 1) := by decide +kernel
theorem dX13_part_36 : decode cX13_part 36 = .ok (.dup, 1) := by decide +kernel
theorem dX13_part_37 : decode cX13_part 37 = .ok (.getfield 171, 3) := by decide +kernel
theorem dX13_part_40 : decode cX13_part 40 = .ok (.iconst 1, 1) := by decide +kernel
theorem dX13_part_41 : decode cX13_part 41 = .ok (.iadd, 1) := by decide +kernel
theorem dX13_part_42 : decode cX13_part 42 = .ok (.putfield 171, 3) := by decide +kernel
theorem dX13_part_45 : decode cX13_part 45 = .ok (.aload_n 0, 1) := by decide +kernel
theorem dX13_part_46 : decode cX13_part 46 = .ok (.invokevirtual 236, 3) := by decide +kernel
theorem dX13_part_49 : decode cX13_part 49 = .ok (.istore 4, 2) := by decide +kernel
theorem dX13_part_51 : decode cX13_part 51 = .ok (.iload_n 3, 1) := by decide +kernel
theorem dX13_part_52 : decode cX13_part 52 = .ok (.ifCond .eq 12, 3) := by decide +kernel
theorem dX13_part_55 : decode cX13_part 55 = .ok (.iload 4, 2) := by decide +kernel
theorem dX13_part_57 : decode cX13_part 57 = .ok (.ifCond .eq 7, 3) := by decide +kernel
theorem dX13_part_60 : decode cX13_part 60 = .ok (.iconst 1, 1) := by decide +kernel
theorem dX13_part_61 : decode cX13_part 61 = .ok (.goto 4, 3) := by decide +kernel
theorem dX13_part_64 : decode cX13_part 64 = .ok (.iconst 0, 1) := by decide +kernel
theorem dX13_part_65 : decode cX13_part 65 = .ok (.istore_n 3, 1) := by decide +kernel
theorem dX13_part_66 : decode cX13_part 66 = .ok (.goto (-48), 3) := by decide +kernel
theorem dX13_part_69 : decode cX13_part 69 = .ok (.iload_n 3, 1) := by decide +kernel
theorem dX13_part_70 : decode cX13_part 70 = .ok (.ireturn, 1) := by decide +kernel
def fX13_part_L18 (rc : eg_H → Nat → Option (Int32 × eg_H)) : Nat → eg_H → Nat → Int32 → Option (Int32 × eg_H)
  | 0, _, _, _ => none
  | n + 1, h, l0, l3 =>
    (eg_gI h 13 11 l0).bind fun v1 =>
    if v1 = (-1 : Int32) then
      ((fX13_look h l0).bind fun ⟨v5, h4⟩ =>
      if v5 = (38 : Int32) then
        ((eg_gI h4 13 10 l0).bind fun v8 =>
        (eg_pI h4 13 10 l0 (v8 + (1 : Int32))).bind fun h10 =>
        if eg_isO h10 13 l0 then (
        (rc h10 l0).bind fun ⟨v13, h12⟩ =>
        if l3 = 0 then
          (fX13_part_L18 rc n h12 l0 (0 : Int32))
        else
          if v13 = 0 then
            (fX13_part_L18 rc n h12 l0 (0 : Int32))
          else
            fX13_part_L18 rc n h12 l0 (1 : Int32)) else none)
      else
        some (l3, h4))
    else
      some (l3, h)
set_option maxRecDepth 20000 in
theorem fX13_part_L18_ok {rc : eg_H → Nat → Option (Int32 × eg_H)} {dr : Nat} (hdr : 198 ≤ dr) (hrc : ∀ (h : eg_H) (a0 : Nat) (rE : Int32) (hE : eg_H), rc h a0 = some (rE, hE) → eg_Met yX13_unit cX13_unit 3 (some .boolean) dr [.ref a0] h (some (.int rE)) hE) {h0 : eg_H} {Z : eg_C → State → Prop} {N S : Nat} : ∀ (n : Nat) (h : eg_H) (l0 : Nat) (l3 : Int32) (eE : Int32 × eg_H), fX13_part_L18 rc n h l0 l3 = some eE → (hk0 : ∀ (l3 : Int32) (h : eg_H), eE = (l3, h) → eg_AW (RX13, cX13_part, 5, dr + 1, none, "part", (some .boolean)) Z N S h0 69 [(3, .int l3)] [] h) → eg_AW (RX13, cX13_part, 5, dr + 1, none, "part", (some .boolean)) Z N S h0 18 [(0, .ref l0), (3, .int l3)] [] h := by
  intro n
  induction n with
  | zero => intro h l0 l3 eE hF; exact absurd hF (by intro q; cases q)
  | succ n ih =>
    intro h l0 l3 eE hF hk0
    have hrec := fun (h' : eg_H) (l0 : Nat) (l3 : Int32) hq => ih h' l0 l3 eE hq hk0
    refine eg_aload_n (i := 0) 0 dX13_part_18 rfl rfl ?_
    replace hF := eg_bind hF; obtain ⟨v1, e2, hF⟩ := hF
    refine eg_getI dX13_part_19 e2 (Nat.le_of_ble_eq_true rfl) (Nat.le_of_ble_eq_true rfl) rfl ew_1445 ?_
    refine eg_iconst (v := (-1 : Int32)) dX13_part_22 (by decide) ?_
    refine eg_ic_ne 69 dX13_part_23 rfl (fun c3 => ?_) (fun c3 => ?_)
    · replace hF := eg_it c3 hF
      refine eg_aload_n (i := 0) 0 dX13_part_26 rfl rfl ?_
      replace hF := eg_bind hF; obtain ⟨⟨v5, h4⟩, e6, hF⟩ := hF
      refine eg_callV (c := 13) (n := 0) [] dX13_part_27 (mX13_look e6) rfl (fX13_look_O e6) (Nat.le_of_ble_eq_true rfl) rfl ew_1715 ew_1717 ew_54 ew_110 ew_1718 hy_X13_look rfl (by have := eg_D_eq; omega) (Nat.le_of_ble_eq_true rfl) (Nat.le_of_ble_eq_true rfl) ?_
      refine eg_bipush (v := (38 : Int32)) dX13_part_30 (by decide) ?_
      refine eg_ic_ne 69 dX13_part_32 rfl (fun c7 => ?_) (fun c7 => ?_)
      · replace hF := eg_it c7 hF
        refine eg_aload_n (i := 0) 0 dX13_part_35 rfl rfl ?_
        refine eg_dup dX13_part_36 rfl ?_
        replace hF := eg_bind hF; obtain ⟨v8, e9, hF⟩ := hF
        refine eg_getI dX13_part_37 e9 (Nat.le_of_ble_eq_true rfl) (Nat.le_of_ble_eq_true rfl) rfl ew_1444 ?_
        refine eg_iconst (v := (1 : Int32)) dX13_part_40 (by decide) ?_
        refine eg_iadd dX13_part_41 ?_
        replace hF := eg_bind hF; obtain ⟨h10, e11, hF⟩ := hF
        refine eg_putI dX13_part_42 e11 (Nat.le_of_ble_eq_true rfl) (Nat.le_of_ble_eq_true rfl) rfl ew_1444 (Or.inl rfl) ?_
        refine eg_aload_n (i := 0) 0 dX13_part_45 rfl rfl ?_
        replace hF := eg_ifn hF; obtain ⟨c15, hF⟩ := hF
        replace hF := eg_bind hF; obtain ⟨⟨v13, h12⟩, e14, hF⟩ := hF
        refine eg_callV (c := 13) (n := 0) [] dX13_part_46 (hrc _ _ _ _ e14) rfl c15 (Nat.le_of_ble_eq_true rfl) rfl ew_1855 ew_1857 ew_69 ew_110 ew_1858 hy_X13_unit rfl (by have := eg_D_eq; omega) (Nat.le_of_ble_eq_true rfl) (Nat.le_of_ble_eq_true rfl) ?_
        refine eg_istore (i := 4) [(4, .int v13), (0, .ref l0), (3, .int l3)] dX13_part_49 (Nat.le_of_ble_eq_true rfl) rfl ?_
        refine eg_iload_n (i := 3) 2 dX13_part_51 rfl rfl ?_
        refine eg_if_eq 64 dX13_part_52 rfl (fun c16 => ?_) (fun c16 => ?_)
        · replace hF := eg_it c16 hF
          refine eg_iconst (v := (0 : Int32)) dX13_part_64 (by decide) ?_
          refine eg_istore_n (i := 3) [(3, .int (0 : Int32)), (4, .int v13), (0, .ref l0)] dX13_part_65 rfl (Nat.le_of_ble_eq_true rfl) rfl ?_
          refine eg_goto 18 dX13_part_66 rfl ?_
          exact eg_sub [2, 0] [(0, .ref l0), (3, .int (0 : Int32))] rfl (hrec h12 l0 (0 : Int32) hF)
        · replace hF := eg_if c16 hF
          refine eg_iload (i := 4) 0 dX13_part_55 rfl ?_
          refine eg_if_eq 64 dX13_part_57 rfl (fun c17 => ?_) (fun c17 => ?_)
          · replace hF := eg_it c17 hF
            refine eg_iconst (v := (0 : Int32)) dX13_part_64 (by decide) ?_
            refine eg_istore_n (i := 3) [(3, .int (0 : Int32)), (4, .int v13), (0, .ref l0)] dX13_part_65 rfl (Nat.le_of_ble_eq_true rfl) rfl ?_
            refine eg_goto 18 dX13_part_66 rfl ?_
            exact eg_sub [2, 0] [(0, .ref l0), (3, .int (0 : Int32))] rfl (hrec h12 l0 (0 : Int32) hF)
          · replace hF := eg_if c17 hF
            refine eg_iconst (v := (1 : Int32)) dX13_part_60 (by decide) ?_
            refine eg_goto 65 dX13_part_61 rfl ?_
            refine eg_istore_n (i := 3) [(3, .int (1 : Int32)), (4, .int v13), (0, .ref l0)] dX13_part_65 rfl (Nat.le_of_ble_eq_true rfl) rfl ?_
            refine eg_goto 18 dX13_part_66 rfl ?_
            exact eg_sub [2, 0] [(0, .ref l0), (3, .int (1 : Int32))] rfl (hrec h12 l0 (1 : Int32) hF)
      · replace hF := eg_if c7 hF
        exact eg_sub [1] [(3, .int l3)] rfl (hk0 l3 h4 (Option.some.inj hF).symm)
    · replace hF := eg_if c3 hF
      exact eg_sub [1] [(3, .int l3)] rfl (hk0 l3 h (Option.some.inj hF).symm)
def fX13_part_j17 (rc : eg_H → Nat → Option (Int32 × eg_H)) (h : eg_H) (l0 : Nat) (s0 : Int32) : Option (Int32 × eg_H) :=
  (fX13_part_L18 rc eg_F h l0 s0).bind fun e =>
  match e with
  | (v3, h4) =>
    if v3 = 0 ∨ v3 = 1 then some (v3, h4) else none
set_option maxRecDepth 20000 in
theorem fX13_part_j17_ok {rc : eg_H → Nat → Option (Int32 × eg_H)} {dr : Nat} (hdr : 198 ≤ dr) (hrc : ∀ (h : eg_H) (a0 : Nat) (rE : Int32) (hE : eg_H), rc h a0 = some (rE, hE) → eg_Met yX13_unit cX13_unit 3 (some .boolean) dr [.ref a0] h (some (.int rE)) hE) {h0 : eg_H} (h : eg_H) (l0 : Nat) (s0 : Int32) {rE : Int32} {hE : eg_H} (hF : fX13_part_j17 rc h l0 s0 = some (rE, hE)) : eg_AW (RX13, cX13_part, 5, dr + 1, none, "part", (some .boolean)) (eg_Zm (some (.int rE)) hE h0) (eg_nc hE) (eg_ns hE) h0 17 [(0, .ref l0)] [.int s0] h := by
  refine eg_istore_n (i := 3) [(3, .int s0), (0, .ref l0)] dX13_part_17 rfl (Nat.le_of_ble_eq_true rfl) rfl ?_
  replace hF := eg_bind hF; obtain ⟨x2, e1, hF⟩ := hF
  refine eg_sub [1, 0] [(0, .ref l0), (3, .int s0)] rfl (fX13_part_L18_ok hdr hrc eg_F h l0 s0 x2 e1 ?_)
  · intro v3 h4 e6
    subst e6
    refine eg_iload_n (i := 3) 0 dX13_part_69 rfl rfl ?_
    replace hF := eg_ifn hF; obtain ⟨c5, hF⟩ := hF
    exact eg_zretE dX13_part_70 c5 hF
def fX13_part (rc : eg_H → Nat → Option (Int32 × eg_H)) (h : eg_H) (l0 : Nat) (l1 : Int32) (l2 : Int32) : Option (Int32 × eg_H) :=
  if eg_isO h 13 l0 then (
    if l1 = 0 then
      (if eg_isO h 13 l0 then (
      (rc h l0).bind fun ⟨v3, h2⟩ =>
      fX13_part_j17 rc h2 l0 v3) else none)
    else
      (fX13_compares h l0 (1 : Int32) l2).bind fun ⟨v7, h6⟩ =>
      fX13_part_j17 rc h6 l0 v7) else none
theorem fX13_part_O {rc : eg_H → Nat → Option (Int32 × eg_H)} {h : eg_H} {l0 : Nat} {l1 : Int32} {l2 : Int32} {rE : Int32} {hE : eg_H} (hF : fX13_part rc h l0 l1 l2 = some (rE, hE)) : eg_isO h 13 l0 := (eg_ifn hF).1
set_option maxRecDepth 20000 in
theorem mX13_part {rc : eg_H → Nat → Option (Int32 × eg_H)} {dr : Nat} (hdr : 198 ≤ dr) (hrc : ∀ (h : eg_H) (a0 : Nat) (rE : Int32) (hE : eg_H), rc h a0 = some (rE, hE) → eg_Met yX13_unit cX13_unit 3 (some .boolean) dr [.ref a0] h (some (.int rE)) hE) {h : eg_H} {l0 : Nat} {l1 : Int32} {l2 : Int32} {rE : Int32} {hE : eg_H} (hF : fX13_part rc h l0 l1 l2 = some (rE, hE)) : eg_Met yX13_part cX13_part 5 (some .boolean) (dr + 1) [.ref l0, .int l1, .int l2] h (some (.int rE)) hE := by
  refine eg_enter rfl (Nat.le_of_ble_eq_true rfl) ?_
  show eg_AW (RX13, cX13_part, 5, dr + 1, none, "part", (some .boolean)) (eg_Zm (some (.int rE)) hE h) (eg_nc hE) (eg_ns hE) h 0 [(0, .ref l0), (1, .int l1), (2, .int l2)] [] h
  replace hF := (eg_ifn hF).2
  refine eg_iload_n (i := 1) 1 dX13_part_0 rfl rfl ?_
  refine eg_if_eq 13 dX13_part_1 rfl (fun c1 => ?_) (fun c1 => ?_)
  · replace hF := eg_it c1 hF
    refine eg_aload_n (i := 0) 0 dX13_part_13 rfl rfl ?_
    replace hF := eg_ifn hF; obtain ⟨c5, hF⟩ := hF
    replace hF := eg_bind hF; obtain ⟨⟨v3, h2⟩, e4, hF⟩ := hF
    refine eg_callV (c := 13) (n := 0) [] dX13_part_14 (hrc _ _ _ _ e4) rfl c5 (Nat.le_of_ble_eq_true rfl) rfl ew_1855 ew_1857 ew_69 ew_110 ew_1858 hy_X13_unit rfl (by have := eg_D_eq; omega) (Nat.le_of_ble_eq_true rfl) (Nat.le_of_ble_eq_true rfl) ?_
    exact eg_sub [0] [(0, .ref l0)] rfl (fX13_part_j17_ok hdr hrc h2 l0 v3 hF)
  · replace hF := eg_if c1 hF
    refine eg_aload_n (i := 0) 0 dX13_part_4 rfl rfl ?_
    refine eg_iconst (v := (1 : Int32)) dX13_part_5 (by decide) ?_
    refine eg_iload_n (i := 2) 2 dX13_part_6 rfl rfl ?_
    replace hF := eg_bind hF; obtain ⟨⟨v7, h6⟩, e8, hF⟩ := hF
    refine eg_callV (c := 13) (n := 2) [.int (1 : Int32), .int l2] dX13_part_7 (mX13_compares e8) rfl (fX13_compares_O e8) (Nat.le_of_ble_eq_true rfl) rfl ew_1821 ew_1823 ew_64 ew_110 ew_1824 hy_X13_compares rfl (by have := eg_D_eq; omega) (Nat.le_of_ble_eq_true rfl) (Nat.le_of_ble_eq_true rfl) ?_
    refine eg_goto 17 dX13_part_10 rfl ?_
    exact eg_sub [0] [(0, .ref l0)] rfl (fX13_part_j17_ok hdr hrc h6 l0 v7 hF)
theorem dX13_condition_0 : decode cX13_condition 0 = .ok (.aload_n 0, 1) := by decide +kernel
theorem dX13_condition_1 : decode cX13_condition 1 = .ok (.iload_n 1, 1) := by decide +kernel
theorem dX13_condition_2 : decode cX13_condition 2 = .ok (.iload_n 2, 1) := by decide +kernel
theorem dX13_condition_3 : decode cX13_condition 3 = .ok (.invokevirtual 246, 3) := by decide +kernel
theorem dX13_condition_6 : decode cX13_condition 6 = .ok (.istore_n 3, 1) := by decide +kernel
theorem dX13_condition_7 : decode cX13_condition 7 = .ok (.aload_n 0, 1) := by decide +kernel
theorem dX13_condition_8 : decode cX13_condition 8 = .ok (.getfield 180, 3) := by decide +kernel
theorem dX13_condition_11 : decode cX13_condition 11 = .ok (.iconst (-1), 1) := by decide +kernel
theorem dX13_condition_12 : decode cX13_condition 12 = .ok (.if_icmp .ne 48, 3) := by decide +kernel
theorem dX13_condition_15 : decode cX13_condition 15 = .ok (.aload_n 0, 1) := by decide +kernel
theorem dX13_condition_16 : decode cX13_condition 16 = .ok (.invokevirtual 190, 3) := by decide +kernel
theorem dX13_condition_19 : decode cX13_condition 19 = .ok (.bipush 124, 2) := by decide +kernel
theorem dX13_condition_21 : decode cX13_condition 21 = .ok (.if_icmp .ne 39, 3) := by decide +kernel
theorem dX13_condition_24 : decode cX13_condition 24 = .ok (.aload_n 0, 1) := by decide +kernel
theorem dX13_condition_25 : decode cX13_condition 25 = .ok (.dup, 1) := by decide +kernel
theorem dX13_condition_26 : decode cX13_condition 26 = .ok (.getfield 171, 3) := by decide +kernel
theorem dX13_condition_29 : decode cX13_condition 29 = .ok (.iconst 1, 1) := by decide +kernel
theorem dX13_condition_30 : decode cX13_condition 30 = .ok (.iadd, 1) := by decide +kernel
theorem dX13_condition_31 : decode cX13_condition 31 = .ok (.putfield 171, 3) := by decide +kernel
theorem dX13_condition_34 : decode cX13_condition 34 = .ok (.aload_n 0, 1) := by decide +kernel
theorem dX13_condition_35 : decode cX13_condition 35 = .ok (.iconst 0, 1) := by decide +kernel
theorem dX13_condition_36 : decode cX13_condition 36 = .ok (.iconst 0, 1) := by decide +kernel
theorem dX13_condition_37 : decode cX13_condition 37 = .ok (.invokevirtual 246, 3) := by decide +kernel
theorem dX13_condition_40 : decode cX13_condition 40 = .ok (.istore 4, 2) := by decide +kernel
theorem dX13_condition_42 : decode cX13_condition 42 = .ok (.iload_n 3, 1) := by decide +kernel
theorem dX13_condition_43 : decode cX13_condition 43 = .ok (.ifCond .ne 8, 3) := by decide +kernel
theorem dX13_condition_46 : decode cX13_condition 46 = .ok (.iload 4, 2) := by decide +kernel
theorem dX13_condition_48 : decode cX13_condition 48 = .ok (.ifCond .eq 7, 3) := by decide +kernel
theorem dX13_condition_51 : decode cX13_condition 51 = .ok (.iconst 1, 1) := by decide +kernel
theorem dX13_condition_52 : decode cX13_condition 52 = .ok (.goto 4, 3) := by decide +kernel
theorem dX13_condition_55 : decode cX13_condition 55 = .ok (.iconst 0, 1) := by decide +kernel
theorem dX13_condition_56 : decode cX13_condition 56 = .ok (.istore_n 3, 1) := by decide +kernel
theorem dX13_condition_57 : decode cX13_condition 57 = .ok (.goto (-50), 3) := by decide +kernel
theorem dX13_condition_60 : decode cX13_condition 60 = .ok (.iload_n 3, 1) := by decide +kernel
theorem dX13_condition_61 : decode cX13_condition 61 = .ok (.ireturn, 1) := by decide +kernel
def fX13_condition_L7 (rc : eg_H → Nat → Option (Int32 × eg_H)) : Nat → eg_H → Nat → Int32 → Option (Int32 × eg_H)
  | 0, _, _, _ => none
  | n + 1, h, l0, l3 =>
    (eg_gI h 13 11 l0).bind fun v1 =>
    if v1 = (-1 : Int32) then
      ((fX13_look h l0).bind fun ⟨v5, h4⟩ =>
      if v5 = (124 : Int32) then
        ((eg_gI h4 13 10 l0).bind fun v8 =>
        (eg_pI h4 13 10 l0 (v8 + (1 : Int32))).bind fun h10 =>
        (fX13_part rc h10 l0 (0 : Int32) (0 : Int32)).bind fun ⟨v13, h12⟩ =>
        if l3 = 0 then
          (if v13 = 0 then
            (fX13_condition_L7 rc n h12 l0 (0 : Int32))
          else
            fX13_condition_L7 rc n h12 l0 (1 : Int32))
        else
          fX13_condition_L7 rc n h12 l0 (1 : Int32))
      else
        some (l3, h4))
    else
      some (l3, h)
set_option maxRecDepth 20000 in
theorem fX13_condition_L7_ok {rc : eg_H → Nat → Option (Int32 × eg_H)} {dr : Nat} (hdr : 198 ≤ dr) (hrc : ∀ (h : eg_H) (a0 : Nat) (rE : Int32) (hE : eg_H), rc h a0 = some (rE, hE) → eg_Met yX13_unit cX13_unit 3 (some .boolean) dr [.ref a0] h (some (.int rE)) hE) {h0 : eg_H} {Z : eg_C → State → Prop} {N S : Nat} : ∀ (n : Nat) (h : eg_H) (l0 : Nat) (l3 : Int32) (eE : Int32 × eg_H), fX13_condition_L7 rc n h l0 l3 = some eE → (hk0 : ∀ (l3 : Int32) (h : eg_H), eE = (l3, h) → eg_AW (RX13, cX13_condition, 5, dr + 2, none, "condition", (some .boolean)) Z N S h0 60 [(3, .int l3)] [] h) → eg_AW (RX13, cX13_condition, 5, dr + 2, none, "condition", (some .boolean)) Z N S h0 7 [(0, .ref l0), (3, .int l3)] [] h := by
  intro n
  induction n with
  | zero => intro h l0 l3 eE hF; exact absurd hF (by intro q; cases q)
  | succ n ih =>
    intro h l0 l3 eE hF hk0
    have hrec := fun (h' : eg_H) (l0 : Nat) (l3 : Int32) hq => ih h' l0 l3 eE hq hk0
    refine eg_aload_n (i := 0) 0 dX13_condition_7 rfl rfl ?_
    replace hF := eg_bind hF; obtain ⟨v1, e2, hF⟩ := hF
    refine eg_getI dX13_condition_8 e2 (Nat.le_of_ble_eq_true rfl) (Nat.le_of_ble_eq_true rfl) rfl ew_1445 ?_
    refine eg_iconst (v := (-1 : Int32)) dX13_condition_11 (by decide) ?_
    refine eg_ic_ne 60 dX13_condition_12 rfl (fun c3 => ?_) (fun c3 => ?_)
    · replace hF := eg_it c3 hF
      refine eg_aload_n (i := 0) 0 dX13_condition_15 rfl rfl ?_
      replace hF := eg_bind hF; obtain ⟨⟨v5, h4⟩, e6, hF⟩ := hF
      refine eg_callV (c := 13) (n := 0) [] dX13_condition_16 (mX13_look e6) rfl (fX13_look_O e6) (Nat.le_of_ble_eq_true rfl) rfl ew_1715 ew_1717 ew_54 ew_110 ew_1718 hy_X13_look rfl (by have := eg_D_eq; omega) (Nat.le_of_ble_eq_true rfl) (Nat.le_of_ble_eq_true rfl) ?_
      refine eg_bipush (v := (124 : Int32)) dX13_condition_19 (by decide) ?_
      refine eg_ic_ne 60 dX13_condition_21 rfl (fun c7 => ?_) (fun c7 => ?_)
      · replace hF := eg_it c7 hF
        refine eg_aload_n (i := 0) 0 dX13_condition_24 rfl rfl ?_
        refine eg_dup dX13_condition_25 rfl ?_
        replace hF := eg_bind hF; obtain ⟨v8, e9, hF⟩ := hF
        refine eg_getI dX13_condition_26 e9 (Nat.le_of_ble_eq_true rfl) (Nat.le_of_ble_eq_true rfl) rfl ew_1444 ?_
        refine eg_iconst (v := (1 : Int32)) dX13_condition_29 (by decide) ?_
        refine eg_iadd dX13_condition_30 ?_
        replace hF := eg_bind hF; obtain ⟨h10, e11, hF⟩ := hF
        refine eg_putI dX13_condition_31 e11 (Nat.le_of_ble_eq_true rfl) (Nat.le_of_ble_eq_true rfl) rfl ew_1444 (Or.inl rfl) ?_
        refine eg_aload_n (i := 0) 0 dX13_condition_34 rfl rfl ?_
        refine eg_iconst (v := (0 : Int32)) dX13_condition_35 (by decide) ?_
        refine eg_iconst (v := (0 : Int32)) dX13_condition_36 (by decide) ?_
        replace hF := eg_bind hF; obtain ⟨⟨v13, h12⟩, e14, hF⟩ := hF
        refine eg_callV (c := 13) (n := 2) [.int (0 : Int32), .int (0 : Int32)] dX13_condition_37 (mX13_part hdr hrc e14) rfl (fX13_part_O e14) (Nat.le_of_ble_eq_true rfl) rfl ew_1817 ew_1819 ew_63 ew_110 ew_1820 hy_X13_part rfl (by have := eg_D_eq; omega) (Nat.le_of_ble_eq_true rfl) (Nat.le_of_ble_eq_true rfl) ?_
        refine eg_istore (i := 4) [(4, .int v13), (0, .ref l0), (3, .int l3)] dX13_condition_40 (Nat.le_of_ble_eq_true rfl) rfl ?_
        refine eg_iload_n (i := 3) 2 dX13_condition_42 rfl rfl ?_
        refine eg_if_ne 51 dX13_condition_43 rfl (fun c15 => ?_) (fun c15 => ?_)
        · replace hF := eg_it c15 hF
          refine eg_iload (i := 4) 0 dX13_condition_46 rfl ?_
          refine eg_if_eq 55 dX13_condition_48 rfl (fun c16 => ?_) (fun c16 => ?_)
          · replace hF := eg_it c16 hF
            refine eg_iconst (v := (0 : Int32)) dX13_condition_55 (by decide) ?_
            refine eg_istore_n (i := 3) [(3, .int (0 : Int32)), (4, .int v13), (0, .ref l0)] dX13_condition_56 rfl (Nat.le_of_ble_eq_true rfl) rfl ?_
            refine eg_goto 7 dX13_condition_57 rfl ?_
            exact eg_sub [2, 0] [(0, .ref l0), (3, .int (0 : Int32))] rfl (hrec h12 l0 (0 : Int32) hF)
          · replace hF := eg_if c16 hF
            refine eg_iconst (v := (1 : Int32)) dX13_condition_51 (by decide) ?_
            refine eg_goto 56 dX13_condition_52 rfl ?_
            refine eg_istore_n (i := 3) [(3, .int (1 : Int32)), (4, .int v13), (0, .ref l0)] dX13_condition_56 rfl (Nat.le_of_ble_eq_true rfl) rfl ?_
            refine eg_goto 7 dX13_condition_57 rfl ?_
            exact eg_sub [2, 0] [(0, .ref l0), (3, .int (1 : Int32))] rfl (hrec h12 l0 (1 : Int32) hF)
        · replace hF := eg_if c15 hF
          refine eg_iconst (v := (1 : Int32)) dX13_condition_51 (by decide) ?_
          refine eg_goto 56 dX13_condition_52 rfl ?_
          refine eg_istore_n (i := 3) [(3, .int (1 : Int32)), (4, .int v13), (0, .ref l0)] dX13_condition_56 rfl (Nat.le_of_ble_eq_true rfl) rfl ?_
          refine eg_goto 7 dX13_condition_57 rfl ?_
          exact eg_sub [2, 0] [(0, .ref l0), (3, .int (1 : Int32))] rfl (hrec h12 l0 (1 : Int32) hF)
      · replace hF := eg_if c7 hF
        exact eg_sub [1] [(3, .int l3)] rfl (hk0 l3 h4 (Option.some.inj hF).symm)
    · replace hF := eg_if c3 hF
      exact eg_sub [1] [(3, .int l3)] rfl (hk0 l3 h (Option.some.inj hF).symm)
def fX13_condition (rc : eg_H → Nat → Option (Int32 × eg_H)) (h : eg_H) (l0 : Nat) (l1 : Int32) (l2 : Int32) : Option (Int32 × eg_H) :=
  if eg_isO h 13 l0 then (
    (fX13_part rc h l0 l1 l2).bind fun ⟨v2, h1⟩ =>
    (fX13_condition_L7 rc eg_F h1 l0 v2).bind fun e =>
    match e with
    | (v6, h7) =>
      if v6 = 0 ∨ v6 = 1 then some (v6, h7) else none) else none
theorem fX13_condition_O {rc : eg_H → Nat → Option (Int32 × eg_H)} {h : eg_H} {l0 : Nat} {l1 : Int32} {l2 : Int32} {rE : Int32} {hE : eg_H} (hF : fX13_condition rc h l0 l1 l2 = some (rE, hE)) : eg_isO h 13 l0 := (eg_ifn hF).1
set_option maxRecDepth 20000 in
theorem mX13_condition {rc : eg_H → Nat → Option (Int32 × eg_H)} {dr : Nat} (hdr : 198 ≤ dr) (hrc : ∀ (h : eg_H) (a0 : Nat) (rE : Int32) (hE : eg_H), rc h a0 = some (rE, hE) → eg_Met yX13_unit cX13_unit 3 (some .boolean) dr [.ref a0] h (some (.int rE)) hE) {h : eg_H} {l0 : Nat} {l1 : Int32} {l2 : Int32} {rE : Int32} {hE : eg_H} (hF : fX13_condition rc h l0 l1 l2 = some (rE, hE)) : eg_Met yX13_condition cX13_condition 5 (some .boolean) (dr + 2) [.ref l0, .int l1, .int l2] h (some (.int rE)) hE := by
  refine eg_enter rfl (Nat.le_of_ble_eq_true rfl) ?_
  show eg_AW (RX13, cX13_condition, 5, dr + 2, none, "condition", (some .boolean)) (eg_Zm (some (.int rE)) hE h) (eg_nc hE) (eg_ns hE) h 0 [(0, .ref l0), (1, .int l1), (2, .int l2)] [] h
  replace hF := (eg_ifn hF).2
  refine eg_aload_n (i := 0) 0 dX13_condition_0 rfl rfl ?_
  refine eg_iload_n (i := 1) 1 dX13_condition_1 rfl rfl ?_
  refine eg_iload_n (i := 2) 2 dX13_condition_2 rfl rfl ?_
  replace hF := eg_bind hF; obtain ⟨⟨v2, h1⟩, e3, hF⟩ := hF
  refine eg_callV (c := 13) (n := 2) [.int l1, .int l2] dX13_condition_3 (mX13_part hdr hrc e3) rfl (fX13_part_O e3) (Nat.le_of_ble_eq_true rfl) rfl ew_1817 ew_1819 ew_63 ew_110 ew_1820 hy_X13_part rfl (by have := eg_D_eq; omega) (Nat.le_of_ble_eq_true rfl) (Nat.le_of_ble_eq_true rfl) ?_
  refine eg_istore_n (i := 3) [(3, .int v2), (0, .ref l0), (1, .int l1), (2, .int l2)] dX13_condition_6 rfl (Nat.le_of_ble_eq_true rfl) rfl ?_
  replace hF := eg_bind hF; obtain ⟨x5, e4, hF⟩ := hF
  refine eg_sub [1, 0] [(0, .ref l0), (3, .int v2)] rfl (fX13_condition_L7_ok hdr hrc eg_F h1 l0 v2 x5 e4 ?_)
  · intro v6 h7 e9
    subst e9
    refine eg_iload_n (i := 3) 0 dX13_condition_60 rfl rfl ?_
    replace hF := eg_ifn hF; obtain ⟨c8, hF⟩ := hF
    exact eg_zretE dX13_condition_61 c8 hF
theorem dX13_unit_0 : decode cX13_unit 0 = .ok (.aload_n 0, 1) := by decide +kernel
theorem dX13_unit_1 : decode cX13_unit 1 = .ok (.invokevirtual 190, 3) := by decide +kernel
theorem dX13_unit_4 : decode cX13_unit 4 = .ok (.istore_n 1, 1) := by decide +kernel
theorem dX13_unit_5 : decode cX13_unit 5 = .ok (.iload_n 1, 1) := by decide +kernel
theorem dX13_unit_6 : decode cX13_unit 6 = .ok (.bipush 33, 2) := by decide +kernel
theorem dX13_unit_8 : decode cX13_unit 8 = .ok (.if_icmp .ne 37, 3) := by decide +kernel
theorem dX13_unit_11 : decode cX13_unit 11 = .ok (.aload_n 0, 1) := by decide +kernel
theorem dX13_unit_12 : decode cX13_unit 12 = .ok (.invokevirtual 210, 3) := by decide +kernel
theorem dX13_unit_15 : decode cX13_unit 15 = .ok (.ifCond .ne 5, 3) := by decide +kernel
theorem dX13_unit_18 : decode cX13_unit 18 = .ok (.iconst 0, 1) := by decide +kernel
theorem dX13_unit_19 : decode cX13_unit 19 = .ok (.ireturn, 1) := by decide +kernel
theorem dX13_unit_20 : decode cX13_unit 20 = .ok (.aload_n 0, 1) := by decide +kernel
theorem dX13_unit_21 : decode cX13_unit 21 = .ok (.invokevirtual 236, 3) := by decide +kernel
theorem dX13_unit_24 : decode cX13_unit 24 = .ok (.istore_n 2, 1) := by decide +kernel
theorem dX13_unit_25 : decode cX13_unit 25 = .ok (.aload_n 0, 1) := by decide +kernel
theorem dX13_unit_26 : decode cX13_unit 26 = .ok (.dup, 1) := by decide +kernel
theorem dX13_unit_27 : decode cX13_unit 27 = .ok (.getfield 183, 3) := by decide +kernel
theorem dX13_unit_30 : decode cX13_unit 30 = .ok (.iconst 1, 1) := by decide +kernel
theorem dX13_unit_31 : decode cX13_unit 31 = .ok (.isub, 1) := by decide +kernel
theorem dX13_unit_32 : decode cX13_unit 32 = .ok (.putfield 183, 3) := by decide +kernel
theorem dX13_unit_35 : decode cX13_unit 35 = .ok (.iload_n 2, 1) := by decide +kernel
theorem dX13_unit_36 : decode cX13_unit 36 = .ok (.ifCond .ne 7, 3) := by decide +kernel
theorem dX13_unit_39 : decode cX13_unit 39 = .ok (.iconst 1, 1) := by decide +kernel
theorem dX13_unit_40 : decode cX13_unit 40 = .ok (.goto 4, 3) := by decide +kernel
theorem dX13_unit_43 : decode cX13_unit 43 = .ok (.iconst 0, 1) := by decide +kernel
theorem dX13_unit_44 : decode cX13_unit 44 = .ok (.ireturn, 1) := by decide +kernel
theorem dX13_unit_45 : decode cX13_unit 45 = .ok (.iload_n 1, 1) := by decide +kernel
theorem dX13_unit_46 : decode cX13_unit 46 = .ok (.bipush 40, 2) := by decide +kernel
theorem dX13_unit_48 : decode cX13_unit 48 = .ok (.if_icmp .ne 42, 3) := by decide +kernel
theorem dX13_unit_51 : decode cX13_unit 51 = .ok (.aload_n 0, 1) := by decide +kernel
theorem dX13_unit_52 : decode cX13_unit 52 = .ok (.invokevirtual 210, 3) := by decide +kernel
theorem dX13_unit_55 : decode cX13_unit 55 = .ok (.ifCond .ne 5, 3) := by decide +kernel
theorem dX13_unit_58 : decode cX13_unit 58 = .ok (.iconst 0, 1) := by decide +kernel
theorem dX13_unit_59 : decode cX13_unit 59 = .ok (.ireturn, 1) := by decide +kernel
theorem dX13_unit_60 : decode cX13_unit 60 = .ok (.aload_n 0, 1) := by decide +kernel
theorem dX13_unit_61 : decode cX13_unit 61 = .ok (.iconst 0, 1) := by decide +kernel
theorem dX13_unit_62 : decode cX13_unit 62 = .ok (.iconst 0, 1) := by decide +kernel
theorem dX13_unit_63 : decode cX13_unit 63 = .ok (.invokevirtual 239, 3) := by decide +kernel
theorem dX13_unit_66 : decode cX13_unit 66 = .ok (.istore_n 2, 1) := by decide +kernel
theorem dX13_unit_67 : decode cX13_unit 67 = .ok (.aload_n 0, 1) := by decide +kernel
theorem dX13_unit_68 : decode cX13_unit 68 = .ok (.bipush 41, 2) := by decide +kernel
theorem dX13_unit_70 : decode cX13_unit 70 = .ok (.invokevirtual 216, 3) := by decide +kernel
theorem dX13_unit_73 : decode cX13_unit 73 = .ok (.ifCond .ne 5, 3) := by decide +kernel
theorem dX13_unit_76 : decode cX13_unit 76 = .ok (.iconst 0, 1) := by decide +kernel
theorem dX13_unit_77 : decode cX13_unit 77 = .ok (.ireturn, 1) := by decide +kernel
theorem dX13_unit_78 : decode cX13_unit 78 = .ok (.aload_n 0, 1) := by decide +kernel
theorem dX13_unit_79 : decode cX13_unit 79 = .ok (.dup, 1) := by decide +kernel
theorem dX13_unit_80 : decode cX13_unit 80 = .ok (.getfield 183, 3) := by decide +kernel
theorem dX13_unit_83 : decode cX13_unit 83 = .ok (.iconst 1, 1) := by decide +kernel
theorem dX13_unit_84 : decode cX13_unit 84 = .ok (.isub, 1) := by decide +kernel
theorem dX13_unit_85 : decode cX13_unit 85 = .ok (.putfield 183, 3) := by decide +kernel
theorem dX13_unit_88 : decode cX13_unit 88 = .ok (.iload_n 2, 1) := by decide +kernel
theorem dX13_unit_89 : decode cX13_unit 89 = .ok (.ireturn, 1) := by decide +kernel
theorem dX13_unit_90 : decode cX13_unit 90 = .ok (.aload_n 0, 1) := by decide +kernel
theorem dX13_unit_91 : decode cX13_unit 91 = .ok (.iconst 0, 1) := by decide +kernel
theorem dX13_unit_92 : decode cX13_unit 92 = .ok (.iconst 0, 1) := by decide +kernel
theorem dX13_unit_93 : decode cX13_unit 93 = .ok (.invokevirtual 243, 3) := by decide +kernel
theorem dX13_unit_96 : decode cX13_unit 96 = .ok (.ireturn, 1) := by decide +kernel
def fX13_unitB (rc : eg_H → Nat → Option (Int32 × eg_H)) (h : eg_H) (l0 : Nat) : Option (Int32 × eg_H) :=
  if eg_isO h 13 l0 then (
    (fX13_look h l0).bind fun ⟨v2, h1⟩ =>
    if v2 = (33 : Int32) then
      ((fX13_goesIn h1 l0).bind fun ⟨v6, h5⟩ =>
      if v6 = 0 then
        (some ((0 : Int32), h5))
      else
        if eg_isO h5 13 l0 then (
        (rc h5 l0).bind fun ⟨v10, h9⟩ =>
        (eg_gI h9 13 12 l0).bind fun v13 =>
        (eg_pI h9 13 12 l0 (v13 - (1 : Int32))).bind fun h15 =>
        if v10 = 0 then
          (some ((1 : Int32), h15))
        else
          some ((0 : Int32), h15)) else none)
    else
      if v2 = (40 : Int32) then
        ((fX13_goesIn h1 l0).bind fun ⟨v20, h19⟩ =>
        if v20 = 0 then
          (some ((0 : Int32), h19))
        else
          (fX13_condition rc h19 l0 (0 : Int32) (0 : Int32)).bind fun ⟨v24, h23⟩ =>
          (fX13_takes h23 l0 (41 : Int32)).bind fun ⟨v27, h26⟩ =>
          if v27 = 0 then
            (some ((0 : Int32), h26))
          else
            (eg_gI h26 13 12 l0).bind fun v30 =>
            (eg_pI h26 13 12 l0 (v30 - (1 : Int32))).bind fun h32 =>
            if v24 = 0 ∨ v24 = 1 then some (v24, h32) else none)
      else
        (fX13_compares h1 l0 (0 : Int32) (0 : Int32)).bind fun ⟨v36, h35⟩ =>
        if v36 = 0 ∨ v36 = 1 then some (v36, h35) else none) else none
theorem fX13_unitB_O {rc : eg_H → Nat → Option (Int32 × eg_H)} {h : eg_H} {l0 : Nat} {rE : Int32} {hE : eg_H} (hF : fX13_unitB rc h l0 = some (rE, hE)) : eg_isO h 13 l0 := (eg_ifn hF).1
set_option maxRecDepth 20000 in
theorem mX13_unitB {rc : eg_H → Nat → Option (Int32 × eg_H)} {dr : Nat} (hdr : 198 ≤ dr) (hrc : ∀ (h : eg_H) (a0 : Nat) (rE : Int32) (hE : eg_H), rc h a0 = some (rE, hE) → eg_Met yX13_unit cX13_unit 3 (some .boolean) dr [.ref a0] h (some (.int rE)) hE) {h : eg_H} {l0 : Nat} {rE : Int32} {hE : eg_H} (hF : fX13_unitB rc h l0 = some (rE, hE)) : eg_Met yX13_unit cX13_unit 3 (some .boolean) (dr + 3) [.ref l0] h (some (.int rE)) hE := by
  refine eg_enter rfl (Nat.le_of_ble_eq_true rfl) ?_
  show eg_AW (RX13, cX13_unit, 3, dr + 3, none, "unit", (some .boolean)) (eg_Zm (some (.int rE)) hE h) (eg_nc hE) (eg_ns hE) h 0 [(0, .ref l0)] [] h
  replace hF := (eg_ifn hF).2
  refine eg_aload_n (i := 0) 0 dX13_unit_0 rfl rfl ?_
  replace hF := eg_bind hF; obtain ⟨⟨v2, h1⟩, e3, hF⟩ := hF
  refine eg_callV (c := 13) (n := 0) [] dX13_unit_1 (mX13_look e3) rfl (fX13_look_O e3) (Nat.le_of_ble_eq_true rfl) rfl ew_1715 ew_1717 ew_54 ew_110 ew_1718 hy_X13_look rfl (by have := eg_D_eq; omega) (Nat.le_of_ble_eq_true rfl) (Nat.le_of_ble_eq_true rfl) ?_
  refine eg_istore_n (i := 1) [(1, .int v2), (0, .ref l0)] dX13_unit_4 rfl (Nat.le_of_ble_eq_true rfl) rfl ?_
  refine eg_iload_n (i := 1) 0 dX13_unit_5 rfl rfl ?_
  refine eg_bipush (v := (33 : Int32)) dX13_unit_6 (by decide) ?_
  refine eg_ic_ne 45 dX13_unit_8 rfl (fun c4 => ?_) (fun c4 => ?_)
  · replace hF := eg_it c4 hF
    refine eg_aload_n (i := 0) 1 dX13_unit_11 rfl rfl ?_
    replace hF := eg_bind hF; obtain ⟨⟨v6, h5⟩, e7, hF⟩ := hF
    refine eg_callV (c := 13) (n := 0) [] dX13_unit_12 (mX13_goesIn e7) rfl (fX13_goesIn_O e7) (Nat.le_of_ble_eq_true rfl) rfl ew_1837 ew_1839 ew_68 ew_110 ew_1840 hy_X13_goesIn rfl (by have := eg_D_eq; omega) (Nat.le_of_ble_eq_true rfl) (Nat.le_of_ble_eq_true rfl) ?_
    refine eg_if_ne 20 dX13_unit_15 rfl (fun c8 => ?_) (fun c8 => ?_)
    · replace hF := eg_it c8 hF
      refine eg_iconst (v := (0 : Int32)) dX13_unit_18 (by decide) ?_
      exact eg_zretE dX13_unit_19 (Or.inl rfl) hF
    · replace hF := eg_if c8 hF
      refine eg_aload_n (i := 0) 1 dX13_unit_20 rfl rfl ?_
      replace hF := eg_ifn hF; obtain ⟨c12, hF⟩ := hF
      replace hF := eg_bind hF; obtain ⟨⟨v10, h9⟩, e11, hF⟩ := hF
      refine eg_callV (c := 13) (n := 0) [] dX13_unit_21 (hrc _ _ _ _ e11) rfl c12 (Nat.le_of_ble_eq_true rfl) rfl ew_1855 ew_1857 ew_69 ew_110 ew_1858 hy_X13_unit rfl (by have := eg_D_eq; omega) (Nat.le_of_ble_eq_true rfl) (Nat.le_of_ble_eq_true rfl) ?_
      refine eg_istore_n (i := 2) [(2, .int v10), (1, .int v2), (0, .ref l0)] dX13_unit_24 rfl (Nat.le_of_ble_eq_true rfl) rfl ?_
      refine eg_aload_n (i := 0) 2 dX13_unit_25 rfl rfl ?_
      refine eg_dup dX13_unit_26 rfl ?_
      replace hF := eg_bind hF; obtain ⟨v13, e14, hF⟩ := hF
      refine eg_getI dX13_unit_27 e14 (Nat.le_of_ble_eq_true rfl) (Nat.le_of_ble_eq_true rfl) rfl ew_1446 ?_
      refine eg_iconst (v := (1 : Int32)) dX13_unit_30 (by decide) ?_
      refine eg_isub dX13_unit_31 ?_
      replace hF := eg_bind hF; obtain ⟨h15, e16, hF⟩ := hF
      refine eg_putI dX13_unit_32 e16 (Nat.le_of_ble_eq_true rfl) (Nat.le_of_ble_eq_true rfl) rfl ew_1446 (Or.inl rfl) ?_
      refine eg_iload_n (i := 2) 0 dX13_unit_35 rfl rfl ?_
      refine eg_if_ne 43 dX13_unit_36 rfl (fun c17 => ?_) (fun c17 => ?_)
      · replace hF := eg_it c17 hF
        refine eg_iconst (v := (1 : Int32)) dX13_unit_39 (by decide) ?_
        refine eg_goto 44 dX13_unit_40 rfl ?_
        exact eg_zretE dX13_unit_44 (Or.inr rfl) hF
      · replace hF := eg_if c17 hF
        refine eg_iconst (v := (0 : Int32)) dX13_unit_43 (by decide) ?_
        exact eg_zretE dX13_unit_44 (Or.inl rfl) hF
  · replace hF := eg_if c4 hF
    refine eg_iload_n (i := 1) 0 dX13_unit_45 rfl rfl ?_
    refine eg_bipush (v := (40 : Int32)) dX13_unit_46 (by decide) ?_
    refine eg_ic_ne 90 dX13_unit_48 rfl (fun c18 => ?_) (fun c18 => ?_)
    · replace hF := eg_it c18 hF
      refine eg_aload_n (i := 0) 1 dX13_unit_51 rfl rfl ?_
      replace hF := eg_bind hF; obtain ⟨⟨v20, h19⟩, e21, hF⟩ := hF
      refine eg_callV (c := 13) (n := 0) [] dX13_unit_52 (mX13_goesIn e21) rfl (fX13_goesIn_O e21) (Nat.le_of_ble_eq_true rfl) rfl ew_1837 ew_1839 ew_68 ew_110 ew_1840 hy_X13_goesIn rfl (by have := eg_D_eq; omega) (Nat.le_of_ble_eq_true rfl) (Nat.le_of_ble_eq_true rfl) ?_
      refine eg_if_ne 60 dX13_unit_55 rfl (fun c22 => ?_) (fun c22 => ?_)
      · replace hF := eg_it c22 hF
        refine eg_iconst (v := (0 : Int32)) dX13_unit_58 (by decide) ?_
        exact eg_zretE dX13_unit_59 (Or.inl rfl) hF
      · replace hF := eg_if c22 hF
        refine eg_aload_n (i := 0) 1 dX13_unit_60 rfl rfl ?_
        refine eg_iconst (v := (0 : Int32)) dX13_unit_61 (by decide) ?_
        refine eg_iconst (v := (0 : Int32)) dX13_unit_62 (by decide) ?_
        replace hF := eg_bind hF; obtain ⟨⟨v24, h23⟩, e25, hF⟩ := hF
        refine eg_callV (c := 13) (n := 2) [.int (0 : Int32), .int (0 : Int32)] dX13_unit_63 (mX13_condition hdr hrc e25) rfl (fX13_condition_O e25) (Nat.le_of_ble_eq_true rfl) rfl ew_1813 ew_1815 ew_62 ew_110 ew_1816 hy_X13_condition rfl (by have := eg_D_eq; omega) (Nat.le_of_ble_eq_true rfl) (Nat.le_of_ble_eq_true rfl) ?_
        refine eg_istore_n (i := 2) [(2, .int v24), (1, .int v2), (0, .ref l0)] dX13_unit_66 rfl (Nat.le_of_ble_eq_true rfl) rfl ?_
        refine eg_aload_n (i := 0) 2 dX13_unit_67 rfl rfl ?_
        refine eg_bipush (v := (41 : Int32)) dX13_unit_68 (by decide) ?_
        replace hF := eg_bind hF; obtain ⟨⟨v27, h26⟩, e28, hF⟩ := hF
        refine eg_callV (c := 13) (n := 1) [.int (41 : Int32)] dX13_unit_70 (mX13_takes e28) rfl (fX13_takes_O e28) (Nat.le_of_ble_eq_true rfl) rfl ew_1809 ew_1811 ew_61 ew_110 ew_1812 hy_X13_takes rfl (by have := eg_D_eq; omega) (Nat.le_of_ble_eq_true rfl) (Nat.le_of_ble_eq_true rfl) ?_
        refine eg_if_ne 78 dX13_unit_73 rfl (fun c29 => ?_) (fun c29 => ?_)
        · replace hF := eg_it c29 hF
          refine eg_iconst (v := (0 : Int32)) dX13_unit_76 (by decide) ?_
          exact eg_zretE dX13_unit_77 (Or.inl rfl) hF
        · replace hF := eg_if c29 hF
          refine eg_aload_n (i := 0) 2 dX13_unit_78 rfl rfl ?_
          refine eg_dup dX13_unit_79 rfl ?_
          replace hF := eg_bind hF; obtain ⟨v30, e31, hF⟩ := hF
          refine eg_getI dX13_unit_80 e31 (Nat.le_of_ble_eq_true rfl) (Nat.le_of_ble_eq_true rfl) rfl ew_1446 ?_
          refine eg_iconst (v := (1 : Int32)) dX13_unit_83 (by decide) ?_
          refine eg_isub dX13_unit_84 ?_
          replace hF := eg_bind hF; obtain ⟨h32, e33, hF⟩ := hF
          refine eg_putI dX13_unit_85 e33 (Nat.le_of_ble_eq_true rfl) (Nat.le_of_ble_eq_true rfl) rfl ew_1446 (Or.inl rfl) ?_
          refine eg_iload_n (i := 2) 0 dX13_unit_88 rfl rfl ?_
          replace hF := eg_ifn hF; obtain ⟨c34, hF⟩ := hF
          exact eg_zretE dX13_unit_89 c34 hF
    · replace hF := eg_if c18 hF
      refine eg_aload_n (i := 0) 1 dX13_unit_90 rfl rfl ?_
      refine eg_iconst (v := (0 : Int32)) dX13_unit_91 (by decide) ?_
      refine eg_iconst (v := (0 : Int32)) dX13_unit_92 (by decide) ?_
      replace hF := eg_bind hF; obtain ⟨⟨v36, h35⟩, e37, hF⟩ := hF
      refine eg_callV (c := 13) (n := 2) [.int (0 : Int32), .int (0 : Int32)] dX13_unit_93 (mX13_compares e37) rfl (fX13_compares_O e37) (Nat.le_of_ble_eq_true rfl) rfl ew_1821 ew_1823 ew_64 ew_110 ew_1824 hy_X13_compares rfl (by have := eg_D_eq; omega) (Nat.le_of_ble_eq_true rfl) (Nat.le_of_ble_eq_true rfl) ?_
      replace hF := eg_ifn hF; obtain ⟨c38, hF⟩ := hF
      exact eg_zretE dX13_unit_96 c38 hF
def fX13_unit : Nat → eg_H → Nat → Option (Int32 × eg_H)
  | 0 => fun _ _ => none
  | n + 1 => fX13_unitB (fX13_unit n)
theorem fX13_unit_O {n : Nat} {h : eg_H} {l0 : Nat} {rE : Int32} {hE : eg_H} (hF : fX13_unit n h l0 = some (rE, hE)) : eg_isO h 13 l0 := by
  cases n with
  | zero => cases hF
  | succ n => exact fX13_unitB_O (rc := fX13_unit n) hF
theorem mX13_unit_x : ∀ (n : Nat) (h : eg_H) (l0 : Nat) (rE : Int32) (hE : eg_H), fX13_unit n h l0 = some (rE, hE) → eg_Met yX13_unit cX13_unit 3 (some .boolean) (198 + 3 * n) [.ref l0] h (some (.int rE)) hE := by
  intro n
  induction n with
  | zero => intro h l0 rE hE hF; cases hF
  | succ n ih =>
    intro h l0 rE hE hF
    exact mX13_unitB (rc := fX13_unit n) (dr := 198 + 3 * n) (by omega) ih hF
theorem mX13_unit (n : Nat) {h : eg_H} {l0 : Nat} {rE : Int32} {hE : eg_H} (hF : fX13_unit n h l0 = some (rE, hE)) : eg_Met yX13_unit cX13_unit 3 (some .boolean) (198 + 3 * n) [.ref l0] h (some (.int rE)) hE := mX13_unit_x n h l0 rE hE hF
theorem dX13_clause_0 : decode cX13_clause 0 = .ok (.aload_n 0, 1) := by decide +kernel
theorem dX13_clause_1 : decode cX13_clause 1 = .ok (.invokevirtual 190, 3) := by decide +kernel
theorem dX13_clause_4 : decode cX13_clause 4 = .ok (.istore_n 1, 1) := by decide +kernel
theorem dX13_clause_5 : decode cX13_clause 5 = .ok (.ldc 26, 2) := by decide +kernel
theorem dX13_clause_7 : decode cX13_clause 7 = .ok (.iload_n 1, 1) := by decide +kernel
theorem dX13_clause_8 : decode cX13_clause 8 = .ok (.invokestatic 206, 3) := by decide +kernel
theorem dX13_clause_11 : decode cX13_clause 11 = .ok (.ifCond .ne 9, 3) := by decide +kernel
theorem dX13_clause_14 : decode cX13_clause 14 = .ok (.aload_n 0, 1) := by decide +kernel
theorem dX13_clause_15 : decode cX13_clause 15 = .ok (.invokevirtual 186, 3) := by decide +kernel
theorem dX13_clause_18 : decode cX13_clause 18 = .ok (.pop, 1) := by decide +kernel
theorem dX13_clause_19 : decode cX13_clause 19 = .ok (.return_, 1) := by decide +kernel
theorem dX13_clause_20 : decode cX13_clause 20 = .ok (.aload_n 0, 1) := by decide +kernel
theorem dX13_clause_21 : decode cX13_clause 21 = .ok (.dup, 1) := by decide +kernel
theorem dX13_clause_22 : decode cX13_clause 22 = .ok (.getfield 171, 3) := by decide +kernel
theorem dX13_clause_25 : decode cX13_clause 25 = .ok (.iconst 1, 1) := by decide +kernel
theorem dX13_clause_26 : decode cX13_clause 26 = .ok (.iadd, 1) := by decide +kernel
theorem dX13_clause_27 : decode cX13_clause 27 = .ok (.putfield 171, 3) := by decide +kernel
theorem dX13_clause_30 : decode cX13_clause 30 = .ok (.aload_n 0, 1) := by decide +kernel
theorem dX13_clause_31 : decode cX13_clause 31 = .ok (.bipush 58, 2) := by decide +kernel
theorem dX13_clause_33 : decode cX13_clause 33 = .ok (.invokevirtual 216, 3) := by decide +kernel
theorem dX13_clause_36 : decode cX13_clause 36 = .ok (.ifCond .ne 4, 3) := by decide +kernel
theorem dX13_clause_39 : decode cX13_clause 39 = .ok (.return_, 1) := by decide +kernel
theorem dX13_clause_40 : decode cX13_clause 40 = .ok (.iconst 1, 1) := by decide +kernel
theorem dX13_clause_41 : decode cX13_clause 41 = .ok (.istore_n 2, 1) := by decide +kernel
theorem dX13_clause_42 : decode cX13_clause 42 = .ok (.iconst 0, 1) := by decide +kernel
theorem dX13_clause_43 : decode cX13_clause 43 = .ok (.istore_n 3, 1) := by decide +kernel
theorem dX13_clause_44 : decode cX13_clause 44 = .ok (.aload_n 0, 1) := by decide +kernel
theorem dX13_clause_45 : decode cX13_clause 45 = .ok (.invokevirtual 190, 3) := by decide +kernel
theorem dX13_clause_48 : decode cX13_clause 48 = .ok (.istore 4, 2) := by decide +kernel
theorem dX13_clause_50 : decode cX13_clause 50 = .ok (.iload 4, 2) := by decide +kernel
theorem dX13_clause_52 : decode cX13_clause 52 = .ok (.bipush 33, 2) := by decide +kernel
theorem dX13_clause_54 : decode cX13_clause 54 = .ok (.if_icmp .eq 10, 3) := by decide +kernel
theorem dX13_clause_57 : decode cX13_clause 57 = .ok (.iload 4, 2) := by decide +kernel
theorem dX13_clause_59 : decode cX13_clause 59 = .ok (.bipush 40, 2) := by decide +kernel
theorem dX13_clause_61 : decode cX13_clause 61 = .ok (.if_icmp .ne 28, 3) := by decide +kernel
theorem dX13_clause_64 : decode cX13_clause 64 = .ok (.aload_n 0, 1) := by decide +kernel
theorem dX13_clause_65 : decode cX13_clause 65 = .ok (.iconst 0, 1) := by decide +kernel
theorem dX13_clause_66 : decode cX13_clause 66 = .ok (.iconst 0, 1) := by decide +kernel
theorem dX13_clause_67 : decode cX13_clause 67 = .ok (.invokevirtual 239, 3) := by decide +kernel
theorem dX13_clause_70 : decode cX13_clause 70 = .ok (.istore_n 2, 1) := by decide +kernel
theorem dX13_clause_71 : decode cX13_clause 71 = .ok (.aload_n 0, 1) := by decide +kernel
theorem dX13_clause_72 : decode cX13_clause 72 = .ok (.bipush 63, 2) := by decide +kernel
theorem dX13_clause_74 : decode cX13_clause 74 = .ok (.invokevirtual 216, 3) := by decide +kernel
theorem dX13_clause_77 : decode cX13_clause 77 = .ok (.ifCond .ne 4, 3) := by decide +kernel
theorem dX13_clause_80 : decode cX13_clause 80 = .ok (.return_, 1) := by decide +kernel
theorem dX13_clause_81 : decode cX13_clause 81 = .ok (.aload_n 0, 1) := by decide +kernel
theorem dX13_clause_82 : decode cX13_clause 82 = .ok (.invokevirtual 213, 3) := by decide +kernel
theorem dX13_clause_85 : decode cX13_clause 85 = .ok (.istore_n 3, 1) := by decide +kernel
theorem dX13_clause_86 : decode cX13_clause 86 = .ok (.goto 48, 3) := by decide +kernel
theorem dX13_clause_89 : decode cX13_clause 89 = .ok (.aload_n 0, 1) := by decide +kernel
theorem dX13_clause_90 : decode cX13_clause 90 = .ok (.invokevirtual 213, 3) := by decide +kernel
theorem dX13_clause_93 : decode cX13_clause 93 = .ok (.istore_n 3, 1) := by decide +kernel
theorem dX13_clause_94 : decode cX13_clause 94 = .ok (.aload_n 0, 1) := by decide +kernel
theorem dX13_clause_95 : decode cX13_clause 95 = .ok (.getfield 180, 3) := by decide +kernel
theorem dX13_clause_98 : decode cX13_clause 98 = .ok (.iconst (-1), 1) := by decide +kernel
theorem dX13_clause_99 : decode cX13_clause 99 = .ok (.if_icmp .ne 35, 3) := by decide +kernel
theorem dX13_clause_102 : decode cX13_clause 102 = .ok (.aload_n 0, 1) := by decide +kernel
theorem dX13_clause_103 : decode cX13_clause 103 = .ok (.invokevirtual 190, 3) := by decide +kernel
theorem dX13_clause_106 : decode cX13_clause 106 = .ok (.invokestatic 233, 3) := by decide +kernel
theorem dX13_clause_109 : decode cX13_clause 109 = .ok (.ifCond .eq 25, 3) := by decide +kernel
theorem dX13_clause_112 : decode cX13_clause 112 = .ok (.aload_n 0, 1) := by decide +kernel
theorem dX13_clause_113 : decode cX13_clause 113 = .ok (.iconst 1, 1) := by decide +kernel
theorem dX13_clause_114 : decode cX13_clause 114 = .ok (.iload_n 3, 1) := by decide +kernel
theorem dX13_clause_115 : decode cX13_clause 115 = .ok (.invokevirtual 239, 3) := by decide +kernel
theorem dX13_clause_118 : decode cX13_clause 118 = .ok (.istore_n 2, 1) := by decide +kernel
theorem dX13_clause_119 : decode cX13_clause 119 = .ok (.aload_n 0, 1) := by decide +kernel
theorem dX13_clause_120 : decode cX13_clause 120 = .ok (.bipush 63, 2) := by decide +kernel
theorem dX13_clause_122 : decode cX13_clause 122 = .ok (.invokevirtual 216, 3) := by decide +kernel
theorem dX13_clause_125 : decode cX13_clause 125 = .ok (.ifCond .ne 4, 3) := by decide +kernel
theorem dX13_clause_128 : decode cX13_clause 128 = .ok (.return_, 1) := by decide +kernel
theorem dX13_clause_129 : decode cX13_clause 129 = .ok (.aload_n 0, 1) := by decide +kernel
theorem dX13_clause_130 : decode cX13_clause 130 = .ok (.invokevirtual 213, 3) := by decide +kernel
theorem dX13_clause_133 : decode cX13_clause 133 = .ok (.istore_n 3, 1) := by decide +kernel
theorem dX13_clause_134 : decode cX13_clause 134 = .ok (.aload_n 0, 1) := by decide +kernel
theorem dX13_clause_135 : decode cX13_clause 135 = .ok (.getfield 180, 3) := by decide +kernel
theorem dX13_clause_138 : decode cX13_clause 138 = .ok (.iconst (-1), 1) := by decide +kernel
theorem dX13_clause_139 : decode cX13_clause 139 = .ok (.if_icmp .ne 22, 3) := by decide +kernel
theorem dX13_clause_142 : decode cX13_clause 142 = .ok (.aload_n 0, 1) := by decide +kernel
theorem dX13_clause_143 : decode cX13_clause 143 = .ok (.getfield 249, 3) := by decide +kernel
theorem dX13_clause_146 : decode cX13_clause 146 = .ok (.ifCond .ne 15, 3) := by decide +kernel
theorem dX13_clause_149 : decode cX13_clause 149 = .ok (.iload_n 1, 1) := by decide +kernel
theorem dX13_clause_150 : decode cX13_clause 150 = .ok (.aload_n 0, 1) := by decide +kernel
theorem dX13_clause_151 : decode cX13_clause 151 = .ok (.getfield 253, 3) := by decide +kernel
theorem dX13_clause_154 : decode cX13_clause 154 = .ok (.if_icmp .ne 7, 3) := by decide +kernel
theorem dX13_clause_157 : decode cX13_clause 157 = .ok (.iload_n 2, 1) := by decide +kernel
theorem dX13_clause_158 : decode cX13_clause 158 = .ok (.ifCond .ne 4, 3) := by decide +kernel
theorem dX13_clause_161 : decode cX13_clause 161 = .ok (.return_, 1) := by decide +kernel
theorem dX13_clause_162 : decode cX13_clause 162 = .ok (.aload_n 0, 1) := by decide +kernel
theorem dX13_clause_163 : decode cX13_clause 163 = .ok (.iconst 1, 1) := by decide +kernel
theorem dX13_clause_164 : decode cX13_clause 164 = .ok (.putfield 249, 3) := by decide +kernel
theorem dX13_clause_167 : decode cX13_clause 167 = .ok (.aload_n 0, 1) := by decide +kernel
theorem dX13_clause_168 : decode cX13_clause 168 = .ok (.iload_n 3, 1) := by decide +kernel
theorem dX13_clause_169 : decode cX13_clause 169 = .ok (.putfield 256, 3) := by decide +kernel
theorem dX13_clause_172 : decode cX13_clause 172 = .ok (.return_, 1) := by decide +kernel
def fX13_clause_j134 (h : eg_H) (l0 : Nat) (l1 : Int32) (l2 : Int32) (l3 : Int32) : Option (eg_H) :=
  (eg_gI h 13 11 l0).bind fun v1 =>
  if v1 = (-1 : Int32) then
    ((eg_gI h 13 17 l0).bind fun v4 =>
    if v4 = 0 then
      ((eg_gI h 13 13 l0).bind fun v7 =>
      if l1 = v7 then
        (if l2 = 0 then
          (some h)
        else
          (eg_pZ h 13 17 l0 (1 : Int32)).bind fun h11 =>
          (eg_pI h11 13 14 l0 l3).bind fun h13 =>
          some h13)
      else
        some h)
    else
      some h)
  else
    some h
set_option maxRecDepth 20000 in
theorem fX13_clause_j134_ok {h0 : eg_H} (h : eg_H) (l0 : Nat) (l1 : Int32) (l2 : Int32) (l3 : Int32) {hE : eg_H} (hF : fX13_clause_j134 h l0 l1 l2 l3 = some hE) : eg_AW (RX13, cX13_clause, 5, 393, none, "clause", none) (eg_Zm none hE h0) (eg_nc hE) (eg_ns hE) h0 134 [(0, .ref l0), (1, .int l1), (2, .int l2), (3, .int l3)] [] h := by
  refine eg_aload_n (i := 0) 0 dX13_clause_134 rfl rfl ?_
  replace hF := eg_bind hF; obtain ⟨v1, e2, hF⟩ := hF
  refine eg_getI dX13_clause_135 e2 (Nat.le_of_ble_eq_true rfl) (Nat.le_of_ble_eq_true rfl) rfl ew_1445 ?_
  refine eg_iconst (v := (-1 : Int32)) dX13_clause_138 (by decide) ?_
  refine eg_ic_ne 161 dX13_clause_139 rfl (fun c3 => ?_) (fun c3 => ?_)
  · replace hF := eg_it c3 hF
    refine eg_aload_n (i := 0) 0 dX13_clause_142 rfl rfl ?_
    replace hF := eg_bind hF; obtain ⟨v4, e5, hF⟩ := hF
    refine eg_getI dX13_clause_143 e5 (Nat.le_of_ble_eq_true rfl) (Nat.le_of_ble_eq_true rfl) rfl ew_1451 ?_
    refine eg_if_ne 161 dX13_clause_146 rfl (fun c6 => ?_) (fun c6 => ?_)
    · replace hF := eg_it c6 hF
      refine eg_iload_n (i := 1) 1 dX13_clause_149 rfl rfl ?_
      refine eg_aload_n (i := 0) 0 dX13_clause_150 rfl rfl ?_
      replace hF := eg_bind hF; obtain ⟨v7, e8, hF⟩ := hF
      refine eg_getI dX13_clause_151 e8 (Nat.le_of_ble_eq_true rfl) (Nat.le_of_ble_eq_true rfl) rfl ew_1447 ?_
      refine eg_ic_ne 161 dX13_clause_154 rfl (fun c9 => ?_) (fun c9 => ?_)
      · replace hF := eg_it c9 hF
        refine eg_iload_n (i := 2) 2 dX13_clause_157 rfl rfl ?_
        refine eg_if_ne 162 dX13_clause_158 rfl (fun c10 => ?_) (fun c10 => ?_)
        · replace hF := eg_it c10 hF
          exact eg_vretE dX13_clause_161 hF
        · replace hF := eg_if c10 hF
          refine eg_aload_n (i := 0) 0 dX13_clause_162 rfl rfl ?_
          refine eg_iconst (v := (1 : Int32)) dX13_clause_163 (by decide) ?_
          replace hF := eg_bind hF; obtain ⟨h11, e12, hF⟩ := hF
          refine eg_putZ dX13_clause_164 e12 (Nat.le_of_ble_eq_true rfl) (Nat.le_of_ble_eq_true rfl) rfl ew_1451 rfl ?_
          refine eg_aload_n (i := 0) 0 dX13_clause_167 rfl rfl ?_
          refine eg_iload_n (i := 3) 3 dX13_clause_168 rfl rfl ?_
          replace hF := eg_bind hF; obtain ⟨h13, e14, hF⟩ := hF
          refine eg_putI dX13_clause_169 e14 (Nat.le_of_ble_eq_true rfl) (Nat.le_of_ble_eq_true rfl) rfl ew_1448 (Or.inl rfl) ?_
          exact eg_vretE dX13_clause_172 hF
      · replace hF := eg_if c9 hF
        exact eg_vretE dX13_clause_161 hF
    · replace hF := eg_if c6 hF
      exact eg_vretE dX13_clause_161 hF
  · replace hF := eg_if c3 hF
    exact eg_vretE dX13_clause_161 hF
def fX13_clause_j64 (h : eg_H) (l0 : Nat) (l1 : Int32) : Option (eg_H) :=
  (fX13_condition (fX13_unit eg_D) h l0 (0 : Int32) (0 : Int32)).bind fun ⟨v2, h1⟩ =>
  (fX13_takes h1 l0 (63 : Int32)).bind fun ⟨v5, h4⟩ =>
  if v5 = 0 then
    (some h4)
  else
    (fX13_sum eg_D h4 l0).bind fun ⟨v9, h8⟩ =>
    fX13_clause_j134 h8 l0 l1 v2 v9
set_option maxRecDepth 20000 in
theorem fX13_clause_j64_ok {h0 : eg_H} (h : eg_H) (l0 : Nat) (l1 : Int32) {hE : eg_H} (hF : fX13_clause_j64 h l0 l1 = some hE) : eg_AW (RX13, cX13_clause, 5, 393, none, "clause", none) (eg_Zm none hE h0) (eg_nc hE) (eg_ns hE) h0 64 [(0, .ref l0), (1, .int l1)] [] h := by
  refine eg_aload_n (i := 0) 0 dX13_clause_64 rfl rfl ?_
  refine eg_iconst (v := (0 : Int32)) dX13_clause_65 (by decide) ?_
  refine eg_iconst (v := (0 : Int32)) dX13_clause_66 (by decide) ?_
  replace hF := eg_bind hF; obtain ⟨⟨v2, h1⟩, e3, hF⟩ := hF
  refine eg_callV (c := 13) (n := 2) [.int (0 : Int32), .int (0 : Int32)] dX13_clause_67 (mX13_condition (dr := 198 + 3 * eg_D) (Nat.le_add_right _ _) (mX13_unit_x eg_D) e3) rfl (fX13_condition_O e3) (Nat.le_of_ble_eq_true rfl) rfl ew_1813 ew_1815 ew_62 ew_110 ew_1816 hy_X13_condition rfl (Nat.le_of_ble_eq_true rfl) (Nat.le_of_ble_eq_true rfl) (Nat.le_of_ble_eq_true rfl) ?_
  refine eg_istore_n (i := 2) [(2, .int v2), (0, .ref l0), (1, .int l1)] dX13_clause_70 rfl (Nat.le_of_ble_eq_true rfl) rfl ?_
  refine eg_aload_n (i := 0) 1 dX13_clause_71 rfl rfl ?_
  refine eg_bipush (v := (63 : Int32)) dX13_clause_72 (by decide) ?_
  replace hF := eg_bind hF; obtain ⟨⟨v5, h4⟩, e6, hF⟩ := hF
  refine eg_callV (c := 13) (n := 1) [.int (63 : Int32)] dX13_clause_74 (mX13_takes e6) rfl (fX13_takes_O e6) (Nat.le_of_ble_eq_true rfl) rfl ew_1809 ew_1811 ew_61 ew_110 ew_1812 hy_X13_takes rfl (Nat.le_of_ble_eq_true rfl) (Nat.le_of_ble_eq_true rfl) (Nat.le_of_ble_eq_true rfl) ?_
  refine eg_if_ne 81 dX13_clause_77 rfl (fun c7 => ?_) (fun c7 => ?_)
  · replace hF := eg_it c7 hF
    exact eg_vretE dX13_clause_80 hF
  · replace hF := eg_if c7 hF
    refine eg_aload_n (i := 0) 1 dX13_clause_81 rfl rfl ?_
    replace hF := eg_bind hF; obtain ⟨⟨v9, h8⟩, e10, hF⟩ := hF
    refine eg_callV (c := 13) (n := 0) [] dX13_clause_82 (mX13_sum eg_D e10) rfl (fX13_sum_O e10) (Nat.le_of_ble_eq_true rfl) rfl ew_1825 ew_1827 ew_65 ew_110 ew_1828 hy_X13_sum rfl (Nat.le_of_ble_eq_true rfl) (Nat.le_of_ble_eq_true rfl) (Nat.le_of_ble_eq_true rfl) ?_
    refine eg_istore_n (i := 3) [(3, .int v9), (2, .int v2), (0, .ref l0), (1, .int l1)] dX13_clause_85 rfl (Nat.le_of_ble_eq_true rfl) rfl ?_
    refine eg_goto 134 dX13_clause_86 rfl ?_
    exact eg_sub [2, 3, 1, 0] [(0, .ref l0), (1, .int l1), (2, .int v2), (3, .int v9)] rfl (fX13_clause_j134_ok h8 l0 l1 v2 v9 hF)
def fX13_clause (h : eg_H) (l0 : Nat) : Option (eg_H) :=
  if eg_isO h 13 l0 then (
    (fX13_look h l0).bind fun ⟨v2, h1⟩ =>
    (fX13_isAmong h1 5 v2).bind fun ⟨v5, h4⟩ =>
    if v5 = 0 then
      ((fX13_fails h4 l0).bind fun ⟨v9, h8⟩ =>
      some h8)
    else
      (eg_gI h4 13 10 l0).bind fun v11 =>
      (eg_pI h4 13 10 l0 (v11 + (1 : Int32))).bind fun h13 =>
      (fX13_takes h13 l0 (58 : Int32)).bind fun ⟨v16, h15⟩ =>
      if v16 = 0 then
        (some h15)
      else
        (fX13_look h15 l0).bind fun ⟨v20, h19⟩ =>
        if v20 = (33 : Int32) then
          (fX13_clause_j64 h19 l0 v2)
        else
          if v20 = (40 : Int32) then
            (fX13_clause_j64 h19 l0 v2)
          else
            (fX13_sum eg_D h19 l0).bind fun ⟨v25, h24⟩ =>
            (eg_gI h24 13 11 l0).bind fun v27 =>
            if v27 = (-1 : Int32) then
              ((fX13_look h24 l0).bind fun ⟨v31, h30⟩ =>
              (fX13_isSign h30 v31).bind fun ⟨v34, h33⟩ =>
              if v34 = 0 then
                (fX13_clause_j134 h33 l0 v2 (1 : Int32) v25)
              else
                (fX13_condition (fX13_unit eg_D) h33 l0 (1 : Int32) v25).bind fun ⟨v38, h37⟩ =>
                (fX13_takes h37 l0 (63 : Int32)).bind fun ⟨v41, h40⟩ =>
                if v41 = 0 then
                  (some h40)
                else
                  (fX13_sum eg_D h40 l0).bind fun ⟨v45, h44⟩ =>
                  fX13_clause_j134 h44 l0 v2 v38 v45)
            else
              fX13_clause_j134 h24 l0 v2 (1 : Int32) v25) else none
theorem fX13_clause_O {h : eg_H} {l0 : Nat} {hE : eg_H} (hF : fX13_clause h l0 = some hE) : eg_isO h 13 l0 := (eg_ifn hF).1
set_option maxRecDepth 20000 in
theorem mX13_clause {h : eg_H} {l0 : Nat} {hE : eg_H} (hF : fX13_clause h l0 = some hE) : eg_Met yX13_clause cX13_clause 5 none 393 [.ref l0] h none hE := by
  refine eg_enter rfl (Nat.le_of_ble_eq_true rfl) ?_
  show eg_AW (RX13, cX13_clause, 5, 393, none, "clause", none) (eg_Zm none hE h) (eg_nc hE) (eg_ns hE) h 0 [(0, .ref l0)] [] h
  replace hF := (eg_ifn hF).2
  refine eg_aload_n (i := 0) 0 dX13_clause_0 rfl rfl ?_
  replace hF := eg_bind hF; obtain ⟨⟨v2, h1⟩, e3, hF⟩ := hF
  refine eg_callV (c := 13) (n := 0) [] dX13_clause_1 (mX13_look e3) rfl (fX13_look_O e3) (Nat.le_of_ble_eq_true rfl) rfl ew_1715 ew_1717 ew_54 ew_110 ew_1718 hy_X13_look rfl (Nat.le_of_ble_eq_true rfl) (Nat.le_of_ble_eq_true rfl) (Nat.le_of_ble_eq_true rfl) ?_
  refine eg_istore_n (i := 1) [(1, .int v2), (0, .ref l0)] dX13_clause_4 rfl (Nat.le_of_ble_eq_true rfl) rfl ?_
  refine eg_ldcS (i := 0) dX13_clause_5 (by decide) rfl rfl ?_
  refine eg_iload_n (i := 1) 0 dX13_clause_7 rfl rfl ?_
  replace hF := eg_bind hF; obtain ⟨⟨v5, h4⟩, e6, hF⟩ := hF
  refine eg_callS (n := 2) [.ref 5, .int v2] dX13_clause_8 (mX13_isAmong e6) rfl ew_1806 ew_1807 ew_110 ew_1808 hy_X13_isAmong.2 rfl (Nat.le_of_ble_eq_true rfl) (Nat.le_of_ble_eq_true rfl) (Nat.le_of_ble_eq_true rfl) ?_
  refine eg_if_ne 20 dX13_clause_11 rfl (fun c7 => ?_) (fun c7 => ?_)
  · replace hF := eg_it c7 hF
    refine eg_aload_n (i := 0) 1 dX13_clause_14 rfl rfl ?_
    replace hF := eg_bind hF; obtain ⟨⟨v9, h8⟩, e10, hF⟩ := hF
    refine eg_callV (c := 13) (n := 0) [] dX13_clause_15 (mX13_fails e10) rfl (fX13_fails_O e10) (Nat.le_of_ble_eq_true rfl) rfl ew_1719 ew_1721 ew_55 ew_110 ew_1722 hy_X13_fails rfl (Nat.le_of_ble_eq_true rfl) (Nat.le_of_ble_eq_true rfl) (Nat.le_of_ble_eq_true rfl) ?_
    refine eg_pop dX13_clause_18 rfl ?_
    exact eg_vretE dX13_clause_19 hF
  · replace hF := eg_if c7 hF
    refine eg_aload_n (i := 0) 1 dX13_clause_20 rfl rfl ?_
    refine eg_dup dX13_clause_21 rfl ?_
    replace hF := eg_bind hF; obtain ⟨v11, e12, hF⟩ := hF
    refine eg_getI dX13_clause_22 e12 (Nat.le_of_ble_eq_true rfl) (Nat.le_of_ble_eq_true rfl) rfl ew_1444 ?_
    refine eg_iconst (v := (1 : Int32)) dX13_clause_25 (by decide) ?_
    refine eg_iadd dX13_clause_26 ?_
    replace hF := eg_bind hF; obtain ⟨h13, e14, hF⟩ := hF
    refine eg_putI dX13_clause_27 e14 (Nat.le_of_ble_eq_true rfl) (Nat.le_of_ble_eq_true rfl) rfl ew_1444 (Or.inl rfl) ?_
    refine eg_aload_n (i := 0) 1 dX13_clause_30 rfl rfl ?_
    refine eg_bipush (v := (58 : Int32)) dX13_clause_31 (by decide) ?_
    replace hF := eg_bind hF; obtain ⟨⟨v16, h15⟩, e17, hF⟩ := hF
    refine eg_callV (c := 13) (n := 1) [.int (58 : Int32)] dX13_clause_33 (mX13_takes e17) rfl (fX13_takes_O e17) (Nat.le_of_ble_eq_true rfl) rfl ew_1809 ew_1811 ew_61 ew_110 ew_1812 hy_X13_takes rfl (Nat.le_of_ble_eq_true rfl) (Nat.le_of_ble_eq_true rfl) (Nat.le_of_ble_eq_true rfl) ?_
    refine eg_if_ne 40 dX13_clause_36 rfl (fun c18 => ?_) (fun c18 => ?_)
    · replace hF := eg_it c18 hF
      exact eg_vretE dX13_clause_39 hF
    · replace hF := eg_if c18 hF
      refine eg_iconst (v := (1 : Int32)) dX13_clause_40 (by decide) ?_
      refine eg_istore_n (i := 2) [(2, .int (1 : Int32)), (1, .int v2), (0, .ref l0)] dX13_clause_41 rfl (Nat.le_of_ble_eq_true rfl) rfl ?_
      refine eg_iconst (v := (0 : Int32)) dX13_clause_42 (by decide) ?_
      refine eg_istore_n (i := 3) [(3, .int (0 : Int32)), (2, .int (1 : Int32)), (1, .int v2), (0, .ref l0)] dX13_clause_43 rfl (Nat.le_of_ble_eq_true rfl) rfl ?_
      refine eg_aload_n (i := 0) 3 dX13_clause_44 rfl rfl ?_
      replace hF := eg_bind hF; obtain ⟨⟨v20, h19⟩, e21, hF⟩ := hF
      refine eg_callV (c := 13) (n := 0) [] dX13_clause_45 (mX13_look e21) rfl (fX13_look_O e21) (Nat.le_of_ble_eq_true rfl) rfl ew_1715 ew_1717 ew_54 ew_110 ew_1718 hy_X13_look rfl (Nat.le_of_ble_eq_true rfl) (Nat.le_of_ble_eq_true rfl) (Nat.le_of_ble_eq_true rfl) ?_
      refine eg_istore (i := 4) [(4, .int v20), (3, .int (0 : Int32)), (2, .int (1 : Int32)), (1, .int v2), (0, .ref l0)] dX13_clause_48 (Nat.le_of_ble_eq_true rfl) rfl ?_
      refine eg_iload (i := 4) 0 dX13_clause_50 rfl ?_
      refine eg_bipush (v := (33 : Int32)) dX13_clause_52 (by decide) ?_
      refine eg_ic_eq 64 dX13_clause_54 rfl (fun c22 => ?_) (fun c22 => ?_)
      · replace hF := eg_it c22 hF
        exact eg_sub [4, 3] [(0, .ref l0), (1, .int v2)] rfl (fX13_clause_j64_ok h19 l0 v2 hF)
      · replace hF := eg_if c22 hF
        refine eg_iload (i := 4) 0 dX13_clause_57 rfl ?_
        refine eg_bipush (v := (40 : Int32)) dX13_clause_59 (by decide) ?_
        refine eg_ic_ne 89 dX13_clause_61 rfl (fun c23 => ?_) (fun c23 => ?_)
        · replace hF := eg_it c23 hF
          exact eg_sub [4, 3] [(0, .ref l0), (1, .int v2)] rfl (fX13_clause_j64_ok h19 l0 v2 hF)
        · replace hF := eg_if c23 hF
          refine eg_aload_n (i := 0) 4 dX13_clause_89 rfl rfl ?_
          replace hF := eg_bind hF; obtain ⟨⟨v25, h24⟩, e26, hF⟩ := hF
          refine eg_callV (c := 13) (n := 0) [] dX13_clause_90 (mX13_sum eg_D e26) rfl (fX13_sum_O e26) (Nat.le_of_ble_eq_true rfl) rfl ew_1825 ew_1827 ew_65 ew_110 ew_1828 hy_X13_sum rfl (Nat.le_of_ble_eq_true rfl) (Nat.le_of_ble_eq_true rfl) (Nat.le_of_ble_eq_true rfl) ?_
          refine eg_istore_n (i := 3) [(3, .int v25), (4, .int v20), (2, .int (1 : Int32)), (1, .int v2), (0, .ref l0)] dX13_clause_93 rfl (Nat.le_of_ble_eq_true rfl) rfl ?_
          refine eg_aload_n (i := 0) 4 dX13_clause_94 rfl rfl ?_
          replace hF := eg_bind hF; obtain ⟨v27, e28, hF⟩ := hF
          refine eg_getI dX13_clause_95 e28 (Nat.le_of_ble_eq_true rfl) (Nat.le_of_ble_eq_true rfl) rfl ew_1445 ?_
          refine eg_iconst (v := (-1 : Int32)) dX13_clause_98 (by decide) ?_
          refine eg_ic_ne 134 dX13_clause_99 rfl (fun c29 => ?_) (fun c29 => ?_)
          · replace hF := eg_it c29 hF
            refine eg_aload_n (i := 0) 4 dX13_clause_102 rfl rfl ?_
            replace hF := eg_bind hF; obtain ⟨⟨v31, h30⟩, e32, hF⟩ := hF
            refine eg_callV (c := 13) (n := 0) [] dX13_clause_103 (mX13_look e32) rfl (fX13_look_O e32) (Nat.le_of_ble_eq_true rfl) rfl ew_1715 ew_1717 ew_54 ew_110 ew_1718 hy_X13_look rfl (Nat.le_of_ble_eq_true rfl) (Nat.le_of_ble_eq_true rfl) (Nat.le_of_ble_eq_true rfl) ?_
            replace hF := eg_bind hF; obtain ⟨⟨v34, h33⟩, e35, hF⟩ := hF
            refine eg_callS (n := 1) [.int v31] dX13_clause_106 (mX13_isSign e35) rfl ew_1852 ew_1853 ew_110 ew_1854 hy_X13_isSign.2 rfl (Nat.le_of_ble_eq_true rfl) (Nat.le_of_ble_eq_true rfl) (Nat.le_of_ble_eq_true rfl) ?_
            refine eg_if_eq 134 dX13_clause_109 rfl (fun c36 => ?_) (fun c36 => ?_)
            · replace hF := eg_it c36 hF
              exact eg_sub [4, 3, 2, 0] [(0, .ref l0), (1, .int v2), (2, .int (1 : Int32)), (3, .int v25)] rfl (fX13_clause_j134_ok h33 l0 v2 (1 : Int32) v25 hF)
            · replace hF := eg_if c36 hF
              refine eg_aload_n (i := 0) 4 dX13_clause_112 rfl rfl ?_
              refine eg_iconst (v := (1 : Int32)) dX13_clause_113 (by decide) ?_
              refine eg_iload_n (i := 3) 0 dX13_clause_114 rfl rfl ?_
              replace hF := eg_bind hF; obtain ⟨⟨v38, h37⟩, e39, hF⟩ := hF
              refine eg_callV (c := 13) (n := 2) [.int (1 : Int32), .int v25] dX13_clause_115 (mX13_condition (dr := 198 + 3 * eg_D) (Nat.le_add_right _ _) (mX13_unit_x eg_D) e39) rfl (fX13_condition_O e39) (Nat.le_of_ble_eq_true rfl) rfl ew_1813 ew_1815 ew_62 ew_110 ew_1816 hy_X13_condition rfl (Nat.le_of_ble_eq_true rfl) (Nat.le_of_ble_eq_true rfl) (Nat.le_of_ble_eq_true rfl) ?_
              refine eg_istore_n (i := 2) [(2, .int v38), (3, .int v25), (4, .int v20), (1, .int v2), (0, .ref l0)] dX13_clause_118 rfl (Nat.le_of_ble_eq_true rfl) rfl ?_
              refine eg_aload_n (i := 0) 4 dX13_clause_119 rfl rfl ?_
              refine eg_bipush (v := (63 : Int32)) dX13_clause_120 (by decide) ?_
              replace hF := eg_bind hF; obtain ⟨⟨v41, h40⟩, e42, hF⟩ := hF
              refine eg_callV (c := 13) (n := 1) [.int (63 : Int32)] dX13_clause_122 (mX13_takes e42) rfl (fX13_takes_O e42) (Nat.le_of_ble_eq_true rfl) rfl ew_1809 ew_1811 ew_61 ew_110 ew_1812 hy_X13_takes rfl (Nat.le_of_ble_eq_true rfl) (Nat.le_of_ble_eq_true rfl) (Nat.le_of_ble_eq_true rfl) ?_
              refine eg_if_ne 129 dX13_clause_125 rfl (fun c43 => ?_) (fun c43 => ?_)
              · replace hF := eg_it c43 hF
                exact eg_vretE dX13_clause_128 hF
              · replace hF := eg_if c43 hF
                refine eg_aload_n (i := 0) 4 dX13_clause_129 rfl rfl ?_
                replace hF := eg_bind hF; obtain ⟨⟨v45, h44⟩, e46, hF⟩ := hF
                refine eg_callV (c := 13) (n := 0) [] dX13_clause_130 (mX13_sum eg_D e46) rfl (fX13_sum_O e46) (Nat.le_of_ble_eq_true rfl) rfl ew_1825 ew_1827 ew_65 ew_110 ew_1828 hy_X13_sum rfl (Nat.le_of_ble_eq_true rfl) (Nat.le_of_ble_eq_true rfl) (Nat.le_of_ble_eq_true rfl) ?_
                refine eg_istore_n (i := 3) [(3, .int v45), (2, .int v38), (4, .int v20), (1, .int v2), (0, .ref l0)] dX13_clause_133 rfl (Nat.le_of_ble_eq_true rfl) rfl ?_
                exact eg_sub [4, 3, 1, 0] [(0, .ref l0), (1, .int v2), (2, .int v38), (3, .int v45)] rfl (fX13_clause_j134_ok h44 l0 v2 v38 v45 hF)
          · replace hF := eg_if c29 hF
            exact eg_sub [4, 3, 2, 0] [(0, .ref l0), (1, .int v2), (2, .int (1 : Int32)), (3, .int v25)] rfl (fX13_clause_j134_ok h24 l0 v2 (1 : Int32) v25 hF)
theorem dX13_opens_0 : decode cX13_opens 0 = .ok (.aload_n 0, 1) := by decide +kernel
theorem dX13_opens_1 : decode cX13_opens 1 = .ok (.aload_n 1, 1) := by decide +kernel
theorem dX13_opens_2 : decode cX13_opens 2 = .ok (.putfield 23, 3) := by decide +kernel
theorem dX13_opens_5 : decode cX13_opens 5 = .ok (.aload_n 0, 1) := by decide +kernel
theorem dX13_opens_6 : decode cX13_opens 6 = .ok (.iload_n 2, 1) := by decide +kernel
theorem dX13_opens_7 : decode cX13_opens 7 = .ok (.putfield 177, 3) := by decide +kernel
theorem dX13_opens_10 : decode cX13_opens 10 = .ok (.aload_n 0, 1) := by decide +kernel
theorem dX13_opens_11 : decode cX13_opens 11 = .ok (.iload_n 3, 1) := by decide +kernel
theorem dX13_opens_12 : decode cX13_opens 12 = .ok (.putfield 174, 3) := by decide +kernel
theorem dX13_opens_15 : decode cX13_opens 15 = .ok (.aload_n 0, 1) := by decide +kernel
theorem dX13_opens_16 : decode cX13_opens 16 = .ok (.iconst 0, 1) := by decide +kernel
theorem dX13_opens_17 : decode cX13_opens 17 = .ok (.putfield 171, 3) := by decide +kernel
theorem dX13_opens_20 : decode cX13_opens 20 = .ok (.aload_n 0, 1) := by decide +kernel
theorem dX13_opens_21 : decode cX13_opens 21 = .ok (.iconst (-1), 1) := by decide +kernel
theorem dX13_opens_22 : decode cX13_opens 22 = .ok (.putfield 180, 3) := by decide +kernel
theorem dX13_opens_25 : decode cX13_opens 25 = .ok (.return_, 1) := by decide +kernel
def fX13_opens (h : eg_H) (l0 : Nat) (l1 : Nat) (l2 : Int32) (l3 : Int32) : Option (eg_H) :=
  if eg_isO h 13 l0 then (
    (eg_pP h 13 5 l0 (some l1)).bind fun h1 =>
    (eg_pI h1 13 8 l0 l2).bind fun h3 =>
    (eg_pI h3 13 9 l0 l3).bind fun h5 =>
    (eg_pI h5 13 10 l0 (0 : Int32)).bind fun h7 =>
    (eg_pI h7 13 11 l0 (-1 : Int32)).bind fun h9 =>
    some h9) else none
theorem fX13_opens_O {h : eg_H} {l0 : Nat} {l1 : Nat} {l2 : Int32} {l3 : Int32} {hE : eg_H} (hF : fX13_opens h l0 l1 l2 l3 = some hE) : eg_isO h 13 l0 := (eg_ifn hF).1
set_option maxRecDepth 20000 in
theorem mX13_opens {h : eg_H} {l0 : Nat} {l1 : Nat} {l2 : Int32} {l3 : Int32} {hE : eg_H} (hF : fX13_opens h l0 l1 l2 l3 = some hE) : eg_Met yX13_opens cX13_opens 4 none 1 [.ref l0, .ref l1, .int l2, .int l3] h none hE := by
  refine eg_enter rfl (Nat.le_of_ble_eq_true rfl) ?_
  show eg_AW (RX13, cX13_opens, 4, 1, none, "opens", none) (eg_Zm none hE h) (eg_nc hE) (eg_ns hE) h 0 [(0, .ref l0), (1, .ref l1), (2, .int l2), (3, .int l3)] [] h
  replace hF := (eg_ifn hF).2
  refine eg_aload_n (i := 0) 0 dX13_opens_0 rfl rfl ?_
  refine eg_aload_n (i := 1) 1 dX13_opens_1 rfl rfl ?_
  replace hF := eg_bind hF; obtain ⟨h1, e2, hF⟩ := hF
  refine eg_putR dX13_opens_2 e2 (Nat.le_of_ble_eq_true rfl) (Nat.le_of_ble_eq_true rfl) rfl ew_1439 (Or.inl rfl) ?_
  refine eg_aload_n (i := 0) 0 dX13_opens_5 rfl rfl ?_
  refine eg_iload_n (i := 2) 2 dX13_opens_6 rfl rfl ?_
  replace hF := eg_bind hF; obtain ⟨h3, e4, hF⟩ := hF
  refine eg_putI dX13_opens_7 e4 (Nat.le_of_ble_eq_true rfl) (Nat.le_of_ble_eq_true rfl) rfl ew_1442 (Or.inl rfl) ?_
  refine eg_aload_n (i := 0) 0 dX13_opens_10 rfl rfl ?_
  refine eg_iload_n (i := 3) 3 dX13_opens_11 rfl rfl ?_
  replace hF := eg_bind hF; obtain ⟨h5, e6, hF⟩ := hF
  refine eg_putI dX13_opens_12 e6 (Nat.le_of_ble_eq_true rfl) (Nat.le_of_ble_eq_true rfl) rfl ew_1443 (Or.inl rfl) ?_
  refine eg_aload_n (i := 0) 0 dX13_opens_15 rfl rfl ?_
  refine eg_iconst (v := (0 : Int32)) dX13_opens_16 (by decide) ?_
  replace hF := eg_bind hF; obtain ⟨h7, e8, hF⟩ := hF
  refine eg_putI dX13_opens_17 e8 (Nat.le_of_ble_eq_true rfl) (Nat.le_of_ble_eq_true rfl) rfl ew_1444 (Or.inl rfl) ?_
  refine eg_aload_n (i := 0) 0 dX13_opens_20 rfl rfl ?_
  refine eg_iconst (v := (-1 : Int32)) dX13_opens_21 (by decide) ?_
  replace hF := eg_bind hF; obtain ⟨h9, e10, hF⟩ := hF
  refine eg_putI dX13_opens_22 e10 (Nat.le_of_ble_eq_true rfl) (Nat.le_of_ble_eq_true rfl) rfl ew_1445 (Or.inl rfl) ?_
  exact eg_vretE dX13_opens_25 hF
theorem dX13_goThrough_0 : decode cX13_goThrough 0 = .ok (.aload_n 0, 1) := by decide +kernel
theorem dX13_goThrough_1 : decode cX13_goThrough 1 = .ok (.aload_n 1, 1) := by decide +kernel
theorem dX13_goThrough_2 : decode cX13_goThrough 2 = .ok (.iload_n 2, 1) := by decide +kernel
theorem dX13_goThrough_3 : decode cX13_goThrough 3 = .ok (.iload_n 3, 1) := by decide +kernel
theorem dX13_goThrough_4 : decode cX13_goThrough 4 = .ok (.invokevirtual 259, 3) := by decide +kernel
theorem dX13_goThrough_7 : decode cX13_goThrough 7 = .ok (.aload_n 0, 1) := by decide +kernel
theorem dX13_goThrough_8 : decode cX13_goThrough 8 = .ok (.bipush 121, 2) := by decide +kernel
theorem dX13_goThrough_10 : decode cX13_goThrough 10 = .ok (.putfield 253, 3) := by decide +kernel
theorem dX13_goThrough_13 : decode cX13_goThrough 13 = .ok (.aload_n 0, 1) := by decide +kernel
theorem dX13_goThrough_14 : decode cX13_goThrough 14 = .ok (.iconst 0, 1) := by decide +kernel
theorem dX13_goThrough_15 : decode cX13_goThrough 15 = .ok (.putfield 183, 3) := by decide +kernel
theorem dX13_goThrough_18 : decode cX13_goThrough 18 = .ok (.aload_n 0, 1) := by decide +kernel
theorem dX13_goThrough_19 : decode cX13_goThrough 19 = .ok (.iconst 0, 1) := by decide +kernel
theorem dX13_goThrough_20 : decode cX13_goThrough 20 = .ok (.putfield 249, 3) := by decide +kernel
theorem dX13_goThrough_23 : decode cX13_goThrough 23 = .ok (.aload_n 0, 1) := by decide +kernel
theorem dX13_goThrough_24 : decode cX13_goThrough 24 = .ok (.iconst 0, 1) := by decide +kernel
theorem dX13_goThrough_25 : decode cX13_goThrough 25 = .ok (.putfield 256, 3) := by decide +kernel
theorem dX13_goThrough_28 : decode cX13_goThrough 28 = .ok (.aload_n 0, 1) := by decide +kernel
theorem dX13_goThrough_29 : decode cX13_goThrough 29 = .ok (.invokevirtual 263, 3) := by decide +kernel
theorem dX13_goThrough_32 : decode cX13_goThrough 32 = .ok (.aload_n 0, 1) := by decide +kernel
theorem dX13_goThrough_33 : decode cX13_goThrough 33 = .ok (.getfield 180, 3) := by decide +kernel
theorem dX13_goThrough_36 : decode cX13_goThrough 36 = .ok (.iconst (-1), 1) := by decide +kernel
theorem dX13_goThrough_37 : decode cX13_goThrough 37 = .ok (.if_icmp .ne 29, 3) := by decide +kernel
theorem dX13_goThrough_40 : decode cX13_goThrough 40 = .ok (.aload_n 0, 1) := by decide +kernel
theorem dX13_goThrough_41 : decode cX13_goThrough 41 = .ok (.invokevirtual 190, 3) := by decide +kernel
theorem dX13_goThrough_44 : decode cX13_goThrough 44 = .ok (.bipush 59, 2) := by decide +kernel
theorem dX13_goThrough_46 : decode cX13_goThrough 46 = .ok (.if_icmp .ne 20, 3) := by decide +kernel
theorem dX13_goThrough_49 : decode cX13_goThrough 49 = .ok (.aload_n 0, 1) := by decide +kernel
theorem dX13_goThrough_50 : decode cX13_goThrough 50 = .ok (.dup, 1) := by decide +kernel
theorem dX13_goThrough_51 : decode cX13_goThrough 51 = .ok (.getfield 171, 3) := by decide +kernel
theorem dX13_goThrough_54 : decode cX13_goThrough 54 = .ok (.iconst 1, 1) := by decide +kernel
theorem dX13_goThrough_55 : decode cX13_goThrough 55 = .ok (.iadd, 1) := by decide +kernel
theorem dX13_goThrough_56 : decode cX13_goThrough 56 = .ok (.putfield 171, 3) := by decide +kernel
theorem dX13_goThrough_59 : decode cX13_goThrough 59 = .ok (.aload_n 0, 1) := by decide +kernel
theorem dX13_goThrough_60 : decode cX13_goThrough 60 = .ok (.invokevirtual 263, 3) := by decide +kernel
theorem dX13_goThrough_63 : decode cX13_goThrough 63 = .ok (.goto (-31), 3) := by decide +kernel
theorem dX13_goThrough_66 : decode cX13_goThrough 66 = .ok (.aload_n 0, 1) := by decide +kernel
theorem dX13_goThrough_67 : decode cX13_goThrough 67 = .ok (.getfield 180, 3) := by decide +kernel
theorem dX13_goThrough_70 : decode cX13_goThrough 70 = .ok (.iconst (-1), 1) := by decide +kernel
theorem dX13_goThrough_71 : decode cX13_goThrough 71 = .ok (.if_icmp .ne 16, 3) := by decide +kernel
theorem dX13_goThrough_74 : decode cX13_goThrough 74 = .ok (.aload_n 0, 1) := by decide +kernel
theorem dX13_goThrough_75 : decode cX13_goThrough 75 = .ok (.invokevirtual 190, 3) := by decide +kernel
theorem dX13_goThrough_78 : decode cX13_goThrough 78 = .ok (.iconst (-1), 1) := by decide +kernel
theorem dX13_goThrough_79 : decode cX13_goThrough 79 = .ok (.if_icmp .eq 8, 3) := by decide +kernel
theorem dX13_goThrough_82 : decode cX13_goThrough 82 = .ok (.aload_n 0, 1) := by decide +kernel
theorem dX13_goThrough_83 : decode cX13_goThrough 83 = .ok (.invokevirtual 186, 3) := by decide +kernel
theorem dX13_goThrough_86 : decode cX13_goThrough 86 = .ok (.pop, 1) := by decide +kernel
theorem dX13_goThrough_87 : decode cX13_goThrough 87 = .ok (.return_, 1) := by decide +kernel
def fX13_goThrough_L32 : Nat → eg_H → Nat → Option (Nat × eg_H)
  | 0, _, _ => none
  | n + 1, h, l0 =>
    (eg_gI h 13 11 l0).bind fun v1 =>
    if v1 = (-1 : Int32) then
      ((fX13_look h l0).bind fun ⟨v5, h4⟩ =>
      if v5 = (59 : Int32) then
        ((eg_gI h4 13 10 l0).bind fun v8 =>
        (eg_pI h4 13 10 l0 (v8 + (1 : Int32))).bind fun h10 =>
        (fX13_clause h10 l0).bind fun h12 =>
        fX13_goThrough_L32 n h12 l0)
      else
        some (l0, h4))
    else
      some (l0, h)
set_option maxRecDepth 20000 in
theorem fX13_goThrough_L32_ok {h0 : eg_H} {Z : eg_C → State → Prop} {N S : Nat} : ∀ (n : Nat) (h : eg_H) (l0 : Nat) (eE : Nat × eg_H), fX13_goThrough_L32 n h l0 = some eE → (hk0 : ∀ (l0 : Nat) (h : eg_H), eE = (l0, h) → eg_AW (RX13, cX13_goThrough, 4, 394, none, "goThrough", none) Z N S h0 66 [(0, .ref l0)] [] h) → eg_AW (RX13, cX13_goThrough, 4, 394, none, "goThrough", none) Z N S h0 32 [(0, .ref l0)] [] h := by
  intro n
  induction n with
  | zero => intro h l0 eE hF; exact absurd hF (by intro q; cases q)
  | succ n ih =>
    intro h l0 eE hF hk0
    have hrec := fun (h' : eg_H) (l0 : Nat) hq => ih h' l0 eE hq hk0
    refine eg_aload_n (i := 0) 0 dX13_goThrough_32 rfl rfl ?_
    replace hF := eg_bind hF; obtain ⟨v1, e2, hF⟩ := hF
    refine eg_getI dX13_goThrough_33 e2 (Nat.le_of_ble_eq_true rfl) (Nat.le_of_ble_eq_true rfl) rfl ew_1445 ?_
    refine eg_iconst (v := (-1 : Int32)) dX13_goThrough_36 (by decide) ?_
    refine eg_ic_ne 66 dX13_goThrough_37 rfl (fun c3 => ?_) (fun c3 => ?_)
    · replace hF := eg_it c3 hF
      refine eg_aload_n (i := 0) 0 dX13_goThrough_40 rfl rfl ?_
      replace hF := eg_bind hF; obtain ⟨⟨v5, h4⟩, e6, hF⟩ := hF
      refine eg_callV (c := 13) (n := 0) [] dX13_goThrough_41 (mX13_look e6) rfl (fX13_look_O e6) (Nat.le_of_ble_eq_true rfl) rfl ew_1715 ew_1717 ew_54 ew_110 ew_1718 hy_X13_look rfl (Nat.le_of_ble_eq_true rfl) (Nat.le_of_ble_eq_true rfl) (Nat.le_of_ble_eq_true rfl) ?_
      refine eg_bipush (v := (59 : Int32)) dX13_goThrough_44 (by decide) ?_
      refine eg_ic_ne 66 dX13_goThrough_46 rfl (fun c7 => ?_) (fun c7 => ?_)
      · replace hF := eg_it c7 hF
        refine eg_aload_n (i := 0) 0 dX13_goThrough_49 rfl rfl ?_
        refine eg_dup dX13_goThrough_50 rfl ?_
        replace hF := eg_bind hF; obtain ⟨v8, e9, hF⟩ := hF
        refine eg_getI dX13_goThrough_51 e9 (Nat.le_of_ble_eq_true rfl) (Nat.le_of_ble_eq_true rfl) rfl ew_1444 ?_
        refine eg_iconst (v := (1 : Int32)) dX13_goThrough_54 (by decide) ?_
        refine eg_iadd dX13_goThrough_55 ?_
        replace hF := eg_bind hF; obtain ⟨h10, e11, hF⟩ := hF
        refine eg_putI dX13_goThrough_56 e11 (Nat.le_of_ble_eq_true rfl) (Nat.le_of_ble_eq_true rfl) rfl ew_1444 (Or.inl rfl) ?_
        refine eg_aload_n (i := 0) 0 dX13_goThrough_59 rfl rfl ?_
        replace hF := eg_bind hF; obtain ⟨h12, e13, hF⟩ := hF
        refine eg_callV (c := 13) (n := 0) [] dX13_goThrough_60 (mX13_clause e13) rfl (fX13_clause_O e13) (Nat.le_of_ble_eq_true rfl) rfl ew_1802 ew_1804 ew_60 ew_110 ew_1805 hy_X13_clause rfl (Nat.le_of_ble_eq_true rfl) (Nat.le_of_ble_eq_true rfl) (Nat.le_of_ble_eq_true rfl) ?_
        refine eg_goto 32 dX13_goThrough_63 rfl ?_
        exact (hrec h12 l0 hF)
      · replace hF := eg_if c7 hF
        exact (hk0 l0 h4 (Option.some.inj hF).symm)
    · replace hF := eg_if c3 hF
      exact (hk0 l0 h (Option.some.inj hF).symm)
def fX13_goThrough_j66 (h : eg_H) (l0 : Nat) : Option (eg_H) :=
  (eg_gI h 13 11 l0).bind fun v1 =>
  if v1 = (-1 : Int32) then
    ((fX13_look h l0).bind fun ⟨v5, h4⟩ =>
    if v5 = (-1 : Int32) then
      (some h4)
    else
      (fX13_fails h4 l0).bind fun ⟨v9, h8⟩ =>
      some h8)
  else
    some h
set_option maxRecDepth 20000 in
theorem fX13_goThrough_j66_ok {h0 : eg_H} (h : eg_H) (l0 : Nat) {hE : eg_H} (hF : fX13_goThrough_j66 h l0 = some hE) : eg_AW (RX13, cX13_goThrough, 4, 394, none, "goThrough", none) (eg_Zm none hE h0) (eg_nc hE) (eg_ns hE) h0 66 [(0, .ref l0)] [] h := by
  refine eg_aload_n (i := 0) 0 dX13_goThrough_66 rfl rfl ?_
  replace hF := eg_bind hF; obtain ⟨v1, e2, hF⟩ := hF
  refine eg_getI dX13_goThrough_67 e2 (Nat.le_of_ble_eq_true rfl) (Nat.le_of_ble_eq_true rfl) rfl ew_1445 ?_
  refine eg_iconst (v := (-1 : Int32)) dX13_goThrough_70 (by decide) ?_
  refine eg_ic_ne 87 dX13_goThrough_71 rfl (fun c3 => ?_) (fun c3 => ?_)
  · replace hF := eg_it c3 hF
    refine eg_aload_n (i := 0) 0 dX13_goThrough_74 rfl rfl ?_
    replace hF := eg_bind hF; obtain ⟨⟨v5, h4⟩, e6, hF⟩ := hF
    refine eg_callV (c := 13) (n := 0) [] dX13_goThrough_75 (mX13_look e6) rfl (fX13_look_O e6) (Nat.le_of_ble_eq_true rfl) rfl ew_1715 ew_1717 ew_54 ew_110 ew_1718 hy_X13_look rfl (Nat.le_of_ble_eq_true rfl) (Nat.le_of_ble_eq_true rfl) (Nat.le_of_ble_eq_true rfl) ?_
    refine eg_iconst (v := (-1 : Int32)) dX13_goThrough_78 (by decide) ?_
    refine eg_ic_eq 87 dX13_goThrough_79 rfl (fun c7 => ?_) (fun c7 => ?_)
    · replace hF := eg_it c7 hF
      exact eg_vretE dX13_goThrough_87 hF
    · replace hF := eg_if c7 hF
      refine eg_aload_n (i := 0) 0 dX13_goThrough_82 rfl rfl ?_
      replace hF := eg_bind hF; obtain ⟨⟨v9, h8⟩, e10, hF⟩ := hF
      refine eg_callV (c := 13) (n := 0) [] dX13_goThrough_83 (mX13_fails e10) rfl (fX13_fails_O e10) (Nat.le_of_ble_eq_true rfl) rfl ew_1719 ew_1721 ew_55 ew_110 ew_1722 hy_X13_fails rfl (Nat.le_of_ble_eq_true rfl) (Nat.le_of_ble_eq_true rfl) (Nat.le_of_ble_eq_true rfl) ?_
      refine eg_pop dX13_goThrough_86 rfl ?_
      exact eg_vretE dX13_goThrough_87 hF
  · replace hF := eg_if c3 hF
    exact eg_vretE dX13_goThrough_87 hF
def fX13_goThrough (h : eg_H) (l0 : Nat) (l1 : Nat) (l2 : Int32) (l3 : Int32) : Option (eg_H) :=
  if eg_isO h 13 l0 then (
    (fX13_opens h l0 l1 l2 l3).bind fun h1 =>
    (eg_pI h1 13 13 l0 (121 : Int32)).bind fun h3 =>
    (eg_pI h3 13 12 l0 (0 : Int32)).bind fun h5 =>
    (eg_pZ h5 13 17 l0 (0 : Int32)).bind fun h7 =>
    (eg_pI h7 13 14 l0 (0 : Int32)).bind fun h9 =>
    (fX13_clause h9 l0).bind fun h11 =>
    (fX13_goThrough_L32 eg_F h11 l0).bind fun e =>
    match e with
    | (p15, h16) =>
      fX13_goThrough_j66 h16 p15) else none
theorem fX13_goThrough_O {h : eg_H} {l0 : Nat} {l1 : Nat} {l2 : Int32} {l3 : Int32} {hE : eg_H} (hF : fX13_goThrough h l0 l1 l2 l3 = some hE) : eg_isO h 13 l0 := (eg_ifn hF).1
set_option maxRecDepth 20000 in
theorem mX13_goThrough {h : eg_H} {l0 : Nat} {l1 : Nat} {l2 : Int32} {l3 : Int32} {hE : eg_H} (hF : fX13_goThrough h l0 l1 l2 l3 = some hE) : eg_Met yX13_goThrough cX13_goThrough 4 none 394 [.ref l0, .ref l1, .int l2, .int l3] h none hE := by
  refine eg_enter rfl (Nat.le_of_ble_eq_true rfl) ?_
  show eg_AW (RX13, cX13_goThrough, 4, 394, none, "goThrough", none) (eg_Zm none hE h) (eg_nc hE) (eg_ns hE) h 0 [(0, .ref l0), (1, .ref l1), (2, .int l2), (3, .int l3)] [] h
  replace hF := (eg_ifn hF).2
  refine eg_aload_n (i := 0) 0 dX13_goThrough_0 rfl rfl ?_
  refine eg_aload_n (i := 1) 1 dX13_goThrough_1 rfl rfl ?_
  refine eg_iload_n (i := 2) 2 dX13_goThrough_2 rfl rfl ?_
  refine eg_iload_n (i := 3) 3 dX13_goThrough_3 rfl rfl ?_
  replace hF := eg_bind hF; obtain ⟨h1, e2, hF⟩ := hF
  refine eg_callV (c := 13) (n := 3) [.ref l1, .int l2, .int l3] dX13_goThrough_4 (mX13_opens e2) rfl (fX13_opens_O e2) (Nat.le_of_ble_eq_true rfl) rfl ew_1704 ew_1706 ew_52 ew_110 ew_1707 hy_X13_opens rfl (Nat.le_of_ble_eq_true rfl) (Nat.le_of_ble_eq_true rfl) (Nat.le_of_ble_eq_true rfl) ?_
  refine eg_aload_n (i := 0) 0 dX13_goThrough_7 rfl rfl ?_
  refine eg_bipush (v := (121 : Int32)) dX13_goThrough_8 (by decide) ?_
  replace hF := eg_bind hF; obtain ⟨h3, e4, hF⟩ := hF
  refine eg_putI dX13_goThrough_10 e4 (Nat.le_of_ble_eq_true rfl) (Nat.le_of_ble_eq_true rfl) rfl ew_1447 (Or.inl rfl) ?_
  refine eg_aload_n (i := 0) 0 dX13_goThrough_13 rfl rfl ?_
  refine eg_iconst (v := (0 : Int32)) dX13_goThrough_14 (by decide) ?_
  replace hF := eg_bind hF; obtain ⟨h5, e6, hF⟩ := hF
  refine eg_putI dX13_goThrough_15 e6 (Nat.le_of_ble_eq_true rfl) (Nat.le_of_ble_eq_true rfl) rfl ew_1446 (Or.inl rfl) ?_
  refine eg_aload_n (i := 0) 0 dX13_goThrough_18 rfl rfl ?_
  refine eg_iconst (v := (0 : Int32)) dX13_goThrough_19 (by decide) ?_
  replace hF := eg_bind hF; obtain ⟨h7, e8, hF⟩ := hF
  refine eg_putZ dX13_goThrough_20 e8 (Nat.le_of_ble_eq_true rfl) (Nat.le_of_ble_eq_true rfl) rfl ew_1451 rfl ?_
  refine eg_aload_n (i := 0) 0 dX13_goThrough_23 rfl rfl ?_
  refine eg_iconst (v := (0 : Int32)) dX13_goThrough_24 (by decide) ?_
  replace hF := eg_bind hF; obtain ⟨h9, e10, hF⟩ := hF
  refine eg_putI dX13_goThrough_25 e10 (Nat.le_of_ble_eq_true rfl) (Nat.le_of_ble_eq_true rfl) rfl ew_1448 (Or.inl rfl) ?_
  refine eg_aload_n (i := 0) 0 dX13_goThrough_28 rfl rfl ?_
  replace hF := eg_bind hF; obtain ⟨h11, e12, hF⟩ := hF
  refine eg_callV (c := 13) (n := 0) [] dX13_goThrough_29 (mX13_clause e12) rfl (fX13_clause_O e12) (Nat.le_of_ble_eq_true rfl) rfl ew_1802 ew_1804 ew_60 ew_110 ew_1805 hy_X13_clause rfl (Nat.le_of_ble_eq_true rfl) (Nat.le_of_ble_eq_true rfl) (Nat.le_of_ble_eq_true rfl) ?_
  replace hF := eg_bind hF; obtain ⟨x14, e13, hF⟩ := hF
  refine eg_sub [0] [(0, .ref l0)] rfl (fX13_goThrough_L32_ok eg_F h11 l0 x14 e13 ?_)
  · intro p15 h16 e17
    subst e17
    exact (fX13_goThrough_j66_ok h16 p15 hF)
theorem dX13_here_0 : decode cX13_here 0 = .ok (.aload_n 0, 1) := by decide +kernel
theorem dX13_here_1 : decode cX13_here 1 = .ok (.getfield 171, 3) := by decide +kernel
theorem dX13_here_4 : decode cX13_here 4 = .ok (.aload_n 0, 1) := by decide +kernel
theorem dX13_here_5 : decode cX13_here 5 = .ok (.getfield 174, 3) := by decide +kernel
theorem dX13_here_8 : decode cX13_here 8 = .ok (.if_icmp .ge 24, 3) := by decide +kernel
theorem dX13_here_11 : decode cX13_here 11 = .ok (.aload_n 0, 1) := by decide +kernel
theorem dX13_here_12 : decode cX13_here 12 = .ok (.getfield 23, 3) := by decide +kernel
theorem dX13_here_15 : decode cX13_here 15 = .ok (.aload_n 0, 1) := by decide +kernel
theorem dX13_here_16 : decode cX13_here 16 = .ok (.getfield 177, 3) := by decide +kernel
theorem dX13_here_19 : decode cX13_here 19 = .ok (.aload_n 0, 1) := by decide +kernel
theorem dX13_here_20 : decode cX13_here 20 = .ok (.getfield 171, 3) := by decide +kernel
theorem dX13_here_23 : decode cX13_here 23 = .ok (.iadd, 1) := by decide +kernel
theorem dX13_here_24 : decode cX13_here 24 = .ok (.baload, 1) := by decide +kernel
theorem dX13_here_25 : decode cX13_here 25 = .ok (.sipush 255, 3) := by decide +kernel
theorem dX13_here_28 : decode cX13_here 28 = .ok (.iand, 1) := by decide +kernel
theorem dX13_here_29 : decode cX13_here 29 = .ok (.goto 4, 3) := by decide +kernel
theorem dX13_here_32 : decode cX13_here 32 = .ok (.iconst (-1), 1) := by decide +kernel
theorem dX13_here_33 : decode cX13_here 33 = .ok (.ireturn, 1) := by decide +kernel
def fX13_here (h : eg_H) (l0 : Nat) : Option (Int32 × eg_H) :=
  if eg_isO h 13 l0 then (
    (eg_gI h 13 10 l0).bind fun v1 =>
    (eg_gI h 13 9 l0).bind fun v3 =>
    if v3 ≤ v1 then
      (some ((-1 : Int32), h))
    else
      (eg_gR h 13 5 l0).bind fun p6 =>
      (eg_gI h 13 8 l0).bind fun v8 =>
      (eg_gI h 13 10 l0).bind fun v10 =>
      (eg_aI h 102 p6 (v8 + v10)).bind fun v12 =>
      some ((v12 &&& (255 : Int32)), h)) else none
theorem fX13_here_O {h : eg_H} {l0 : Nat} {rE : Int32} {hE : eg_H} (hF : fX13_here h l0 = some (rE, hE)) : eg_isO h 13 l0 := (eg_ifn hF).1
set_option maxRecDepth 20000 in
theorem mX13_here {h : eg_H} {l0 : Nat} {rE : Int32} {hE : eg_H} (hF : fX13_here h l0 = some (rE, hE)) : eg_Met yX13_here cX13_here 1 (some .int) 1 [.ref l0] h (some (.int rE)) hE := by
  refine eg_enter rfl (Nat.le_of_ble_eq_true rfl) ?_
  show eg_AW (RX13, cX13_here, 1, 1, none, "here", (some .int)) (eg_Zm (some (.int rE)) hE h) (eg_nc hE) (eg_ns hE) h 0 [(0, .ref l0)] [] h
  replace hF := (eg_ifn hF).2
  refine eg_aload_n (i := 0) 0 dX13_here_0 rfl rfl ?_
  replace hF := eg_bind hF; obtain ⟨v1, e2, hF⟩ := hF
  refine eg_getI dX13_here_1 e2 (Nat.le_of_ble_eq_true rfl) (Nat.le_of_ble_eq_true rfl) rfl ew_1444 ?_
  refine eg_aload_n (i := 0) 0 dX13_here_4 rfl rfl ?_
  replace hF := eg_bind hF; obtain ⟨v3, e4, hF⟩ := hF
  refine eg_getI dX13_here_5 e4 (Nat.le_of_ble_eq_true rfl) (Nat.le_of_ble_eq_true rfl) rfl ew_1443 ?_
  refine eg_ic_ge 32 dX13_here_8 rfl (fun c5 => ?_) (fun c5 => ?_)
  · replace hF := eg_it c5 hF
    refine eg_iconst (v := (-1 : Int32)) dX13_here_32 (by decide) ?_
    exact eg_iretE dX13_here_33 hF
  · replace hF := eg_if c5 hF
    refine eg_aload_n (i := 0) 0 dX13_here_11 rfl rfl ?_
    replace hF := eg_bind hF; obtain ⟨p6, e7, hF⟩ := hF
    refine eg_getR dX13_here_12 e7 (Nat.le_of_ble_eq_true rfl) (Nat.le_of_ble_eq_true rfl) rfl ew_1439 ?_
    refine eg_aload_n (i := 0) 0 dX13_here_15 rfl rfl ?_
    replace hF := eg_bind hF; obtain ⟨v8, e9, hF⟩ := hF
    refine eg_getI dX13_here_16 e9 (Nat.le_of_ble_eq_true rfl) (Nat.le_of_ble_eq_true rfl) rfl ew_1442 ?_
    refine eg_aload_n (i := 0) 0 dX13_here_19 rfl rfl ?_
    replace hF := eg_bind hF; obtain ⟨v10, e11, hF⟩ := hF
    refine eg_getI dX13_here_20 e11 (Nat.le_of_ble_eq_true rfl) (Nat.le_of_ble_eq_true rfl) rfl ew_1444 ?_
    refine eg_iadd dX13_here_23 ?_
    replace hF := eg_bind hF; obtain ⟨v12, e13, hF⟩ := hF
    refine eg_bald dX13_here_24 e13 ?_
    refine eg_sipush (v := (255 : Int32)) dX13_here_25 (by decide) ?_
    refine eg_iand dX13_here_28 ?_
    refine eg_goto 33 dX13_here_29 rfl ?_
    exact eg_iretE dX13_here_33 hF
theorem dX13_placeOf_0 : decode cX13_placeOf 0 = .ok (.iconst 0, 1) := by decide +kernel
theorem dX13_placeOf_1 : decode cX13_placeOf 1 = .ok (.istore_n 2, 1) := by decide +kernel
theorem dX13_placeOf_2 : decode cX13_placeOf 2 = .ok (.iload_n 2, 1) := by decide +kernel
theorem dX13_placeOf_3 : decode cX13_placeOf 3 = .ok (.aload_n 0, 1) := by decide +kernel
theorem dX13_placeOf_4 : decode cX13_placeOf 4 = .ok (.invokevirtual 151, 3) := by decide +kernel
theorem dX13_placeOf_7 : decode cX13_placeOf 7 = .ok (.if_icmp .ge 20, 3) := by decide +kernel
theorem dX13_placeOf_10 : decode cX13_placeOf 10 = .ok (.aload_n 0, 1) := by decide +kernel
theorem dX13_placeOf_11 : decode cX13_placeOf 11 = .ok (.iload_n 2, 1) := by decide +kernel
theorem dX13_placeOf_12 : decode cX13_placeOf 12 = .ok (.invokevirtual 157, 3) := by decide +kernel
theorem dX13_placeOf_15 : decode cX13_placeOf 15 = .ok (.iload_n 1, 1) := by decide +kernel
theorem dX13_placeOf_16 : decode cX13_placeOf 16 = .ok (.if_icmp .ne 5, 3) := by decide +kernel
theorem dX13_placeOf_19 : decode cX13_placeOf 19 = .ok (.iload_n 2, 1) := by decide +kernel
theorem dX13_placeOf_20 : decode cX13_placeOf 20 = .ok (.ireturn, 1) := by decide +kernel
theorem dX13_placeOf_21 : decode cX13_placeOf 21 = .ok (.iinc 2 1, 3) := by decide +kernel
theorem dX13_placeOf_24 : decode cX13_placeOf 24 = .ok (.goto (-22), 3) := by decide +kernel
theorem dX13_placeOf_27 : decode cX13_placeOf 27 = .ok (.iconst (-1), 1) := by decide +kernel
theorem dX13_placeOf_28 : decode cX13_placeOf 28 = .ok (.ireturn, 1) := by decide +kernel
def fX13_placeOf_L2 : Nat → eg_H → Nat → Int32 → Int32 → Option ((eg_H) ⊕ (Int32 × eg_H))
  | 0, _, _, _, _ => none
  | n + 1, h, l0, l1, l2 =>
    (eg_slen l0).bind fun v1 =>
    if v1 ≤ l2 then
      (some (.inl h))
    else
      (eg_sat l0 l2).bind fun v4 =>
      if v4 = l1 then
        (some (.inr (l2, h)))
      else
        fX13_placeOf_L2 n h l0 l1 (l2 + (1 : Int32))
set_option maxRecDepth 20000 in
theorem fX13_placeOf_L2_ok {h0 : eg_H} {Z : eg_C → State → Prop} {N S : Nat} : ∀ (n : Nat) (h : eg_H) (l0 : Nat) (l1 : Int32) (l2 : Int32) (eE : (eg_H) ⊕ (Int32 × eg_H)), fX13_placeOf_L2 n h l0 l1 l2 = some eE → (hk0 : ∀  (h : eg_H), eE = (.inl h) → eg_AW (RX13, cX13_placeOf, 3, 5, none, "placeOf", (some .int)) Z N S h0 27 [] [] h) → (hk1 : ∀ (l2 : Int32) (h : eg_H), eE = (.inr (l2, h)) → eg_AW (RX13, cX13_placeOf, 3, 5, none, "placeOf", (some .int)) Z N S h0 19 [(2, .int l2)] [] h) → eg_AW (RX13, cX13_placeOf, 3, 5, none, "placeOf", (some .int)) Z N S h0 2 [(0, .ref l0), (1, .int l1), (2, .int l2)] [] h := by
  intro n
  induction n with
  | zero => intro h l0 l1 l2 eE hF; exact absurd hF (by intro q; cases q)
  | succ n ih =>
    intro h l0 l1 l2 eE hF hk0 hk1
    have hrec := fun (h' : eg_H) (l0 : Nat) (l1 : Int32) (l2 : Int32) hq => ih h' l0 l1 l2 eE hq hk0 hk1
    refine eg_iload_n (i := 2) 2 dX13_placeOf_2 rfl rfl ?_
    refine eg_aload_n (i := 0) 0 dX13_placeOf_3 rfl rfl ?_
    replace hF := eg_bind hF; obtain ⟨v1, e2, hF⟩ := hF
    refine eg_strlen dX13_placeOf_4 e2 ew_1726 (Nat.le_of_ble_eq_true rfl) (Nat.le_of_ble_eq_true rfl) ?_
    refine eg_ic_ge 27 dX13_placeOf_7 rfl (fun c3 => ?_) (fun c3 => ?_)
    · replace hF := eg_it c3 hF
      exact eg_sub [] [] rfl (hk0 h (Option.some.inj hF).symm)
    · replace hF := eg_if c3 hF
      refine eg_aload_n (i := 0) 0 dX13_placeOf_10 rfl rfl ?_
      refine eg_iload_n (i := 2) 2 dX13_placeOf_11 rfl rfl ?_
      replace hF := eg_bind hF; obtain ⟨v4, e5, hF⟩ := hF
      refine eg_strat dX13_placeOf_12 e5 ew_1739 (Nat.le_of_ble_eq_true rfl) (Nat.le_of_ble_eq_true rfl) ?_
      refine eg_iload_n (i := 1) 1 dX13_placeOf_15 rfl rfl ?_
      refine eg_ic_ne 21 dX13_placeOf_16 rfl (fun c6 => ?_) (fun c6 => ?_)
      · replace hF := eg_it c6 hF
        exact eg_sub [2] [(2, .int l2)] rfl (hk1 l2 h (Option.some.inj hF).symm)
      · replace hF := eg_if c6 hF
        refine eg_iinc (i := 2) (v := (l2 + (1 : Int32))) 2 [(2, .int (l2 + (1 : Int32))), (0, .ref l0), (1, .int l1)] dX13_placeOf_21 rfl rfl (Nat.le_of_ble_eq_true rfl) rfl ?_
        refine eg_goto 2 dX13_placeOf_24 rfl ?_
        exact eg_sub [1, 2, 0] [(0, .ref l0), (1, .int l1), (2, .int (l2 + (1 : Int32)))] rfl (hrec h l0 l1 (l2 + (1 : Int32)) hF)
def fX13_placeOf (h : eg_H) (l0 : Nat) (l1 : Int32) : Option (Int32 × eg_H) :=
  (fX13_placeOf_L2 eg_F h l0 l1 (0 : Int32)).bind fun e =>
  match e with
  | .inl h3 =>
    some ((-1 : Int32), h3)
  | .inr (v5, h6) =>
    some (v5, h6)
set_option maxRecDepth 20000 in
theorem mX13_placeOf {h : eg_H} {l0 : Nat} {l1 : Int32} {rE : Int32} {hE : eg_H} (hF : fX13_placeOf h l0 l1 = some (rE, hE)) : eg_Met yX13_placeOf cX13_placeOf 3 (some .int) 5 [.ref l0, .int l1] h (some (.int rE)) hE := by
  refine eg_enter rfl (Nat.le_of_ble_eq_true rfl) ?_
  show eg_AW (RX13, cX13_placeOf, 3, 5, none, "placeOf", (some .int)) (eg_Zm (some (.int rE)) hE h) (eg_nc hE) (eg_ns hE) h 0 [(0, .ref l0), (1, .int l1)] [] h
  refine eg_iconst (v := (0 : Int32)) dX13_placeOf_0 (by decide) ?_
  refine eg_istore_n (i := 2) [(2, .int (0 : Int32)), (0, .ref l0), (1, .int l1)] dX13_placeOf_1 rfl (Nat.le_of_ble_eq_true rfl) rfl ?_
  replace hF := eg_bind hF; obtain ⟨x2, e1, hF⟩ := hF
  refine eg_sub [1, 2, 0] [(0, .ref l0), (1, .int l1), (2, .int (0 : Int32))] rfl (fX13_placeOf_L2_ok eg_F h l0 l1 (0 : Int32) x2 e1 ?_ ?_)
  · intro h3 e4
    subst e4
    refine eg_iconst (v := (-1 : Int32)) dX13_placeOf_27 (by decide) ?_
    exact eg_iretE dX13_placeOf_28 hF
  · intro v5 h6 e7
    subst e7
    refine eg_iload_n (i := 2) 0 dX13_placeOf_19 rfl rfl ?_
    exact eg_iretE dX13_placeOf_20 hF
theorem dX13_readItem_0 : decode cX13_readItem 0 = .ok (.aload_n 0, 1) := by decide +kernel
theorem dX13_readItem_1 : decode cX13_readItem 1 = .ok (.dup, 1) := by decide +kernel
theorem dX13_readItem_2 : decode cX13_readItem 2 = .ok (.getfield 171, 3) := by decide +kernel
theorem dX13_readItem_5 : decode cX13_readItem 5 = .ok (.iconst 1, 1) := by decide +kernel
theorem dX13_readItem_6 : decode cX13_readItem 6 = .ok (.iadd, 1) := by decide +kernel
theorem dX13_readItem_7 : decode cX13_readItem 7 = .ok (.putfield 171, 3) := by decide +kernel
theorem dX13_readItem_10 : decode cX13_readItem 10 = .ok (.aload_n 0, 1) := by decide +kernel
theorem dX13_readItem_11 : decode cX13_readItem 11 = .ok (.invokevirtual 190, 3) := by decide +kernel
theorem dX13_readItem_14 : decode cX13_readItem 14 = .ok (.istore 5, 2) := by decide +kernel
theorem dX13_readItem_16 : decode cX13_readItem 16 = .ok (.aload_n 0, 1) := by decide +kernel
theorem dX13_readItem_17 : decode cX13_readItem 17 = .ok (.invokevirtual 220, 3) := by decide +kernel
theorem dX13_readItem_20 : decode cX13_readItem 20 = .ok (.ifCond .ne 9, 3) := by decide +kernel
theorem dX13_readItem_23 : decode cX13_readItem 23 = .ok (.aload_n 0, 1) := by decide +kernel
theorem dX13_readItem_24 : decode cX13_readItem 24 = .ok (.invokevirtual 186, 3) := by decide +kernel
theorem dX13_readItem_27 : decode cX13_readItem 27 = .ok (.pop, 1) := by decide +kernel
theorem dX13_readItem_28 : decode cX13_readItem 28 = .ok (.return_, 1) := by decide +kernel
theorem dX13_readItem_29 : decode cX13_readItem 29 = .ok (.iload 5, 2) := by decide +kernel
theorem dX13_readItem_31 : decode cX13_readItem 31 = .ok (.bipush 48, 2) := by decide +kernel
theorem dX13_readItem_33 : decode cX13_readItem 33 = .ok (.isub, 1) := by decide +kernel
theorem dX13_readItem_34 : decode cX13_readItem 34 = .ok (.istore 6, 2) := by decide +kernel
theorem dX13_readItem_36 : decode cX13_readItem 36 = .ok (.aload_n 0, 1) := by decide +kernel
theorem dX13_readItem_37 : decode cX13_readItem 37 = .ok (.dup, 1) := by decide +kernel
theorem dX13_readItem_38 : decode cX13_readItem 38 = .ok (.getfield 171, 3) := by decide +kernel
theorem dX13_readItem_41 : decode cX13_readItem 41 = .ok (.iconst 1, 1) := by decide +kernel
theorem dX13_readItem_42 : decode cX13_readItem 42 = .ok (.iadd, 1) := by decide +kernel
theorem dX13_readItem_43 : decode cX13_readItem 43 = .ok (.putfield 171, 3) := by decide +kernel
theorem dX13_readItem_46 : decode cX13_readItem 46 = .ok (.aload_n 0, 1) := by decide +kernel
theorem dX13_readItem_47 : decode cX13_readItem 47 = .ok (.invokevirtual 220, 3) := by decide +kernel
theorem dX13_readItem_50 : decode cX13_readItem 50 = .ok (.ifCond .eq 28, 3) := by decide +kernel
theorem dX13_readItem_53 : decode cX13_readItem 53 = .ok (.bipush 10, 2) := by decide +kernel
theorem dX13_readItem_55 : decode cX13_readItem 55 = .ok (.iload 6, 2) := by decide +kernel
theorem dX13_readItem_57 : decode cX13_readItem 57 = .ok (.imul, 1) := by decide +kernel
theorem dX13_readItem_58 : decode cX13_readItem 58 = .ok (.aload_n 0, 1) := by decide +kernel
theorem dX13_readItem_59 : decode cX13_readItem 59 = .ok (.invokevirtual 266, 3) := by decide +kernel
theorem dX13_readItem_62 : decode cX13_readItem 62 = .ok (.iadd, 1) := by decide +kernel
theorem dX13_readItem_63 : decode cX13_readItem 63 = .ok (.bipush 48, 2) := by decide +kernel
theorem dX13_readItem_65 : decode cX13_readItem 65 = .ok (.isub, 1) := by decide +kernel
theorem dX13_readItem_66 : decode cX13_readItem 66 = .ok (.istore 6, 2) := by decide +kernel
theorem dX13_readItem_68 : decode cX13_readItem 68 = .ok (.aload_n 0, 1) := by decide +kernel
theorem dX13_readItem_69 : decode cX13_readItem 69 = .ok (.dup, 1) := by decide +kernel
theorem dX13_readItem_70 : decode cX13_readItem 70 = .ok (.getfield 171, 3) := by decide +kernel
theorem dX13_readItem_73 : decode cX13_readItem 73 = .ok (.iconst 1, 1) := by decide +kernel
theorem dX13_readItem_74 : decode cX13_readItem 74 = .ok (.iadd, 1) := by decide +kernel
theorem dX13_readItem_75 : decode cX13_readItem 75 = .ok (.putfield 171, 3) := by decide +kernel
theorem dX13_readItem_78 : decode cX13_readItem 78 = .ok (.aload_n 0, 1) := by decide +kernel
theorem dX13_readItem_79 : decode cX13_readItem 79 = .ok (.invokevirtual 220, 3) := by decide +kernel
theorem dX13_readItem_82 : decode cX13_readItem 82 = .ok (.ifCond .eq 9, 3) := by decide +kernel
theorem dX13_readItem_85 : decode cX13_readItem 85 = .ok (.aload_n 0, 1) := by decide +kernel
theorem dX13_readItem_86 : decode cX13_readItem 86 = .ok (.invokevirtual 186, 3) := by decide +kernel
theorem dX13_readItem_89 : decode cX13_readItem 89 = .ok (.pop, 1) := by decide +kernel
theorem dX13_readItem_90 : decode cX13_readItem 90 = .ok (.return_, 1) := by decide +kernel
theorem dX13_readItem_91 : decode cX13_readItem 91 = .ok (.iload 6, 2) := by decide +kernel
theorem dX13_readItem_93 : decode cX13_readItem 93 = .ok (.i2l, 1) := by decide +kernel
theorem dX13_readItem_94 : decode cX13_readItem 94 = .ok (.iload_n 3, 1) := by decide +kernel
theorem dX13_readItem_95 : decode cX13_readItem 95 = .ok (.i2l, 1) := by decide +kernel
theorem dX13_readItem_96 : decode cX13_readItem 96 = .ok (.iload 4, 2) := by decide +kernel
theorem dX13_readItem_98 : decode cX13_readItem 98 = .ok (.i2l, 1) := by decide +kernel
theorem dX13_readItem_99 : decode cX13_readItem 99 = .ok (.invokestatic 269, 3) := by decide +kernel
theorem dX13_readItem_102 : decode cX13_readItem 102 = .ok (.ifCond .ne 19, 3) := by decide +kernel
theorem dX13_readItem_105 : decode cX13_readItem 105 = .ok (.aload_n 0, 1) := by decide +kernel
theorem dX13_readItem_106 : decode cX13_readItem 106 = .ok (.dup, 1) := by decide +kernel
theorem dX13_readItem_107 : decode cX13_readItem 107 = .ok (.getfield 171, 3) := by decide +kernel
theorem dX13_readItem_110 : decode cX13_readItem 110 = .ok (.iconst 1, 1) := by decide +kernel
theorem dX13_readItem_111 : decode cX13_readItem 111 = .ok (.isub, 1) := by decide +kernel
theorem dX13_readItem_112 : decode cX13_readItem 112 = .ok (.putfield 171, 3) := by decide +kernel
theorem dX13_readItem_115 : decode cX13_readItem 115 = .ok (.aload_n 0, 1) := by decide +kernel
theorem dX13_readItem_116 : decode cX13_readItem 116 = .ok (.invokevirtual 186, 3) := by decide +kernel
theorem dX13_readItem_119 : decode cX13_readItem 119 = .ok (.pop, 1) := by decide +kernel
theorem dX13_readItem_120 : decode cX13_readItem 120 = .ok (.return_, 1) := by decide +kernel
theorem dX13_readItem_121 : decode cX13_readItem 121 = .ok (.aload_n 1, 1) := by decide +kernel
theorem dX13_readItem_122 : decode cX13_readItem 122 = .ok (.iload_n 2, 1) := by decide +kernel
theorem dX13_readItem_123 : decode cX13_readItem 123 = .ok (.iload 6, 2) := by decide +kernel
theorem dX13_readItem_125 : decode cX13_readItem 125 = .ok (.iastore, 1) := by decide +kernel
theorem dX13_readItem_126 : decode cX13_readItem 126 = .ok (.return_, 1) := by decide +kernel
def fX13_readItem_j78 (h : eg_H) (l0 : Nat) (l1 : Nat) (l2 : Int32) (l3 : Int32) (l4 : Int32) (l6 : Int32) : Option (eg_H) :=
  (fX13_isDigit h l0).bind fun ⟨v2, h1⟩ =>
  if v2 = 0 then
    ((fX13_isIn h1 l6.toInt64 l3.toInt64 l4.toInt64).bind fun ⟨v6, h5⟩ =>
    if v6 = 0 then
      ((eg_gI h5 13 10 l0).bind fun v9 =>
      (eg_pI h5 13 10 l0 (v9 - (1 : Int32))).bind fun h11 =>
      (fX13_fails h11 l0).bind fun ⟨v14, h13⟩ =>
      some h13)
    else
      (eg_wI h5 100 l1 l2 l6).bind fun h16 =>
      some h16)
  else
    (fX13_fails h1 l0).bind fun ⟨v19, h18⟩ =>
    some h18
set_option maxRecDepth 20000 in
theorem fX13_readItem_j78_ok {h0 : eg_H} (h : eg_H) (l0 : Nat) (l1 : Nat) (l2 : Int32) (l3 : Int32) (l4 : Int32) (l6 : Int32) {hE : eg_H} (hF : fX13_readItem_j78 h l0 l1 l2 l3 l4 l6 = some hE) : eg_AW (RX13, cX13_readItem, 7, 2, none, "readItem", none) (eg_Zm none hE h0) (eg_nc hE) (eg_ns hE) h0 78 [(0, .ref l0), (1, .ref l1), (2, .int l2), (3, .int l3), (4, .int l4), (6, .int l6)] [] h := by
  refine eg_aload_n (i := 0) 0 dX13_readItem_78 rfl rfl ?_
  replace hF := eg_bind hF; obtain ⟨⟨v2, h1⟩, e3, hF⟩ := hF
  refine eg_callV (c := 13) (n := 0) [] dX13_readItem_79 (mX13_isDigit e3) rfl (fX13_isDigit_O e3) (Nat.le_of_ble_eq_true rfl) rfl ew_1790 ew_1792 ew_57 ew_110 ew_1793 hy_X13_isDigit rfl (Nat.le_of_ble_eq_true rfl) (Nat.le_of_ble_eq_true rfl) (Nat.le_of_ble_eq_true rfl) ?_
  refine eg_if_eq 91 dX13_readItem_82 rfl (fun c4 => ?_) (fun c4 => ?_)
  · replace hF := eg_it c4 hF
    refine eg_iload (i := 6) 5 dX13_readItem_91 rfl ?_
    refine eg_i2l dX13_readItem_93 ?_
    refine eg_iload_n (i := 3) 3 dX13_readItem_94 rfl rfl ?_
    refine eg_i2l dX13_readItem_95 ?_
    refine eg_iload (i := 4) 4 dX13_readItem_96 rfl ?_
    refine eg_i2l dX13_readItem_98 ?_
    replace hF := eg_bind hF; obtain ⟨⟨v6, h5⟩, e7, hF⟩ := hF
    refine eg_callS (n := 3) [.long l6.toInt64, .long l3.toInt64, .long l4.toInt64] dX13_readItem_99 (mX13_isIn e7) rfl ew_1697 ew_1698 ew_110 ew_1699 hy_X13_isIn.2 rfl (Nat.le_of_ble_eq_true rfl) (Nat.le_of_ble_eq_true rfl) (Nat.le_of_ble_eq_true rfl) ?_
    refine eg_if_ne 121 dX13_readItem_102 rfl (fun c8 => ?_) (fun c8 => ?_)
    · replace hF := eg_it c8 hF
      refine eg_aload_n (i := 0) 0 dX13_readItem_105 rfl rfl ?_
      refine eg_dup dX13_readItem_106 rfl ?_
      replace hF := eg_bind hF; obtain ⟨v9, e10, hF⟩ := hF
      refine eg_getI dX13_readItem_107 e10 (Nat.le_of_ble_eq_true rfl) (Nat.le_of_ble_eq_true rfl) rfl ew_1444 ?_
      refine eg_iconst (v := (1 : Int32)) dX13_readItem_110 (by decide) ?_
      refine eg_isub dX13_readItem_111 ?_
      replace hF := eg_bind hF; obtain ⟨h11, e12, hF⟩ := hF
      refine eg_putI dX13_readItem_112 e12 (Nat.le_of_ble_eq_true rfl) (Nat.le_of_ble_eq_true rfl) rfl ew_1444 (Or.inl rfl) ?_
      refine eg_aload_n (i := 0) 0 dX13_readItem_115 rfl rfl ?_
      replace hF := eg_bind hF; obtain ⟨⟨v14, h13⟩, e15, hF⟩ := hF
      refine eg_callV (c := 13) (n := 0) [] dX13_readItem_116 (mX13_fails e15) rfl (fX13_fails_O e15) (Nat.le_of_ble_eq_true rfl) rfl ew_1719 ew_1721 ew_55 ew_110 ew_1722 hy_X13_fails rfl (Nat.le_of_ble_eq_true rfl) (Nat.le_of_ble_eq_true rfl) (Nat.le_of_ble_eq_true rfl) ?_
      refine eg_pop dX13_readItem_119 rfl ?_
      exact eg_vretE dX13_readItem_120 hF
    · replace hF := eg_if c8 hF
      refine eg_aload_n (i := 1) 1 dX13_readItem_121 rfl rfl ?_
      refine eg_iload_n (i := 2) 2 dX13_readItem_122 rfl rfl ?_
      refine eg_iload (i := 6) 5 dX13_readItem_123 rfl ?_
      replace hF := eg_bind hF; obtain ⟨h16, e17, hF⟩ := hF
      refine eg_iast dX13_readItem_125 e17 ?_
      exact eg_vretE dX13_readItem_126 hF
  · replace hF := eg_if c4 hF
    refine eg_aload_n (i := 0) 0 dX13_readItem_85 rfl rfl ?_
    replace hF := eg_bind hF; obtain ⟨⟨v19, h18⟩, e20, hF⟩ := hF
    refine eg_callV (c := 13) (n := 0) [] dX13_readItem_86 (mX13_fails e20) rfl (fX13_fails_O e20) (Nat.le_of_ble_eq_true rfl) rfl ew_1719 ew_1721 ew_55 ew_110 ew_1722 hy_X13_fails rfl (Nat.le_of_ble_eq_true rfl) (Nat.le_of_ble_eq_true rfl) (Nat.le_of_ble_eq_true rfl) ?_
    refine eg_pop dX13_readItem_89 rfl ?_
    exact eg_vretE dX13_readItem_90 hF
def fX13_readItem (h : eg_H) (l0 : Nat) (l1 : Nat) (l2 : Int32) (l3 : Int32) (l4 : Int32) : Option (eg_H) :=
  if eg_isO h 13 l0 then (
    (eg_gI h 13 10 l0).bind fun v1 =>
    (eg_pI h 13 10 l0 (v1 + (1 : Int32))).bind fun h3 =>
    (fX13_look h3 l0).bind fun ⟨v6, h5⟩ =>
    (fX13_isDigit h5 l0).bind fun ⟨v9, h8⟩ =>
    if v9 = 0 then
      ((fX13_fails h8 l0).bind fun ⟨v13, h12⟩ =>
      some h12)
    else
      (some ((v6 - (48 : Int32)))).bind fun v15 =>
      (eg_gI h8 13 10 l0).bind fun v17 =>
      (eg_pI h8 13 10 l0 (v17 + (1 : Int32))).bind fun h19 =>
      (fX13_isDigit h19 l0).bind fun ⟨v22, h21⟩ =>
      if v22 = 0 then
        (fX13_readItem_j78 h21 l0 l1 l2 l3 l4 v15)
      else
        (fX13_here h21 l0).bind fun ⟨v26, h25⟩ =>
        (some (((((10 : Int32) * v15) + v26) - (48 : Int32)))).bind fun v28 =>
        (eg_gI h25 13 10 l0).bind fun v30 =>
        (eg_pI h25 13 10 l0 (v30 + (1 : Int32))).bind fun h32 =>
        fX13_readItem_j78 h32 l0 l1 l2 l3 l4 v28) else none
theorem fX13_readItem_O {h : eg_H} {l0 : Nat} {l1 : Nat} {l2 : Int32} {l3 : Int32} {l4 : Int32} {hE : eg_H} (hF : fX13_readItem h l0 l1 l2 l3 l4 = some hE) : eg_isO h 13 l0 := (eg_ifn hF).1
set_option maxRecDepth 20000 in
theorem mX13_readItem {h : eg_H} {l0 : Nat} {l1 : Nat} {l2 : Int32} {l3 : Int32} {l4 : Int32} {hE : eg_H} (hF : fX13_readItem h l0 l1 l2 l3 l4 = some hE) : eg_Met yX13_readItem cX13_readItem 7 none 2 [.ref l0, .ref l1, .int l2, .int l3, .int l4] h none hE := by
  refine eg_enter rfl (Nat.le_of_ble_eq_true rfl) ?_
  show eg_AW (RX13, cX13_readItem, 7, 2, none, "readItem", none) (eg_Zm none hE h) (eg_nc hE) (eg_ns hE) h 0 [(0, .ref l0), (1, .ref l1), (2, .int l2), (3, .int l3), (4, .int l4)] [] h
  replace hF := (eg_ifn hF).2
  refine eg_aload_n (i := 0) 0 dX13_readItem_0 rfl rfl ?_
  refine eg_dup dX13_readItem_1 rfl ?_
  replace hF := eg_bind hF; obtain ⟨v1, e2, hF⟩ := hF
  refine eg_getI dX13_readItem_2 e2 (Nat.le_of_ble_eq_true rfl) (Nat.le_of_ble_eq_true rfl) rfl ew_1444 ?_
  refine eg_iconst (v := (1 : Int32)) dX13_readItem_5 (by decide) ?_
  refine eg_iadd dX13_readItem_6 ?_
  replace hF := eg_bind hF; obtain ⟨h3, e4, hF⟩ := hF
  refine eg_putI dX13_readItem_7 e4 (Nat.le_of_ble_eq_true rfl) (Nat.le_of_ble_eq_true rfl) rfl ew_1444 (Or.inl rfl) ?_
  refine eg_aload_n (i := 0) 0 dX13_readItem_10 rfl rfl ?_
  replace hF := eg_bind hF; obtain ⟨⟨v6, h5⟩, e7, hF⟩ := hF
  refine eg_callV (c := 13) (n := 0) [] dX13_readItem_11 (mX13_look e7) rfl (fX13_look_O e7) (Nat.le_of_ble_eq_true rfl) rfl ew_1715 ew_1717 ew_54 ew_110 ew_1718 hy_X13_look rfl (Nat.le_of_ble_eq_true rfl) (Nat.le_of_ble_eq_true rfl) (Nat.le_of_ble_eq_true rfl) ?_
  refine eg_istore (i := 5) [(5, .int v6), (0, .ref l0), (1, .ref l1), (2, .int l2), (3, .int l3), (4, .int l4)] dX13_readItem_14 (Nat.le_of_ble_eq_true rfl) rfl ?_
  refine eg_aload_n (i := 0) 1 dX13_readItem_16 rfl rfl ?_
  replace hF := eg_bind hF; obtain ⟨⟨v9, h8⟩, e10, hF⟩ := hF
  refine eg_callV (c := 13) (n := 0) [] dX13_readItem_17 (mX13_isDigit e10) rfl (fX13_isDigit_O e10) (Nat.le_of_ble_eq_true rfl) rfl ew_1790 ew_1792 ew_57 ew_110 ew_1793 hy_X13_isDigit rfl (Nat.le_of_ble_eq_true rfl) (Nat.le_of_ble_eq_true rfl) (Nat.le_of_ble_eq_true rfl) ?_
  refine eg_if_ne 29 dX13_readItem_20 rfl (fun c11 => ?_) (fun c11 => ?_)
  · replace hF := eg_it c11 hF
    refine eg_aload_n (i := 0) 1 dX13_readItem_23 rfl rfl ?_
    replace hF := eg_bind hF; obtain ⟨⟨v13, h12⟩, e14, hF⟩ := hF
    refine eg_callV (c := 13) (n := 0) [] dX13_readItem_24 (mX13_fails e14) rfl (fX13_fails_O e14) (Nat.le_of_ble_eq_true rfl) rfl ew_1719 ew_1721 ew_55 ew_110 ew_1722 hy_X13_fails rfl (Nat.le_of_ble_eq_true rfl) (Nat.le_of_ble_eq_true rfl) (Nat.le_of_ble_eq_true rfl) ?_
    refine eg_pop dX13_readItem_27 rfl ?_
    exact eg_vretE dX13_readItem_28 hF
  · replace hF := eg_if c11 hF
    refine eg_iload (i := 5) 0 dX13_readItem_29 rfl ?_
    refine eg_bipush (v := (48 : Int32)) dX13_readItem_31 (by decide) ?_
    refine eg_isub dX13_readItem_33 ?_
    replace hF := eg_bind hF; obtain ⟨v15, e16, hF⟩ := hF
    replace e16 := Option.some.inj e16
    rw [e16]
    refine eg_istore (i := 6) [(6, .int v15), (5, .int v6), (0, .ref l0), (1, .ref l1), (2, .int l2), (3, .int l3), (4, .int l4)] dX13_readItem_34 (Nat.le_of_ble_eq_true rfl) rfl ?_
    refine eg_aload_n (i := 0) 2 dX13_readItem_36 rfl rfl ?_
    refine eg_dup dX13_readItem_37 rfl ?_
    replace hF := eg_bind hF; obtain ⟨v17, e18, hF⟩ := hF
    refine eg_getI dX13_readItem_38 e18 (Nat.le_of_ble_eq_true rfl) (Nat.le_of_ble_eq_true rfl) rfl ew_1444 ?_
    refine eg_iconst (v := (1 : Int32)) dX13_readItem_41 (by decide) ?_
    refine eg_iadd dX13_readItem_42 ?_
    replace hF := eg_bind hF; obtain ⟨h19, e20, hF⟩ := hF
    refine eg_putI dX13_readItem_43 e20 (Nat.le_of_ble_eq_true rfl) (Nat.le_of_ble_eq_true rfl) rfl ew_1444 (Or.inl rfl) ?_
    refine eg_aload_n (i := 0) 2 dX13_readItem_46 rfl rfl ?_
    replace hF := eg_bind hF; obtain ⟨⟨v22, h21⟩, e23, hF⟩ := hF
    refine eg_callV (c := 13) (n := 0) [] dX13_readItem_47 (mX13_isDigit e23) rfl (fX13_isDigit_O e23) (Nat.le_of_ble_eq_true rfl) rfl ew_1790 ew_1792 ew_57 ew_110 ew_1793 hy_X13_isDigit rfl (Nat.le_of_ble_eq_true rfl) (Nat.le_of_ble_eq_true rfl) (Nat.le_of_ble_eq_true rfl) ?_
    refine eg_if_eq 78 dX13_readItem_50 rfl (fun c24 => ?_) (fun c24 => ?_)
    · replace hF := eg_it c24 hF
      exact eg_sub [2, 3, 4, 5, 6, 0] [(0, .ref l0), (1, .ref l1), (2, .int l2), (3, .int l3), (4, .int l4), (6, .int v15)] rfl (fX13_readItem_j78_ok h21 l0 l1 l2 l3 l4 v15 hF)
    · replace hF := eg_if c24 hF
      refine eg_bipush (v := (10 : Int32)) dX13_readItem_53 (by decide) ?_
      refine eg_iload (i := 6) 0 dX13_readItem_55 rfl ?_
      refine eg_imul dX13_readItem_57 ?_
      refine eg_aload_n (i := 0) 2 dX13_readItem_58 rfl rfl ?_
      replace hF := eg_bind hF; obtain ⟨⟨v26, h25⟩, e27, hF⟩ := hF
      refine eg_callV (c := 13) (n := 0) [] dX13_readItem_59 (mX13_here e27) rfl (fX13_here_O e27) (Nat.le_of_ble_eq_true rfl) rfl ew_1794 ew_1796 ew_58 ew_110 ew_1797 hy_X13_here rfl (Nat.le_of_ble_eq_true rfl) (Nat.le_of_ble_eq_true rfl) (Nat.le_of_ble_eq_true rfl) ?_
      refine eg_iadd dX13_readItem_62 ?_
      refine eg_bipush (v := (48 : Int32)) dX13_readItem_63 (by decide) ?_
      refine eg_isub dX13_readItem_65 ?_
      replace hF := eg_bind hF; obtain ⟨v28, e29, hF⟩ := hF
      replace e29 := Option.some.inj e29
      rw [e29]
      refine eg_istore (i := 6) [(6, .int v28), (5, .int v6), (0, .ref l0), (1, .ref l1), (2, .int l2), (3, .int l3), (4, .int l4)] dX13_readItem_66 (Nat.le_of_ble_eq_true rfl) rfl ?_
      refine eg_aload_n (i := 0) 2 dX13_readItem_68 rfl rfl ?_
      refine eg_dup dX13_readItem_69 rfl ?_
      replace hF := eg_bind hF; obtain ⟨v30, e31, hF⟩ := hF
      refine eg_getI dX13_readItem_70 e31 (Nat.le_of_ble_eq_true rfl) (Nat.le_of_ble_eq_true rfl) rfl ew_1444 ?_
      refine eg_iconst (v := (1 : Int32)) dX13_readItem_73 (by decide) ?_
      refine eg_iadd dX13_readItem_74 ?_
      replace hF := eg_bind hF; obtain ⟨h32, e33, hF⟩ := hF
      refine eg_putI dX13_readItem_75 e33 (Nat.le_of_ble_eq_true rfl) (Nat.le_of_ble_eq_true rfl) rfl ew_1444 (Or.inl rfl) ?_
      exact eg_sub [2, 3, 4, 5, 6, 0] [(0, .ref l0), (1, .ref l1), (2, .int l2), (3, .int l3), (4, .int l4), (6, .int v28)] rfl (fX13_readItem_j78_ok h32 l0 l1 l2 l3 l4 v28 hF)
theorem dX13_leastOf_0 : decode cX13_leastOf 0 = .ok (.iload_n 0, 1) := by decide +kernel
theorem dX13_leastOf_1 : decode cX13_leastOf 1 = .ok (.bipush 109, 2) := by decide +kernel
theorem dX13_leastOf_3 : decode cX13_leastOf 3 = .ok (.if_icmp .ne 14, 3) := by decide +kernel
theorem dX13_leastOf_6 : decode cX13_leastOf 6 = .ok (.iload_n 1, 1) := by decide +kernel
theorem dX13_leastOf_7 : decode cX13_leastOf 7 = .ok (.iconst 1, 1) := by decide +kernel
theorem dX13_leastOf_8 : decode cX13_leastOf 8 = .ok (.if_icmp .le 7, 3) := by decide +kernel
theorem dX13_leastOf_11 : decode cX13_leastOf 11 = .ok (.iconst 1, 1) := by decide +kernel
theorem dX13_leastOf_12 : decode cX13_leastOf 12 = .ok (.goto 4, 3) := by decide +kernel
theorem dX13_leastOf_15 : decode cX13_leastOf 15 = .ok (.iconst 0, 1) := by decide +kernel
theorem dX13_leastOf_16 : decode cX13_leastOf 16 = .ok (.ireturn, 1) := by decide +kernel
theorem dX13_leastOf_17 : decode cX13_leastOf 17 = .ok (.iload_n 0, 1) := by decide +kernel
theorem dX13_leastOf_18 : decode cX13_leastOf 18 = .ok (.bipush 101, 2) := by decide +kernel
theorem dX13_leastOf_20 : decode cX13_leastOf 20 = .ok (.if_icmp .ne 11, 3) := by decide +kernel
theorem dX13_leastOf_23 : decode cX13_leastOf 23 = .ok (.iload_n 1, 1) := by decide +kernel
theorem dX13_leastOf_24 : decode cX13_leastOf 24 = .ok (.ifCond .ne 7, 3) := by decide +kernel
theorem dX13_leastOf_27 : decode cX13_leastOf 27 = .ok (.iconst 1, 1) := by decide +kernel
theorem dX13_leastOf_28 : decode cX13_leastOf 28 = .ok (.goto 4, 3) := by decide +kernel
theorem dX13_leastOf_31 : decode cX13_leastOf 31 = .ok (.iconst 0, 1) := by decide +kernel
theorem dX13_leastOf_32 : decode cX13_leastOf 32 = .ok (.ireturn, 1) := by decide +kernel
def fX13_leastOf (h : eg_H) (l0 : Int32) (l1 : Int32) : Option (Int32 × eg_H) :=
  if l0 = (109 : Int32) then
    (if l1 ≤ (1 : Int32) then
      (some ((0 : Int32), h))
    else
      some ((1 : Int32), h))
  else
    if l0 = (101 : Int32) then
      (if l1 = 0 then
        (some ((1 : Int32), h))
      else
        some ((0 : Int32), h))
    else
      some ((0 : Int32), h)
set_option maxRecDepth 20000 in
theorem mX13_leastOf {h : eg_H} {l0 : Int32} {l1 : Int32} {rE : Int32} {hE : eg_H} (hF : fX13_leastOf h l0 l1 = some (rE, hE)) : eg_Met yX13_leastOf cX13_leastOf 2 (some .int) 1 [.int l0, .int l1] h (some (.int rE)) hE := by
  refine eg_enter rfl (Nat.le_of_ble_eq_true rfl) ?_
  show eg_AW (RX13, cX13_leastOf, 2, 1, none, "leastOf", (some .int)) (eg_Zm (some (.int rE)) hE h) (eg_nc hE) (eg_ns hE) h 0 [(0, .int l0), (1, .int l1)] [] h
  refine eg_iload_n (i := 0) 0 dX13_leastOf_0 rfl rfl ?_
  refine eg_bipush (v := (109 : Int32)) dX13_leastOf_1 (by decide) ?_
  refine eg_ic_ne 17 dX13_leastOf_3 rfl (fun c1 => ?_) (fun c1 => ?_)
  · replace hF := eg_it c1 hF
    refine eg_iload_n (i := 1) 1 dX13_leastOf_6 rfl rfl ?_
    refine eg_iconst (v := (1 : Int32)) dX13_leastOf_7 (by decide) ?_
    refine eg_ic_le 15 dX13_leastOf_8 rfl (fun c2 => ?_) (fun c2 => ?_)
    · replace hF := eg_it c2 hF
      refine eg_iconst (v := (0 : Int32)) dX13_leastOf_15 (by decide) ?_
      exact eg_iretE dX13_leastOf_16 hF
    · replace hF := eg_if c2 hF
      refine eg_iconst (v := (1 : Int32)) dX13_leastOf_11 (by decide) ?_
      refine eg_goto 16 dX13_leastOf_12 rfl ?_
      exact eg_iretE dX13_leastOf_16 hF
  · replace hF := eg_if c1 hF
    refine eg_iload_n (i := 0) 0 dX13_leastOf_17 rfl rfl ?_
    refine eg_bipush (v := (101 : Int32)) dX13_leastOf_18 (by decide) ?_
    refine eg_ic_ne 31 dX13_leastOf_20 rfl (fun c3 => ?_) (fun c3 => ?_)
    · replace hF := eg_it c3 hF
      refine eg_iload_n (i := 1) 1 dX13_leastOf_23 rfl rfl ?_
      refine eg_if_ne 31 dX13_leastOf_24 rfl (fun c4 => ?_) (fun c4 => ?_)
      · replace hF := eg_it c4 hF
        refine eg_iconst (v := (1 : Int32)) dX13_leastOf_27 (by decide) ?_
        refine eg_goto 32 dX13_leastOf_28 rfl ?_
        exact eg_iretE dX13_leastOf_32 hF
      · replace hF := eg_if c4 hF
        refine eg_iconst (v := (0 : Int32)) dX13_leastOf_31 (by decide) ?_
        exact eg_iretE dX13_leastOf_32 hF
    · replace hF := eg_if c3 hF
      refine eg_iconst (v := (0 : Int32)) dX13_leastOf_31 (by decide) ?_
      exact eg_iretE dX13_leastOf_32 hF
theorem dX13_mostOf_0 : decode cX13_mostOf 0 = .ok (.iload_n 0, 1) := by decide +kernel
theorem dX13_mostOf_1 : decode cX13_mostOf 1 = .ok (.bipush 109, 2) := by decide +kernel
theorem dX13_mostOf_3 : decode cX13_mostOf 3 = .ok (.if_icmp .ne 25, 3) := by decide +kernel
theorem dX13_mostOf_6 : decode cX13_mostOf 6 = .ok (.iload_n 1, 1) := by decide +kernel
theorem dX13_mostOf_7 : decode cX13_mostOf 7 = .ok (.iconst 1, 1) := by decide +kernel
theorem dX13_mostOf_8 : decode cX13_mostOf 8 = .ok (.if_icmp .ne 7, 3) := by decide +kernel
theorem dX13_mostOf_11 : decode cX13_mostOf 11 = .ok (.iconst 1, 1) := by decide +kernel
theorem dX13_mostOf_12 : decode cX13_mostOf 12 = .ok (.goto 15, 3) := by decide +kernel
theorem dX13_mostOf_15 : decode cX13_mostOf 15 = .ok (.iload_n 1, 1) := by decide +kernel
theorem dX13_mostOf_16 : decode cX13_mostOf 16 = .ok (.iconst 3, 1) := by decide +kernel
theorem dX13_mostOf_17 : decode cX13_mostOf 17 = .ok (.if_icmp .ne 8, 3) := by decide +kernel
theorem dX13_mostOf_20 : decode cX13_mostOf 20 = .ok (.bipush 60, 2) := by decide +kernel
theorem dX13_mostOf_22 : decode cX13_mostOf 22 = .ok (.goto 5, 3) := by decide +kernel
theorem dX13_mostOf_25 : decode cX13_mostOf 25 = .ok (.bipush 9, 2) := by decide +kernel
theorem dX13_mostOf_27 : decode cX13_mostOf 27 = .ok (.ireturn, 1) := by decide +kernel
theorem dX13_mostOf_28 : decode cX13_mostOf 28 = .ok (.iload_n 0, 1) := by decide +kernel
theorem dX13_mostOf_29 : decode cX13_mostOf 29 = .ok (.bipush 112, 2) := by decide +kernel
theorem dX13_mostOf_31 : decode cX13_mostOf 31 = .ok (.if_icmp .ne 19, 3) := by decide +kernel
theorem dX13_mostOf_34 : decode cX13_mostOf 34 = .ok (.iload_n 1, 1) := by decide +kernel
theorem dX13_mostOf_35 : decode cX13_mostOf 35 = .ok (.ifCond .eq 8, 3) := by decide +kernel
theorem dX13_mostOf_38 : decode cX13_mostOf 38 = .ok (.iload_n 1, 1) := by decide +kernel
theorem dX13_mostOf_39 : decode cX13_mostOf 39 = .ok (.iconst 2, 1) := by decide +kernel
theorem dX13_mostOf_40 : decode cX13_mostOf 40 = .ok (.if_icmp .ne 7, 3) := by decide +kernel
theorem dX13_mostOf_43 : decode cX13_mostOf 43 = .ok (.iconst 5, 1) := by decide +kernel
theorem dX13_mostOf_44 : decode cX13_mostOf 44 = .ok (.goto 5, 3) := by decide +kernel
theorem dX13_mostOf_47 : decode cX13_mostOf 47 = .ok (.bipush 9, 2) := by decide +kernel
theorem dX13_mostOf_49 : decode cX13_mostOf 49 = .ok (.ireturn, 1) := by decide +kernel
theorem dX13_mostOf_50 : decode cX13_mostOf 50 = .ok (.iload_n 1, 1) := by decide +kernel
theorem dX13_mostOf_51 : decode cX13_mostOf 51 = .ok (.ifCond .ne 8, 3) := by decide +kernel
theorem dX13_mostOf_54 : decode cX13_mostOf 54 = .ok (.bipush 99, 2) := by decide +kernel
theorem dX13_mostOf_56 : decode cX13_mostOf 56 = .ok (.goto 4, 3) := by decide +kernel
theorem dX13_mostOf_59 : decode cX13_mostOf 59 = .ok (.iconst 1, 1) := by decide +kernel
theorem dX13_mostOf_60 : decode cX13_mostOf 60 = .ok (.ireturn, 1) := by decide +kernel
def fX13_mostOf (h : eg_H) (l0 : Int32) (l1 : Int32) : Option (Int32 × eg_H) :=
  if l0 = (109 : Int32) then
    (if l1 = (1 : Int32) then
      (some ((1 : Int32), h))
    else
      if l1 = (3 : Int32) then
        (some ((60 : Int32), h))
      else
        some ((9 : Int32), h))
  else
    if l0 = (112 : Int32) then
      (if l1 = 0 then
        (some ((5 : Int32), h))
      else
        if l1 = (2 : Int32) then
          (some ((5 : Int32), h))
        else
          some ((9 : Int32), h))
    else
      if l1 = 0 then
        (some ((99 : Int32), h))
      else
        some ((1 : Int32), h)
set_option maxRecDepth 20000 in
theorem mX13_mostOf {h : eg_H} {l0 : Int32} {l1 : Int32} {rE : Int32} {hE : eg_H} (hF : fX13_mostOf h l0 l1 = some (rE, hE)) : eg_Met yX13_mostOf cX13_mostOf 2 (some .int) 1 [.int l0, .int l1] h (some (.int rE)) hE := by
  refine eg_enter rfl (Nat.le_of_ble_eq_true rfl) ?_
  show eg_AW (RX13, cX13_mostOf, 2, 1, none, "mostOf", (some .int)) (eg_Zm (some (.int rE)) hE h) (eg_nc hE) (eg_ns hE) h 0 [(0, .int l0), (1, .int l1)] [] h
  refine eg_iload_n (i := 0) 0 dX13_mostOf_0 rfl rfl ?_
  refine eg_bipush (v := (109 : Int32)) dX13_mostOf_1 (by decide) ?_
  refine eg_ic_ne 28 dX13_mostOf_3 rfl (fun c1 => ?_) (fun c1 => ?_)
  · replace hF := eg_it c1 hF
    refine eg_iload_n (i := 1) 1 dX13_mostOf_6 rfl rfl ?_
    refine eg_iconst (v := (1 : Int32)) dX13_mostOf_7 (by decide) ?_
    refine eg_ic_ne 15 dX13_mostOf_8 rfl (fun c2 => ?_) (fun c2 => ?_)
    · replace hF := eg_it c2 hF
      refine eg_iconst (v := (1 : Int32)) dX13_mostOf_11 (by decide) ?_
      refine eg_goto 27 dX13_mostOf_12 rfl ?_
      exact eg_iretE dX13_mostOf_27 hF
    · replace hF := eg_if c2 hF
      refine eg_iload_n (i := 1) 1 dX13_mostOf_15 rfl rfl ?_
      refine eg_iconst (v := (3 : Int32)) dX13_mostOf_16 (by decide) ?_
      refine eg_ic_ne 25 dX13_mostOf_17 rfl (fun c3 => ?_) (fun c3 => ?_)
      · replace hF := eg_it c3 hF
        refine eg_bipush (v := (60 : Int32)) dX13_mostOf_20 (by decide) ?_
        refine eg_goto 27 dX13_mostOf_22 rfl ?_
        exact eg_iretE dX13_mostOf_27 hF
      · replace hF := eg_if c3 hF
        refine eg_bipush (v := (9 : Int32)) dX13_mostOf_25 (by decide) ?_
        exact eg_iretE dX13_mostOf_27 hF
  · replace hF := eg_if c1 hF
    refine eg_iload_n (i := 0) 0 dX13_mostOf_28 rfl rfl ?_
    refine eg_bipush (v := (112 : Int32)) dX13_mostOf_29 (by decide) ?_
    refine eg_ic_ne 50 dX13_mostOf_31 rfl (fun c4 => ?_) (fun c4 => ?_)
    · replace hF := eg_it c4 hF
      refine eg_iload_n (i := 1) 1 dX13_mostOf_34 rfl rfl ?_
      refine eg_if_eq 43 dX13_mostOf_35 rfl (fun c5 => ?_) (fun c5 => ?_)
      · replace hF := eg_it c5 hF
        refine eg_iconst (v := (5 : Int32)) dX13_mostOf_43 (by decide) ?_
        refine eg_goto 49 dX13_mostOf_44 rfl ?_
        exact eg_iretE dX13_mostOf_49 hF
      · replace hF := eg_if c5 hF
        refine eg_iload_n (i := 1) 1 dX13_mostOf_38 rfl rfl ?_
        refine eg_iconst (v := (2 : Int32)) dX13_mostOf_39 (by decide) ?_
        refine eg_ic_ne 47 dX13_mostOf_40 rfl (fun c6 => ?_) (fun c6 => ?_)
        · replace hF := eg_it c6 hF
          refine eg_iconst (v := (5 : Int32)) dX13_mostOf_43 (by decide) ?_
          refine eg_goto 49 dX13_mostOf_44 rfl ?_
          exact eg_iretE dX13_mostOf_49 hF
        · replace hF := eg_if c6 hF
          refine eg_bipush (v := (9 : Int32)) dX13_mostOf_47 (by decide) ?_
          exact eg_iretE dX13_mostOf_49 hF
    · replace hF := eg_if c4 hF
      refine eg_iload_n (i := 1) 1 dX13_mostOf_50 rfl rfl ?_
      refine eg_if_ne 59 dX13_mostOf_51 rfl (fun c7 => ?_) (fun c7 => ?_)
      · replace hF := eg_it c7 hF
        refine eg_bipush (v := (99 : Int32)) dX13_mostOf_54 (by decide) ?_
        refine eg_goto 60 dX13_mostOf_56 rfl ?_
        exact eg_iretE dX13_mostOf_60 hF
      · replace hF := eg_if c7 hF
        refine eg_iconst (v := (1 : Int32)) dX13_mostOf_59 (by decide) ?_
        exact eg_iretE dX13_mostOf_60 hF
