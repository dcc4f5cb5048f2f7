theorem dX10_init_0 : decode cX10_init 0 = .ok (.aload_n 0, 1) := by decide +kernel
theorem dX10_init_1 : decode cX10_init 1 = .ok (.invokespecial 3, 3) := by decide +kernel
theorem dX10_init_4 : decode cX10_init 4 = .ok (.aload_n 0, 1) := by decide +kernel
theorem dX10_init_5 : decode cX10_init 5 = .ok (.sipush 160, 3) := by decide +kernel
theorem dX10_init_8 : decode cX10_init 8 = .ok (.newarray .int, 2) := by decide +kernel
theorem dX10_init_10 : decode cX10_init 10 = .ok (.putfield 9, 3) := by decide +kernel
theorem dX10_init_13 : decode cX10_init 13 = .ok (.aload_n 0, 1) := by decide +kernel
theorem dX10_init_14 : decode cX10_init 14 = .ok (.iconst 0, 1) := by decide +kernel
theorem dX10_init_15 : decode cX10_init 15 = .ok (.putfield 15, 3) := by decide +kernel
theorem dX10_init_18 : decode cX10_init 18 = .ok (.aload_n 0, 1) := by decide +kernel
theorem dX10_init_19 : decode cX10_init 19 = .ok (.iconst 0, 1) := by decide +kernel
theorem dX10_init_20 : decode cX10_init 20 = .ok (.putfield 19, 3) := by decide +kernel
theorem dX10_init_23 : decode cX10_init 23 = .ok (.aload_n 0, 1) := by decide +kernel
theorem dX10_init_24 : decode cX10_init 24 = .ok (.iconst 0, 1) := by decide +kernel
theorem dX10_init_25 : decode cX10_init 25 = .ok (.putfield 22, 3) := by decide +kernel
theorem dX10_init_28 : decode cX10_init 28 = .ok (.aload_n 0, 1) := by decide +kernel
theorem dX10_init_29 : decode cX10_init 29 = .ok (.iconst (-1), 1) := by decide +kernel
theorem dX10_init_30 : decode cX10_init 30 = .ok (.putfield 25, 3) := by decide +kernel
theorem dX10_init_33 : decode cX10_init 33 = .ok (.return_, 1) := by decide +kernel
def fX10_init (h : eg_H) (l0 : Nat) : Option (eg_H) :=
  (eg_na h 100 (160 : Int32)).bind fun h2 =>
  (some (eg_nc h)).bind fun p1 =>
  (eg_pP h2 10 0 l0 (some p1)).bind fun h5 =>
  (eg_pI h5 10 1 l0 (0 : Int32)).bind fun h7 =>
  (eg_pI h7 10 2 l0 (0 : Int32)).bind fun h9 =>
  (eg_pI h9 10 3 l0 (0 : Int32)).bind fun h11 =>
  (eg_pI h11 10 4 l0 (-1 : Int32)).bind fun h13 =>
  some h13
set_option maxRecDepth 20000 in
theorem mX10_init {h : eg_H} {l0 : Nat} {hE : eg_H} (hF : fX10_init h l0 = some hE) : eg_Met yX10_init cX10_init 1 none 1 [.ref l0] h none hE := by
  refine eg_enter rfl (Nat.le_of_ble_eq_true rfl) ?_
  show eg_AW (RX10, cX10_init, 1, 1, none, "<init>", none) (eg_Zm none hE h) (eg_nc hE) (eg_ns hE) h 0 [(0, .ref l0)] [] h
  refine eg_aload_n (i := 0) 0 dX10_init_0 rfl rfl ?_
  refine eg_objInit dX10_init_1 ew_139 (Nat.le_of_ble_eq_true rfl) (Nat.le_of_ble_eq_true rfl) ?_
  refine eg_aload_n (i := 0) 0 dX10_init_4 rfl rfl ?_
  refine eg_sipush (v := (160 : Int32)) dX10_init_5 (by decide) ?_
  replace hF := eg_bind hF; obtain ⟨h2, e3, hF⟩ := hF
  replace hF := eg_bind hF; obtain ⟨p1, e4, hF⟩ := hF
  refine eg_newa .int dX10_init_8 e3 0 (Nat.le_of_ble_eq_true rfl) (Nat.le_of_ble_eq_true rfl) (Nat.le_of_ble_eq_true rfl) (fun _ => rfl) (by decide) rfl ew_156 ?_
  replace e4 := Option.some.inj e4
  rw [e4]
  replace hF := eg_bind hF; obtain ⟨h5, e6, hF⟩ := hF
  refine eg_putR dX10_init_10 e6 (Nat.le_of_ble_eq_true rfl) (Nat.le_of_ble_eq_true rfl) rfl ew_140 (Or.inr ⟨rfl, rfl, rfl⟩) ?_
  refine eg_aload_n (i := 0) 0 dX10_init_13 rfl rfl ?_
  refine eg_iconst (v := (0 : Int32)) dX10_init_14 (by decide) ?_
  replace hF := eg_bind hF; obtain ⟨h7, e8, hF⟩ := hF
  refine eg_putI dX10_init_15 e8 (Nat.le_of_ble_eq_true rfl) (Nat.le_of_ble_eq_true rfl) rfl ew_141 (Or.inl rfl) ?_
  refine eg_aload_n (i := 0) 0 dX10_init_18 rfl rfl ?_
  refine eg_iconst (v := (0 : Int32)) dX10_init_19 (by decide) ?_
  replace hF := eg_bind hF; obtain ⟨h9, e10, hF⟩ := hF
  refine eg_putI dX10_init_20 e10 (Nat.le_of_ble_eq_true rfl) (Nat.le_of_ble_eq_true rfl) rfl ew_142 (Or.inl rfl) ?_
  refine eg_aload_n (i := 0) 0 dX10_init_23 rfl rfl ?_
  refine eg_iconst (v := (0 : Int32)) dX10_init_24 (by decide) ?_
  replace hF := eg_bind hF; obtain ⟨h11, e12, hF⟩ := hF
  refine eg_putI dX10_init_25 e12 (Nat.le_of_ble_eq_true rfl) (Nat.le_of_ble_eq_true rfl) rfl ew_143 (Or.inl rfl) ?_
  refine eg_aload_n (i := 0) 0 dX10_init_28 rfl rfl ?_
  refine eg_iconst (v := (-1 : Int32)) dX10_init_29 (by decide) ?_
  replace hF := eg_bind hF; obtain ⟨h13, e14, hF⟩ := hF
  refine eg_putI dX10_init_30 e14 (Nat.le_of_ble_eq_true rfl) (Nat.le_of_ble_eq_true rfl) rfl ew_144 (Or.inl rfl) ?_
  exact eg_vretE dX10_init_33 hF
theorem dX10_bytesIn_0 : decode cX10_bytesIn 0 = .ok (.iconst 0, 1) := by decide +kernel
theorem dX10_bytesIn_1 : decode cX10_bytesIn 1 = .ok (.istore_n 2, 1) := by decide +kernel
theorem dX10_bytesIn_2 : decode cX10_bytesIn 2 = .ok (.bipush 24, 2) := by decide +kernel
theorem dX10_bytesIn_4 : decode cX10_bytesIn 4 = .ok (.istore_n 3, 1) := by decide +kernel
theorem dX10_bytesIn_5 : decode cX10_bytesIn 5 = .ok (.iload_n 3, 1) := by decide +kernel
theorem dX10_bytesIn_6 : decode cX10_bytesIn 6 = .ok (.ifCond .lt 22, 3) := by decide +kernel
theorem dX10_bytesIn_9 : decode cX10_bytesIn 9 = .ok (.iload_n 1, 1) := by decide +kernel
theorem dX10_bytesIn_10 : decode cX10_bytesIn 10 = .ok (.iload_n 3, 1) := by decide +kernel
theorem dX10_bytesIn_11 : decode cX10_bytesIn 11 = .ok (.iushr, 1) := by decide +kernel
theorem dX10_bytesIn_12 : decode cX10_bytesIn 12 = .ok (.sipush 255, 3) := by decide +kernel
theorem dX10_bytesIn_15 : decode cX10_bytesIn 15 = .ok (.iand, 1) := by decide +kernel
theorem dX10_bytesIn_16 : decode cX10_bytesIn 16 = .ok (.ifCond .eq 6, 3) := by decide +kernel
theorem dX10_bytesIn_19 : decode cX10_bytesIn 19 = .ok (.iinc 2 1, 3) := by decide +kernel
theorem dX10_bytesIn_22 : decode cX10_bytesIn 22 = .ok (.iinc 3 (-8), 3) := by decide +kernel
theorem dX10_bytesIn_25 : decode cX10_bytesIn 25 = .ok (.goto (-20), 3) := by decide +kernel
theorem dX10_bytesIn_28 : decode cX10_bytesIn 28 = .ok (.iload_n 2, 1) := by decide +kernel
theorem dX10_bytesIn_29 : decode cX10_bytesIn 29 = .ok (.ireturn, 1) := by decide +kernel
def fX10_bytesIn_L5 : Nat → eg_H → Int32 → Int32 → Int32 → Option (Int32 × eg_H)
  | 0, _, _, _, _ => none
  | n + 1, h, l1, l2, l3 =>
    if l3 < 0 then
      (some (l2, h))
    else
      if ((l1.toUInt32 >>> (l3.toUInt32 &&& Int32.toUInt32 31)).toInt32 &&& (255 : Int32)) = 0 then
        (fX10_bytesIn_L5 n h l1 l2 (l3 + (-8 : Int32)))
      else
        fX10_bytesIn_L5 n h l1 (l2 + (1 : Int32)) (l3 + (-8 : Int32))
set_option maxRecDepth 20000 in
theorem fX10_bytesIn_L5_ok {h0 : eg_H} {Z : eg_C → State → Prop} {N S : Nat} : ∀ (n : Nat) (h : eg_H) (l1 : Int32) (l2 : Int32) (l3 : Int32) (eE : Int32 × eg_H), fX10_bytesIn_L5 n h l1 l2 l3 = some eE → (hk0 : ∀ (l2 : Int32) (h : eg_H), eE = (l2, h) → eg_AW (RX10, cX10_bytesIn, 4, 1, none, "bytesIn", (some .int)) Z N S h0 28 [(2, .int l2)] [] h) → eg_AW (RX10, cX10_bytesIn, 4, 1, none, "bytesIn", (some .int)) Z N S h0 5 [(1, .int l1), (2, .int l2), (3, .int l3)] [] h := by
  intro n
  induction n with
  | zero => intro h l1 l2 l3 eE hF; exact absurd hF (by intro q; cases q)
  | succ n ih =>
    intro h l1 l2 l3 eE hF hk0
    have hrec := fun (h' : eg_H) (l1 : Int32) (l2 : Int32) (l3 : Int32) hq => ih h' l1 l2 l3 eE hq hk0
    refine eg_iload_n (i := 3) 2 dX10_bytesIn_5 rfl rfl ?_
    refine eg_if_lt 28 dX10_bytesIn_6 rfl (fun c1 => ?_) (fun c1 => ?_)
    · replace hF := eg_it c1 hF
      exact eg_sub [1] [(2, .int l2)] rfl (hk0 l2 h (Option.some.inj hF).symm)
    · replace hF := eg_if c1 hF
      refine eg_iload_n (i := 1) 0 dX10_bytesIn_9 rfl rfl ?_
      refine eg_iload_n (i := 3) 2 dX10_bytesIn_10 rfl rfl ?_
      refine eg_iushr dX10_bytesIn_11 ?_
      refine eg_sipush (v := (255 : Int32)) dX10_bytesIn_12 (by decide) ?_
      refine eg_iand dX10_bytesIn_15 ?_
      refine eg_if_eq 22 dX10_bytesIn_16 rfl (fun c2 => ?_) (fun c2 => ?_)
      · replace hF := eg_it c2 hF
        refine eg_iinc (i := 3) (v := (l3 + (-8 : Int32))) 2 [(3, .int (l3 + (-8 : Int32))), (1, .int l1), (2, .int l2)] dX10_bytesIn_22 rfl rfl (Nat.le_of_ble_eq_true rfl) rfl ?_
        refine eg_goto 5 dX10_bytesIn_25 rfl ?_
        exact eg_sub [1, 2, 0] [(1, .int l1), (2, .int l2), (3, .int (l3 + (-8 : Int32)))] rfl (hrec h l1 l2 (l3 + (-8 : Int32)) hF)
      · replace hF := eg_if c2 hF
        refine eg_iinc (i := 2) (v := (l2 + (1 : Int32))) 1 [(2, .int (l2 + (1 : Int32))), (1, .int l1), (3, .int l3)] dX10_bytesIn_19 rfl rfl (Nat.le_of_ble_eq_true rfl) rfl ?_
        refine eg_iinc (i := 3) (v := (l3 + (-8 : Int32))) 2 [(3, .int (l3 + (-8 : Int32))), (2, .int (l2 + (1 : Int32))), (1, .int l1)] dX10_bytesIn_22 rfl rfl (Nat.le_of_ble_eq_true rfl) rfl ?_
        refine eg_goto 5 dX10_bytesIn_25 rfl ?_
        exact eg_sub [2, 1, 0] [(1, .int l1), (2, .int (l2 + (1 : Int32))), (3, .int (l3 + (-8 : Int32)))] rfl (hrec h l1 (l2 + (1 : Int32)) (l3 + (-8 : Int32)) hF)
def fX10_bytesIn (h : eg_H) (l0 : Nat) (l1 : Int32) : Option (Int32 × eg_H) :=
  if eg_isO h 10 l0 then (
    (fX10_bytesIn_L5 eg_F h l1 (0 : Int32) (24 : Int32)).bind fun e =>
    match e with
    | (v3, h4) =>
      some (v3, h4)) else none
theorem fX10_bytesIn_O {h : eg_H} {l0 : Nat} {l1 : Int32} {rE : Int32} {hE : eg_H} (hF : fX10_bytesIn h l0 l1 = some (rE, hE)) : eg_isO h 10 l0 := (eg_ifn hF).1
set_option maxRecDepth 20000 in
theorem mX10_bytesIn {h : eg_H} {l0 : Nat} {l1 : Int32} {rE : Int32} {hE : eg_H} (hF : fX10_bytesIn h l0 l1 = some (rE, hE)) : eg_Met yX10_bytesIn cX10_bytesIn 4 (some .int) 1 [.ref l0, .int l1] h (some (.int rE)) hE := by
  refine eg_enter rfl (Nat.le_of_ble_eq_true rfl) ?_
  show eg_AW (RX10, cX10_bytesIn, 4, 1, none, "bytesIn", (some .int)) (eg_Zm (some (.int rE)) hE h) (eg_nc hE) (eg_ns hE) h 0 [(0, .ref l0), (1, .int l1)] [] h
  replace hF := (eg_ifn hF).2
  refine eg_iconst (v := (0 : Int32)) dX10_bytesIn_0 (by decide) ?_
  refine eg_istore_n (i := 2) [(2, .int (0 : Int32)), (0, .ref l0), (1, .int l1)] dX10_bytesIn_1 rfl (Nat.le_of_ble_eq_true rfl) rfl ?_
  refine eg_bipush (v := (24 : Int32)) dX10_bytesIn_2 (by decide) ?_
  refine eg_istore_n (i := 3) [(3, .int (24 : Int32)), (2, .int (0 : Int32)), (0, .ref l0), (1, .int l1)] dX10_bytesIn_4 rfl (Nat.le_of_ble_eq_true rfl) rfl ?_
  replace hF := eg_bind hF; obtain ⟨x2, e1, hF⟩ := hF
  refine eg_sub [3, 1, 0] [(1, .int l1), (2, .int (0 : Int32)), (3, .int (24 : Int32))] rfl (fX10_bytesIn_L5_ok eg_F h l1 (0 : Int32) (24 : Int32) x2 e1 ?_)
  · intro v3 h4 e5
    subst e5
    refine eg_iload_n (i := 2) 0 dX10_bytesIn_28 rfl rfl ?_
    exact eg_iretE dX10_bytesIn_29 hF
theorem dX10_put_0 : decode cX10_put 0 = .ok (.bipush 24, 2) := by decide +kernel
theorem dX10_put_2 : decode cX10_put 2 = .ok (.istore_n 2, 1) := by decide +kernel
theorem dX10_put_3 : decode cX10_put 3 = .ok (.iload_n 2, 1) := by decide +kernel
theorem dX10_put_4 : decode cX10_put 4 = .ok (.ifCond .lt 53, 3) := by decide +kernel
theorem dX10_put_7 : decode cX10_put 7 = .ok (.iload_n 1, 1) := by decide +kernel
theorem dX10_put_8 : decode cX10_put 8 = .ok (.iload_n 2, 1) := by decide +kernel
theorem dX10_put_9 : decode cX10_put 9 = .ok (.iushr, 1) := by decide +kernel
theorem dX10_put_10 : decode cX10_put 10 = .ok (.sipush 255, 3) := by decide +kernel
theorem dX10_put_13 : decode cX10_put 13 = .ok (.iand, 1) := by decide +kernel
theorem dX10_put_14 : decode cX10_put 14 = .ok (.istore_n 3, 1) := by decide +kernel
theorem dX10_put_15 : decode cX10_put 15 = .ok (.iload_n 3, 1) := by decide +kernel
theorem dX10_put_16 : decode cX10_put 16 = .ok (.ifCond .eq 35, 3) := by decide +kernel
theorem dX10_put_19 : decode cX10_put 19 = .ok (.aload_n 0, 1) := by decide +kernel
theorem dX10_put_20 : decode cX10_put 20 = .ok (.getfield 15, 3) := by decide +kernel
theorem dX10_put_23 : decode cX10_put 23 = .ok (.aload_n 0, 1) := by decide +kernel
theorem dX10_put_24 : decode cX10_put 24 = .ok (.getfield 9, 3) := by decide +kernel
theorem dX10_put_27 : decode cX10_put 27 = .ok (.arraylength, 1) := by decide +kernel
theorem dX10_put_28 : decode cX10_put 28 = .ok (.if_icmp .ge 23, 3) := by decide +kernel
theorem dX10_put_31 : decode cX10_put 31 = .ok (.aload_n 0, 1) := by decide +kernel
theorem dX10_put_32 : decode cX10_put 32 = .ok (.getfield 9, 3) := by decide +kernel
theorem dX10_put_35 : decode cX10_put 35 = .ok (.aload_n 0, 1) := by decide +kernel
theorem dX10_put_36 : decode cX10_put 36 = .ok (.getfield 15, 3) := by decide +kernel
theorem dX10_put_39 : decode cX10_put 39 = .ok (.iload_n 3, 1) := by decide +kernel
theorem dX10_put_40 : decode cX10_put 40 = .ok (.iastore, 1) := by decide +kernel
theorem dX10_put_41 : decode cX10_put 41 = .ok (.aload_n 0, 1) := by decide +kernel
theorem dX10_put_42 : decode cX10_put 42 = .ok (.dup, 1) := by decide +kernel
theorem dX10_put_43 : decode cX10_put 43 = .ok (.getfield 15, 3) := by decide +kernel
theorem dX10_put_46 : decode cX10_put 46 = .ok (.iconst 1, 1) := by decide +kernel
theorem dX10_put_47 : decode cX10_put 47 = .ok (.iadd, 1) := by decide +kernel
theorem dX10_put_48 : decode cX10_put 48 = .ok (.putfield 15, 3) := by decide +kernel
theorem dX10_put_51 : decode cX10_put 51 = .ok (.iinc 2 (-8), 3) := by decide +kernel
theorem dX10_put_54 : decode cX10_put 54 = .ok (.goto (-51), 3) := by decide +kernel
theorem dX10_put_57 : decode cX10_put 57 = .ok (.return_, 1) := by decide +kernel
def fX10_put_L3 : Nat → eg_H → Nat → Int32 → Int32 → Option (eg_H)
  | 0, _, _, _, _ => none
  | n + 1, h, l0, l1, l2 =>
    if l2 < 0 then
      (some h)
    else
      (some (((l1.toUInt32 >>> (l2.toUInt32 &&& Int32.toUInt32 31)).toInt32 &&& (255 : Int32)))).bind fun v2 =>
      if v2 = 0 then
        (fX10_put_L3 n h l0 l1 (l2 + (-8 : Int32)))
      else
        (eg_gI h 10 1 l0).bind fun v5 =>
        (eg_gR h 10 0 l0).bind fun p7 =>
        (eg_al h p7).bind fun v9 =>
        if v9 ≤ v5 then
          (fX10_put_L3 n h l0 l1 (l2 + (-8 : Int32)))
        else
          (eg_gR h 10 0 l0).bind fun p12 =>
          (eg_gI h 10 1 l0).bind fun v14 =>
          (eg_wI h 100 p12 v14 v2).bind fun h16 =>
          (eg_gI h16 10 1 l0).bind fun v18 =>
          (eg_pI h16 10 1 l0 (v18 + (1 : Int32))).bind fun h20 =>
          fX10_put_L3 n h20 l0 l1 (l2 + (-8 : Int32))
set_option maxRecDepth 20000 in
theorem fX10_put_L3_ok {h0 : eg_H} {Z : eg_C → State → Prop} {N S : Nat} : ∀ (n : Nat) (h : eg_H) (l0 : Nat) (l1 : Int32) (l2 : Int32) (eE : eg_H), fX10_put_L3 n h l0 l1 l2 = some eE → (hk0 : ∀  (h : eg_H), eE = h → eg_AW (RX10, cX10_put, 4, 1, none, "put", none) Z N S h0 57 [] [] h) → eg_AW (RX10, cX10_put, 4, 1, none, "put", none) Z N S h0 3 [(0, .ref l0), (1, .int l1), (2, .int l2)] [] h := by
  intro n
  induction n with
  | zero => intro h l0 l1 l2 eE hF; exact absurd hF (by intro q; cases q)
  | succ n ih =>
    intro h l0 l1 l2 eE hF hk0
    have hrec := fun (h' : eg_H) (l0 : Nat) (l1 : Int32) (l2 : Int32) hq => ih h' l0 l1 l2 eE hq hk0
    refine eg_iload_n (i := 2) 2 dX10_put_3 rfl rfl ?_
    refine eg_if_lt 57 dX10_put_4 rfl (fun c1 => ?_) (fun c1 => ?_)
    · replace hF := eg_it c1 hF
      exact eg_sub [] [] rfl (hk0 h (Option.some.inj hF).symm)
    · replace hF := eg_if c1 hF
      refine eg_iload_n (i := 1) 1 dX10_put_7 rfl rfl ?_
      refine eg_iload_n (i := 2) 2 dX10_put_8 rfl rfl ?_
      refine eg_iushr dX10_put_9 ?_
      refine eg_sipush (v := (255 : Int32)) dX10_put_10 (by decide) ?_
      refine eg_iand dX10_put_13 ?_
      replace hF := eg_bind hF; obtain ⟨v2, e3, hF⟩ := hF
      replace e3 := Option.some.inj e3
      rw [e3]
      refine eg_istore_n (i := 3) [(3, .int v2), (0, .ref l0), (1, .int l1), (2, .int l2)] dX10_put_14 rfl (Nat.le_of_ble_eq_true rfl) rfl ?_
      refine eg_iload_n (i := 3) 0 dX10_put_15 rfl rfl ?_
      refine eg_if_eq 51 dX10_put_16 rfl (fun c4 => ?_) (fun c4 => ?_)
      · replace hF := eg_it c4 hF
        refine eg_iinc (i := 2) (v := (l2 + (-8 : Int32))) 3 [(2, .int (l2 + (-8 : Int32))), (3, .int v2), (0, .ref l0), (1, .int l1)] dX10_put_51 rfl rfl (Nat.le_of_ble_eq_true rfl) rfl ?_
        refine eg_goto 3 dX10_put_54 rfl ?_
        exact eg_sub [2, 3, 0] [(0, .ref l0), (1, .int l1), (2, .int (l2 + (-8 : Int32)))] rfl (hrec h l0 l1 (l2 + (-8 : Int32)) hF)
      · replace hF := eg_if c4 hF
        refine eg_aload_n (i := 0) 1 dX10_put_19 rfl rfl ?_
        replace hF := eg_bind hF; obtain ⟨v5, e6, hF⟩ := hF
        refine eg_getI dX10_put_20 e6 (Nat.le_of_ble_eq_true rfl) (Nat.le_of_ble_eq_true rfl) rfl ew_141 ?_
        refine eg_aload_n (i := 0) 1 dX10_put_23 rfl rfl ?_
        replace hF := eg_bind hF; obtain ⟨p7, e8, hF⟩ := hF
        refine eg_getR dX10_put_24 e8 (Nat.le_of_ble_eq_true rfl) (Nat.le_of_ble_eq_true rfl) rfl ew_140 ?_
        replace hF := eg_bind hF; obtain ⟨v9, e10, hF⟩ := hF
        refine eg_alen dX10_put_27 e10 ?_
        refine eg_ic_ge 51 dX10_put_28 rfl (fun c11 => ?_) (fun c11 => ?_)
        · replace hF := eg_it c11 hF
          refine eg_iinc (i := 2) (v := (l2 + (-8 : Int32))) 3 [(2, .int (l2 + (-8 : Int32))), (3, .int v2), (0, .ref l0), (1, .int l1)] dX10_put_51 rfl rfl (Nat.le_of_ble_eq_true rfl) rfl ?_
          refine eg_goto 3 dX10_put_54 rfl ?_
          exact eg_sub [2, 3, 0] [(0, .ref l0), (1, .int l1), (2, .int (l2 + (-8 : Int32)))] rfl (hrec h l0 l1 (l2 + (-8 : Int32)) hF)
        · replace hF := eg_if c11 hF
          refine eg_aload_n (i := 0) 1 dX10_put_31 rfl rfl ?_
          replace hF := eg_bind hF; obtain ⟨p12, e13, hF⟩ := hF
          refine eg_getR dX10_put_32 e13 (Nat.le_of_ble_eq_true rfl) (Nat.le_of_ble_eq_true rfl) rfl ew_140 ?_
          refine eg_aload_n (i := 0) 1 dX10_put_35 rfl rfl ?_
          replace hF := eg_bind hF; obtain ⟨v14, e15, hF⟩ := hF
          refine eg_getI dX10_put_36 e15 (Nat.le_of_ble_eq_true rfl) (Nat.le_of_ble_eq_true rfl) rfl ew_141 ?_
          refine eg_iload_n (i := 3) 0 dX10_put_39 rfl rfl ?_
          replace hF := eg_bind hF; obtain ⟨h16, e17, hF⟩ := hF
          refine eg_iast dX10_put_40 e17 ?_
          refine eg_aload_n (i := 0) 1 dX10_put_41 rfl rfl ?_
          refine eg_dup dX10_put_42 rfl ?_
          replace hF := eg_bind hF; obtain ⟨v18, e19, hF⟩ := hF
          refine eg_getI dX10_put_43 e19 (Nat.le_of_ble_eq_true rfl) (Nat.le_of_ble_eq_true rfl) rfl ew_141 ?_
          refine eg_iconst (v := (1 : Int32)) dX10_put_46 (by decide) ?_
          refine eg_iadd dX10_put_47 ?_
          replace hF := eg_bind hF; obtain ⟨h20, e21, hF⟩ := hF
          refine eg_putI dX10_put_48 e21 (Nat.le_of_ble_eq_true rfl) (Nat.le_of_ble_eq_true rfl) rfl ew_141 (Or.inl rfl) ?_
          refine eg_iinc (i := 2) (v := (l2 + (-8 : Int32))) 3 [(2, .int (l2 + (-8 : Int32))), (3, .int v2), (0, .ref l0), (1, .int l1)] dX10_put_51 rfl rfl (Nat.le_of_ble_eq_true rfl) rfl ?_
          refine eg_goto 3 dX10_put_54 rfl ?_
          exact eg_sub [2, 3, 0] [(0, .ref l0), (1, .int l1), (2, .int (l2 + (-8 : Int32)))] rfl (hrec h20 l0 l1 (l2 + (-8 : Int32)) hF)
def fX10_put (h : eg_H) (l0 : Nat) (l1 : Int32) : Option (eg_H) :=
  if eg_isO h 10 l0 then (
    (fX10_put_L3 eg_F h l0 l1 (24 : Int32)).bind fun e =>
    match e with
    | h3 =>
      some h3) else none
theorem fX10_put_O {h : eg_H} {l0 : Nat} {l1 : Int32} {hE : eg_H} (hF : fX10_put h l0 l1 = some hE) : eg_isO h 10 l0 := (eg_ifn hF).1
set_option maxRecDepth 20000 in
theorem mX10_put {h : eg_H} {l0 : Nat} {l1 : Int32} {hE : eg_H} (hF : fX10_put h l0 l1 = some hE) : eg_Met yX10_put cX10_put 4 none 1 [.ref l0, .int l1] h none hE := by
  refine eg_enter rfl (Nat.le_of_ble_eq_true rfl) ?_
  show eg_AW (RX10, cX10_put, 4, 1, none, "put", none) (eg_Zm none hE h) (eg_nc hE) (eg_ns hE) h 0 [(0, .ref l0), (1, .int l1)] [] h
  replace hF := (eg_ifn hF).2
  refine eg_bipush (v := (24 : Int32)) dX10_put_0 (by decide) ?_
  refine eg_istore_n (i := 2) [(2, .int (24 : Int32)), (0, .ref l0), (1, .int l1)] dX10_put_2 rfl (Nat.le_of_ble_eq_true rfl) rfl ?_
  replace hF := eg_bind hF; obtain ⟨x2, e1, hF⟩ := hF
  refine eg_sub [1, 2, 0] [(0, .ref l0), (1, .int l1), (2, .int (24 : Int32))] rfl (fX10_put_L3_ok eg_F h l0 l1 (24 : Int32) x2 e1 ?_)
  · intro h3 e4
    subst e4
    exact eg_vretE dX10_put_57 hF
theorem dX10_cut_0 : decode cX10_cut 0 = .ok (.aload_n 0, 1) := by decide +kernel
theorem dX10_cut_1 : decode cX10_cut 1 = .ok (.iload_n 1, 1) := by decide +kernel
theorem dX10_cut_2 : decode cX10_cut 2 = .ok (.putfield 15, 3) := by decide +kernel
theorem dX10_cut_5 : decode cX10_cut 5 = .ok (.return_, 1) := by decide +kernel
def fX10_cut (h : eg_H) (l0 : Nat) (l1 : Int32) : Option (eg_H) :=
  if eg_isO h 10 l0 then (
    (eg_pI h 10 1 l0 l1).bind fun h1 =>
    some h1) else none
theorem fX10_cut_O {h : eg_H} {l0 : Nat} {l1 : Int32} {hE : eg_H} (hF : fX10_cut h l0 l1 = some hE) : eg_isO h 10 l0 := (eg_ifn hF).1
set_option maxRecDepth 20000 in
theorem mX10_cut {h : eg_H} {l0 : Nat} {l1 : Int32} {hE : eg_H} (hF : fX10_cut h l0 l1 = some hE) : eg_Met yX10_cut cX10_cut 2 none 1 [.ref l0, .int l1] h none hE := by
  refine eg_enter rfl (Nat.le_of_ble_eq_true rfl) ?_
  show eg_AW (RX10, cX10_cut, 2, 1, none, "cut", none) (eg_Zm none hE h) (eg_nc hE) (eg_ns hE) h 0 [(0, .ref l0), (1, .int l1)] [] h
  replace hF := (eg_ifn hF).2
  refine eg_aload_n (i := 0) 0 dX10_cut_0 rfl rfl ?_
  refine eg_iload_n (i := 1) 1 dX10_cut_1 rfl rfl ?_
  replace hF := eg_bind hF; obtain ⟨h1, e2, hF⟩ := hF
  refine eg_putI dX10_cut_2 e2 (Nat.le_of_ble_eq_true rfl) (Nat.le_of_ble_eq_true rfl) rfl ew_141 (Or.inl rfl) ?_
  exact eg_vretE dX10_cut_5 hF
theorem dX10_readFrames_0 : decode cX10_readFrames 0 = .ok (.aload_n 0, 1) := by decide +kernel
theorem dX10_readFrames_1 : decode cX10_readFrames 1 = .ok (.invokevirtual 39, 3) := by decide +kernel
theorem dX10_readFrames_4 : decode cX10_readFrames 4 = .ok (.iconst 0, 1) := by decide +kernel
theorem dX10_readFrames_5 : decode cX10_readFrames 5 = .ok (.istore_n 1, 1) := by decide +kernel
theorem dX10_readFrames_6 : decode cX10_readFrames 6 = .ok (.iload_n 1, 1) := by decide +kernel
theorem dX10_readFrames_7 : decode cX10_readFrames 7 = .ok (.bipush 24, 2) := by decide +kernel
theorem dX10_readFrames_9 : decode cX10_readFrames 9 = .ok (.if_icmp .ge 20, 3) := by decide +kernel
theorem dX10_readFrames_12 : decode cX10_readFrames 12 = .ok (.aload_n 0, 1) := by decide +kernel
theorem dX10_readFrames_13 : decode cX10_readFrames 13 = .ok (.invokevirtual 42, 3) := by decide +kernel
theorem dX10_readFrames_16 : decode cX10_readFrames 16 = .ok (.ifCond .eq 13, 3) := by decide +kernel
theorem dX10_readFrames_19 : decode cX10_readFrames 19 = .ok (.aload_n 0, 1) := by decide +kernel
theorem dX10_readFrames_20 : decode cX10_readFrames 20 = .ok (.invokevirtual 46, 3) := by decide +kernel
theorem dX10_readFrames_23 : decode cX10_readFrames 23 = .ok (.iinc 1 1, 3) := by decide +kernel
theorem dX10_readFrames_26 : decode cX10_readFrames 26 = .ok (.goto (-20), 3) := by decide +kernel
theorem dX10_readFrames_29 : decode cX10_readFrames 29 = .ok (.iload_n 1, 1) := by decide +kernel
theorem dX10_readFrames_30 : decode cX10_readFrames 30 = .ok (.ifCond .eq 10, 3) := by decide +kernel
theorem dX10_readFrames_33 : decode cX10_readFrames 33 = .ok (.aload_n 0, 1) := by decide +kernel
theorem dX10_readFrames_34 : decode cX10_readFrames 34 = .ok (.getfield 22, 3) := by decide +kernel
theorem dX10_readFrames_37 : decode cX10_readFrames 37 = .ok (.ifCond .eq 11, 3) := by decide +kernel
theorem dX10_readFrames_40 : decode cX10_readFrames 40 = .ok (.aload_n 0, 1) := by decide +kernel
theorem dX10_readFrames_41 : decode cX10_readFrames 41 = .ok (.aload_n 0, 1) := by decide +kernel
theorem dX10_readFrames_42 : decode cX10_readFrames 42 = .ok (.getfield 19, 3) := by decide +kernel
theorem dX10_readFrames_45 : decode cX10_readFrames 45 = .ok (.invokevirtual 31, 3) := by decide +kernel
theorem dX10_readFrames_48 : decode cX10_readFrames 48 = .ok (.aload_n 0, 1) := by decide +kernel
theorem dX10_readFrames_49 : decode cX10_readFrames 49 = .ok (.getfield 25, 3) := by decide +kernel
theorem dX10_readFrames_52 : decode cX10_readFrames 52 = .ok (.ireturn, 1) := by decide +kernel
def fX10_readFrames_L6 : Nat → eg_H → Nat → Int32 → Option (Nat × Int32 × eg_H)
  | 0, _, _, _ => none
  | n + 1, h, l0, l1 =>
    if (24 : Int32) ≤ l1 then
      (some (l0, l1, h))
    else
      (fX10_isDigit h l0).bind fun ⟨v3, h2⟩ =>
      if v3 = 0 then
        (some (l0, l1, h2))
      else
        (fX10_step h2 l0).bind fun h6 =>
        fX10_readFrames_L6 n h6 l0 (l1 + (1 : Int32))
set_option maxRecDepth 20000 in
theorem fX10_readFrames_L6_ok {h0 : eg_H} {Z : eg_C → State → Prop} {N S : Nat} : ∀ (n : Nat) (h : eg_H) (l0 : Nat) (l1 : Int32) (eE : Nat × Int32 × eg_H), fX10_readFrames_L6 n h l0 l1 = some eE → (hk0 : ∀ (l0 : Nat) (l1 : Int32) (h : eg_H), eE = (l0, l1, h) → eg_AW (RX10, cX10_readFrames, 2, 3, none, "readFrames", (some .int)) Z N S h0 29 [(0, .ref l0), (1, .int l1)] [] h) → eg_AW (RX10, cX10_readFrames, 2, 3, none, "readFrames", (some .int)) Z N S h0 6 [(0, .ref l0), (1, .int l1)] [] h := by
  intro n
  induction n with
  | zero => intro h l0 l1 eE hF; exact absurd hF (by intro q; cases q)
  | succ n ih =>
    intro h l0 l1 eE hF hk0
    have hrec := fun (h' : eg_H) (l0 : Nat) (l1 : Int32) hq => ih h' l0 l1 eE hq hk0
    refine eg_iload_n (i := 1) 1 dX10_readFrames_6 rfl rfl ?_
    refine eg_bipush (v := (24 : Int32)) dX10_readFrames_7 (by decide) ?_
    refine eg_ic_ge 29 dX10_readFrames_9 rfl (fun c1 => ?_) (fun c1 => ?_)
    · replace hF := eg_it c1 hF
      exact (hk0 l0 l1 h (Option.some.inj hF).symm)
    · replace hF := eg_if c1 hF
      refine eg_aload_n (i := 0) 0 dX10_readFrames_12 rfl rfl ?_
      replace hF := eg_bind hF; obtain ⟨⟨v3, h2⟩, e4, hF⟩ := hF
      refine eg_callV (c := 10) (n := 0) [] dX10_readFrames_13 (mX10_isDigit e4) rfl (fX10_isDigit_O e4) (Nat.le_of_ble_eq_true rfl) rfl ew_583 ew_541 ew_542 ew_101 ew_543 hy_X10_isDigit rfl (Nat.le_of_ble_eq_true rfl) (Nat.le_of_ble_eq_true rfl) (Nat.le_of_ble_eq_true rfl) ?_
      refine eg_if_eq 29 dX10_readFrames_16 rfl (fun c5 => ?_) (fun c5 => ?_)
      · replace hF := eg_it c5 hF
        exact (hk0 l0 l1 h2 (Option.some.inj hF).symm)
      · replace hF := eg_if c5 hF
        refine eg_aload_n (i := 0) 0 dX10_readFrames_19 rfl rfl ?_
        replace hF := eg_bind hF; obtain ⟨h6, e7, hF⟩ := hF
        refine eg_callV (c := 10) (n := 0) [] dX10_readFrames_20 (mX10_step e7) rfl (fX10_step_O e7) (Nat.le_of_ble_eq_true rfl) rfl ew_584 ew_477 ew_478 ew_101 ew_479 hy_X10_step rfl (Nat.le_of_ble_eq_true rfl) (Nat.le_of_ble_eq_true rfl) (Nat.le_of_ble_eq_true rfl) ?_
        refine eg_iinc (i := 1) (v := (l1 + (1 : Int32))) 1 [(1, .int (l1 + (1 : Int32))), (0, .ref l0)] dX10_readFrames_23 rfl rfl (Nat.le_of_ble_eq_true rfl) rfl ?_
        refine eg_goto 6 dX10_readFrames_26 rfl ?_
        exact eg_sub [1, 0] [(0, .ref l0), (1, .int (l1 + (1 : Int32)))] rfl (hrec h6 l0 (l1 + (1 : Int32)) hF)
def fX10_readFrames_j29 (h : eg_H) (l0 : Nat) (l1 : Int32) : Option (Int32 × eg_H) :=
  if l1 = 0 then
    ((eg_gI h 10 2 l0).bind fun v2 =>
    (fX10_markWrong h l0 v2).bind fun h4 =>
    (eg_gI h4 10 4 l0).bind fun v6 =>
    some (v6, h4))
  else
    (eg_gI h 10 3 l0).bind fun v8 =>
    if v8 = 0 then
      ((eg_gI h 10 4 l0).bind fun v11 =>
      some (v11, h))
    else
      (eg_gI h 10 2 l0).bind fun v13 =>
      (fX10_markWrong h l0 v13).bind fun h15 =>
      (eg_gI h15 10 4 l0).bind fun v17 =>
      some (v17, h15)
set_option maxRecDepth 20000 in
theorem fX10_readFrames_j29_ok {h0 : eg_H} (h : eg_H) (l0 : Nat) (l1 : Int32) {rE : Int32} {hE : eg_H} (hF : fX10_readFrames_j29 h l0 l1 = some (rE, hE)) : eg_AW (RX10, cX10_readFrames, 2, 3, none, "readFrames", (some .int)) (eg_Zm (some (.int rE)) hE h0) (eg_nc hE) (eg_ns hE) h0 29 [(0, .ref l0), (1, .int l1)] [] h := by
  refine eg_iload_n (i := 1) 1 dX10_readFrames_29 rfl rfl ?_
  refine eg_if_eq 40 dX10_readFrames_30 rfl (fun c1 => ?_) (fun c1 => ?_)
  · replace hF := eg_it c1 hF
    refine eg_aload_n (i := 0) 0 dX10_readFrames_40 rfl rfl ?_
    refine eg_aload_n (i := 0) 0 dX10_readFrames_41 rfl rfl ?_
    replace hF := eg_bind hF; obtain ⟨v2, e3, hF⟩ := hF
    refine eg_getI dX10_readFrames_42 e3 (Nat.le_of_ble_eq_true rfl) (Nat.le_of_ble_eq_true rfl) rfl ew_142 ?_
    replace hF := eg_bind hF; obtain ⟨h4, e5, hF⟩ := hF
    refine eg_callV (c := 10) (n := 1) [.int v2] dX10_readFrames_45 (mX10_markWrong e5) rfl (fX10_markWrong_O e5) (Nat.le_of_ble_eq_true rfl) rfl ew_498 ew_500 ew_6 ew_101 ew_501 hy_X10_markWrong rfl (Nat.le_of_ble_eq_true rfl) (Nat.le_of_ble_eq_true rfl) (Nat.le_of_ble_eq_true rfl) ?_
    refine eg_aload_n (i := 0) 0 dX10_readFrames_48 rfl rfl ?_
    replace hF := eg_bind hF; obtain ⟨v6, e7, hF⟩ := hF
    refine eg_getI dX10_readFrames_49 e7 (Nat.le_of_ble_eq_true rfl) (Nat.le_of_ble_eq_true rfl) rfl ew_144 ?_
    exact eg_iretE dX10_readFrames_52 hF
  · replace hF := eg_if c1 hF
    refine eg_aload_n (i := 0) 0 dX10_readFrames_33 rfl rfl ?_
    replace hF := eg_bind hF; obtain ⟨v8, e9, hF⟩ := hF
    refine eg_getI dX10_readFrames_34 e9 (Nat.le_of_ble_eq_true rfl) (Nat.le_of_ble_eq_true rfl) rfl ew_143 ?_
    refine eg_if_eq 48 dX10_readFrames_37 rfl (fun c10 => ?_) (fun c10 => ?_)
    · replace hF := eg_it c10 hF
      refine eg_aload_n (i := 0) 0 dX10_readFrames_48 rfl rfl ?_
      replace hF := eg_bind hF; obtain ⟨v11, e12, hF⟩ := hF
      refine eg_getI dX10_readFrames_49 e12 (Nat.le_of_ble_eq_true rfl) (Nat.le_of_ble_eq_true rfl) rfl ew_144 ?_
      exact eg_iretE dX10_readFrames_52 hF
    · replace hF := eg_if c10 hF
      refine eg_aload_n (i := 0) 0 dX10_readFrames_40 rfl rfl ?_
      refine eg_aload_n (i := 0) 0 dX10_readFrames_41 rfl rfl ?_
      replace hF := eg_bind hF; obtain ⟨v13, e14, hF⟩ := hF
      refine eg_getI dX10_readFrames_42 e14 (Nat.le_of_ble_eq_true rfl) (Nat.le_of_ble_eq_true rfl) rfl ew_142 ?_
      replace hF := eg_bind hF; obtain ⟨h15, e16, hF⟩ := hF
      refine eg_callV (c := 10) (n := 1) [.int v13] dX10_readFrames_45 (mX10_markWrong e16) rfl (fX10_markWrong_O e16) (Nat.le_of_ble_eq_true rfl) rfl ew_498 ew_500 ew_6 ew_101 ew_501 hy_X10_markWrong rfl (Nat.le_of_ble_eq_true rfl) (Nat.le_of_ble_eq_true rfl) (Nat.le_of_ble_eq_true rfl) ?_
      refine eg_aload_n (i := 0) 0 dX10_readFrames_48 rfl rfl ?_
      replace hF := eg_bind hF; obtain ⟨v17, e18, hF⟩ := hF
      refine eg_getI dX10_readFrames_49 e18 (Nat.le_of_ble_eq_true rfl) (Nat.le_of_ble_eq_true rfl) rfl ew_144 ?_
      exact eg_iretE dX10_readFrames_52 hF
def fX10_readFrames (h : eg_H) (l0 : Nat) : Option (Int32 × eg_H) :=
  if eg_isO h 10 l0 then (
    (fX10_rewind h l0).bind fun h1 =>
    (fX10_readFrames_L6 eg_F h1 l0 (0 : Int32)).bind fun e =>
    match e with
    | (p5, v6, h7) =>
      fX10_readFrames_j29 h7 p5 v6) else none
theorem fX10_readFrames_O {h : eg_H} {l0 : Nat} {rE : Int32} {hE : eg_H} (hF : fX10_readFrames h l0 = some (rE, hE)) : eg_isO h 10 l0 := (eg_ifn hF).1
set_option maxRecDepth 20000 in
theorem mX10_readFrames {h : eg_H} {l0 : Nat} {rE : Int32} {hE : eg_H} (hF : fX10_readFrames h l0 = some (rE, hE)) : eg_Met yX10_readFrames cX10_readFrames 2 (some .int) 3 [.ref l0] h (some (.int rE)) hE := by
  refine eg_enter rfl (Nat.le_of_ble_eq_true rfl) ?_
  show eg_AW (RX10, cX10_readFrames, 2, 3, none, "readFrames", (some .int)) (eg_Zm (some (.int rE)) hE h) (eg_nc hE) (eg_ns hE) h 0 [(0, .ref l0)] [] h
  replace hF := (eg_ifn hF).2
  refine eg_aload_n (i := 0) 0 dX10_readFrames_0 rfl rfl ?_
  replace hF := eg_bind hF; obtain ⟨h1, e2, hF⟩ := hF
  refine eg_callV (c := 10) (n := 0) [] dX10_readFrames_1 (mX10_rewind e2) rfl (fX10_rewind_O e2) (Nat.le_of_ble_eq_true rfl) rfl ew_582 ew_457 ew_458 ew_101 ew_459 hy_X10_rewind rfl (Nat.le_of_ble_eq_true rfl) (Nat.le_of_ble_eq_true rfl) (Nat.le_of_ble_eq_true rfl) ?_
  refine eg_iconst (v := (0 : Int32)) dX10_readFrames_4 (by decide) ?_
  refine eg_istore_n (i := 1) [(1, .int (0 : Int32)), (0, .ref l0)] dX10_readFrames_5 rfl (Nat.le_of_ble_eq_true rfl) rfl ?_
  replace hF := eg_bind hF; obtain ⟨x4, e3, hF⟩ := hF
  refine eg_sub [1, 0] [(0, .ref l0), (1, .int (0 : Int32))] rfl (fX10_readFrames_L6_ok eg_F h1 l0 (0 : Int32) x4 e3 ?_)
  · intro p5 v6 h7 e8
    subst e8
    exact (fX10_readFrames_j29_ok h7 p5 v6 hF)
theorem dX11_init_0 : decode cX11_init 0 = .ok (.aload_n 0, 1) := by decide +kernel
theorem dX11_init_1 : decode cX11_init 1 = .ok (.invokespecial 3, 3) := by decide +kernel
theorem dX11_init_4 : decode cX11_init 4 = .ok (.aload_n 0, 1) := by decide +kernel
theorem dX11_init_5 : decode cX11_init 5 = .ok (.bipush 10, 2) := by decide +kernel
theorem dX11_init_7 : decode cX11_init 7 = .ok (.newarray .int, 2) := by decide +kernel
theorem dX11_init_9 : decode cX11_init 9 = .ok (.putfield 9, 3) := by decide +kernel
theorem dX11_init_12 : decode cX11_init 12 = .ok (.aload_n 0, 1) := by decide +kernel
theorem dX11_init_13 : decode cX11_init 13 = .ok (.aconst_null, 1) := by decide +kernel
theorem dX11_init_14 : decode cX11_init 14 = .ok (.putfield 15, 3) := by decide +kernel
theorem dX11_init_17 : decode cX11_init 17 = .ok (.aload_n 0, 1) := by decide +kernel
theorem dX11_init_18 : decode cX11_init 18 = .ok (.iconst 0, 1) := by decide +kernel
theorem dX11_init_19 : decode cX11_init 19 = .ok (.putfield 19, 3) := by decide +kernel
theorem dX11_init_22 : decode cX11_init 22 = .ok (.aload_n 0, 1) := by decide +kernel
theorem dX11_init_23 : decode cX11_init 23 = .ok (.iconst 0, 1) := by decide +kernel
theorem dX11_init_24 : decode cX11_init 24 = .ok (.putfield 23, 3) := by decide +kernel
theorem dX11_init_27 : decode cX11_init 27 = .ok (.aload_n 0, 1) := by decide +kernel
theorem dX11_init_28 : decode cX11_init 28 = .ok (.iconst 0, 1) := by decide +kernel
theorem dX11_init_29 : decode cX11_init 29 = .ok (.putfield 26, 3) := by decide +kernel
theorem dX11_init_32 : decode cX11_init 32 = .ok (.aload_n 0, 1) := by decide +kernel
theorem dX11_init_33 : decode cX11_init 33 = .ok (.iconst 0, 1) := by decide +kernel
theorem dX11_init_34 : decode cX11_init 34 = .ok (.putfield 29, 3) := by decide +kernel
theorem dX11_init_37 : decode cX11_init 37 = .ok (.aload_n 0, 1) := by decide +kernel
theorem dX11_init_38 : decode cX11_init 38 = .ok (.iconst 0, 1) := by decide +kernel
theorem dX11_init_39 : decode cX11_init 39 = .ok (.putfield 32, 3) := by decide +kernel
theorem dX11_init_42 : decode cX11_init 42 = .ok (.aload_n 0, 1) := by decide +kernel
theorem dX11_init_43 : decode cX11_init 43 = .ok (.iconst 0, 1) := by decide +kernel
theorem dX11_init_44 : decode cX11_init 44 = .ok (.putfield 35, 3) := by decide +kernel
theorem dX11_init_47 : decode cX11_init 47 = .ok (.aload_n 0, 1) := by decide +kernel
theorem dX11_init_48 : decode cX11_init 48 = .ok (.lconst 0, 1) := by decide +kernel
theorem dX11_init_49 : decode cX11_init 49 = .ok (.putfield 38, 3) := by decide +kernel
theorem dX11_init_52 : decode cX11_init 52 = .ok (.aload_n 0, 1) := by decide +kernel
theorem dX11_init_53 : decode cX11_init 53 = .ok (.aload_n 1, 1) := by decide +kernel
theorem dX11_init_54 : decode cX11_init 54 = .ok (.putfield 42, 3) := by decide +kernel
theorem dX11_init_57 : decode cX11_init 57 = .ok (.return_, 1) := by decide +kernel
def fX11_init (h : eg_H) (l0 : Nat) (l1 : Nat) : Option (eg_H) :=
  (eg_na h 100 (10 : Int32)).bind fun h2 =>
  (some (eg_nc h)).bind fun p1 =>
  (eg_pP h2 11 1 l0 (some p1)).bind fun h5 =>
  (eg_pP h5 11 2 l0 none).bind fun h7 =>
  (eg_pI h7 11 3 l0 (0 : Int32)).bind fun h9 =>
  (eg_pI h9 11 4 l0 (0 : Int32)).bind fun h11 =>
  (eg_pI h11 11 5 l0 (0 : Int32)).bind fun h13 =>
  (eg_pI h13 11 6 l0 (0 : Int32)).bind fun h15 =>
  (eg_pI h15 11 7 l0 (0 : Int32)).bind fun h17 =>
  (eg_pI h17 11 8 l0 (0 : Int32)).bind fun h19 =>
  (eg_pL h19 11 9 l0 (0 : Int64)).bind fun h21 =>
  (eg_pP h21 11 0 l0 (some l1)).bind fun h23 =>
  some h23
set_option maxRecDepth 20000 in
theorem mX11_init {h : eg_H} {l0 : Nat} {l1 : Nat} {hE : eg_H} (hF : fX11_init h l0 l1 = some hE) : eg_Met yX11_init cX11_init 2 none 1 [.ref l0, .ref l1] h none hE := by
  refine eg_enter rfl (Nat.le_of_ble_eq_true rfl) ?_
  show eg_AW (RX11, cX11_init, 2, 1, none, "<init>", none) (eg_Zm none hE h) (eg_nc hE) (eg_ns hE) h 0 [(0, .ref l0), (1, .ref l1)] [] h
  refine eg_aload_n (i := 0) 0 dX11_init_0 rfl rfl ?_
  refine eg_objInit dX11_init_1 ew_236 (Nat.le_of_ble_eq_true rfl) (Nat.le_of_ble_eq_true rfl) ?_
  refine eg_aload_n (i := 0) 0 dX11_init_4 rfl rfl ?_
  refine eg_bipush (v := (10 : Int32)) dX11_init_5 (by decide) ?_
  replace hF := eg_bind hF; obtain ⟨h2, e3, hF⟩ := hF
  replace hF := eg_bind hF; obtain ⟨p1, e4, hF⟩ := hF
  refine eg_newa .int dX11_init_7 e3 0 (Nat.le_of_ble_eq_true rfl) (Nat.le_of_ble_eq_true rfl) (Nat.le_of_ble_eq_true rfl) (fun _ => rfl) (by decide) rfl ew_156 ?_
  replace e4 := Option.some.inj e4
  rw [e4]
  replace hF := eg_bind hF; obtain ⟨h5, e6, hF⟩ := hF
  refine eg_putR dX11_init_9 e6 (Nat.le_of_ble_eq_true rfl) (Nat.le_of_ble_eq_true rfl) rfl ew_238 (Or.inr ⟨rfl, rfl, rfl⟩) ?_
  refine eg_aload_n (i := 0) 0 dX11_init_12 rfl rfl ?_
  refine eg_null dX11_init_13 ?_
  replace hF := eg_bind hF; obtain ⟨h7, e8, hF⟩ := hF
  refine eg_putP dX11_init_14 e8 (Nat.le_of_ble_eq_true rfl) (Nat.le_of_ble_eq_true rfl) rfl ew_239 (Or.inl rfl) ?_
  refine eg_aload_n (i := 0) 0 dX11_init_17 rfl rfl ?_
  refine eg_iconst (v := (0 : Int32)) dX11_init_18 (by decide) ?_
  replace hF := eg_bind hF; obtain ⟨h9, e10, hF⟩ := hF
  refine eg_putI dX11_init_19 e10 (Nat.le_of_ble_eq_true rfl) (Nat.le_of_ble_eq_true rfl) rfl ew_240 (Or.inl rfl) ?_
  refine eg_aload_n (i := 0) 0 dX11_init_22 rfl rfl ?_
  refine eg_iconst (v := (0 : Int32)) dX11_init_23 (by decide) ?_
  replace hF := eg_bind hF; obtain ⟨h11, e12, hF⟩ := hF
  refine eg_putI dX11_init_24 e12 (Nat.le_of_ble_eq_true rfl) (Nat.le_of_ble_eq_true rfl) rfl ew_241 (Or.inl rfl) ?_
  refine eg_aload_n (i := 0) 0 dX11_init_27 rfl rfl ?_
  refine eg_iconst (v := (0 : Int32)) dX11_init_28 (by decide) ?_
  replace hF := eg_bind hF; obtain ⟨h13, e14, hF⟩ := hF
  refine eg_putI dX11_init_29 e14 (Nat.le_of_ble_eq_true rfl) (Nat.le_of_ble_eq_true rfl) rfl ew_242 (Or.inl rfl) ?_
  refine eg_aload_n (i := 0) 0 dX11_init_32 rfl rfl ?_
  refine eg_iconst (v := (0 : Int32)) dX11_init_33 (by decide) ?_
  replace hF := eg_bind hF; obtain ⟨h15, e16, hF⟩ := hF
  refine eg_putI dX11_init_34 e16 (Nat.le_of_ble_eq_true rfl) (Nat.le_of_ble_eq_true rfl) rfl ew_243 (Or.inl rfl) ?_
  refine eg_aload_n (i := 0) 0 dX11_init_37 rfl rfl ?_
  refine eg_iconst (v := (0 : Int32)) dX11_init_38 (by decide) ?_
  replace hF := eg_bind hF; obtain ⟨h17, e18, hF⟩ := hF
  refine eg_putI dX11_init_39 e18 (Nat.le_of_ble_eq_true rfl) (Nat.le_of_ble_eq_true rfl) rfl ew_244 (Or.inl rfl) ?_
  refine eg_aload_n (i := 0) 0 dX11_init_42 rfl rfl ?_
  refine eg_iconst (v := (0 : Int32)) dX11_init_43 (by decide) ?_
  replace hF := eg_bind hF; obtain ⟨h19, e20, hF⟩ := hF
  refine eg_putI dX11_init_44 e20 (Nat.le_of_ble_eq_true rfl) (Nat.le_of_ble_eq_true rfl) rfl ew_245 (Or.inl rfl) ?_
  refine eg_aload_n (i := 0) 0 dX11_init_47 rfl rfl ?_
  refine eg_lconst (v := (0 : Int64)) dX11_init_48 (by decide) ?_
  replace hF := eg_bind hF; obtain ⟨h21, e22, hF⟩ := hF
  refine eg_putL dX11_init_49 e22 (Nat.le_of_ble_eq_true rfl) (Nat.le_of_ble_eq_true rfl) rfl ew_246 rfl ?_
  refine eg_aload_n (i := 0) 0 dX11_init_52 rfl rfl ?_
  refine eg_aload_n (i := 1) 1 dX11_init_53 rfl rfl ?_
  replace hF := eg_bind hF; obtain ⟨h23, e24, hF⟩ := hF
  refine eg_putR dX11_init_54 e24 (Nat.le_of_ble_eq_true rfl) (Nat.le_of_ble_eq_true rfl) rfl ew_237 (Or.inr ⟨rfl, rfl, rfl⟩) ?_
  exact eg_vretE dX11_init_57 hF
theorem dX11_obey_0 : decode cX11_obey 0 = .ok (.aload_n 0, 1) := by decide +kernel
theorem dX11_obey_1 : decode cX11_obey 1 = .ok (.aload_n 1, 1) := by decide +kernel
theorem dX11_obey_2 : decode cX11_obey 2 = .ok (.putfield 15, 3) := by decide +kernel
theorem dX11_obey_5 : decode cX11_obey 5 = .ok (.return_, 1) := by decide +kernel
def fX11_obey (h : eg_H) (l0 : Nat) (l1 : Option Nat) : Option (eg_H) :=
  if eg_isO h 11 l0 then (
    (eg_pP h 11 2 l0 l1).bind fun h1 =>
    some h1) else none
theorem fX11_obey_O {h : eg_H} {l0 : Nat} {l1 : Option Nat} {hE : eg_H} (hF : fX11_obey h l0 l1 = some hE) : eg_isO h 11 l0 := (eg_ifn hF).1
set_option maxRecDepth 20000 in
theorem mX11_obey {h : eg_H} {l0 : Nat} {l1 : Option Nat} {hE : eg_H} (hF : fX11_obey h l0 l1 = some hE) : eg_Met yX11_obey cX11_obey 2 none 1 [.ref l0, va_rf l1] h none hE := by
  refine eg_enter rfl (by cases l1 <;> exact (Nat.le_of_ble_eq_true rfl)) ?_
  rw [show lv_args 0 [.ref l0, va_rf l1] = [(0, .ref l0), (1, va_rf l1)] from by cases l1 <;> rfl]
  show eg_AW (RX11, cX11_obey, 2, 1, none, "obey", none) (eg_Zm none hE h) (eg_nc hE) (eg_ns hE) h 0 [(0, .ref l0), (1, va_rf l1)] [] h
  replace hF := (eg_ifn hF).2
  refine eg_aload_n (i := 0) 0 dX11_obey_0 rfl rfl ?_
  refine eg_aload_nq (i := 1) 1 dX11_obey_1 rfl rfl ?_
  replace hF := eg_bind hF; obtain ⟨h1, e2, hF⟩ := hF
  refine eg_putP dX11_obey_2 e2 (Nat.le_of_ble_eq_true rfl) (Nat.le_of_ble_eq_true rfl) rfl ew_239 (Or.inl rfl) ?_
  exact eg_vretE dX11_obey_5 hF
theorem dX11_receive_0 : decode cX11_receive 0 = .ok (.aload_n 0, 1) := by decide +kernel
theorem dX11_receive_1 : decode cX11_receive 1 = .ok (.aload_n 0, 1) := by decide +kernel
theorem dX11_receive_2 : decode cX11_receive 2 = .ok (.getfield 42, 3) := by decide +kernel
theorem dX11_receive_5 : decode cX11_receive 5 = .ok (.iload_n 1, 1) := by decide +kernel
theorem dX11_receive_6 : decode cX11_receive 6 = .ok (.iconst 1, 1) := by decide +kernel
theorem dX11_receive_7 : decode cX11_receive 7 = .ok (.invokevirtual 46, 3) := by decide +kernel
theorem dX11_receive_10 : decode cX11_receive 10 = .ok (.putfield 26, 3) := by decide +kernel
theorem dX11_receive_13 : decode cX11_receive 13 = .ok (.aload_n 0, 1) := by decide +kernel
theorem dX11_receive_14 : decode cX11_receive 14 = .ok (.aload_n 0, 1) := by decide +kernel
theorem dX11_receive_15 : decode cX11_receive 15 = .ok (.getfield 42, 3) := by decide +kernel
theorem dX11_receive_18 : decode cX11_receive 18 = .ok (.iload_n 2, 1) := by decide +kernel
theorem dX11_receive_19 : decode cX11_receive 19 = .ok (.aload_n 0, 1) := by decide +kernel
theorem dX11_receive_20 : decode cX11_receive 20 = .ok (.getfield 42, 3) := by decide +kernel
theorem dX11_receive_23 : decode cX11_receive 23 = .ok (.iconst 0, 1) := by decide +kernel
theorem dX11_receive_24 : decode cX11_receive 24 = .ok (.invokevirtual 57, 3) := by decide +kernel
theorem dX11_receive_27 : decode cX11_receive 27 = .ok (.invokevirtual 52, 3) := by decide +kernel
theorem dX11_receive_30 : decode cX11_receive 30 = .ok (.putfield 32, 3) := by decide +kernel
theorem dX11_receive_33 : decode cX11_receive 33 = .ok (.return_, 1) := by decide +kernel
def fX11_receive (h : eg_H) (l0 : Nat) (l1 : Int32) (l2 : Int32) : Option (eg_H) :=
  if eg_isO h 11 l0 then (
    (eg_gR h 11 0 l0).bind fun p1 =>
    (fX7_ofPerson h p1 l1 (1 : Int32)).bind fun ⟨v4, h3⟩ =>
    (eg_pI h3 11 5 l0 v4).bind fun h6 =>
    (eg_gR h6 11 0 l0).bind fun p8 =>
    (eg_gR h6 11 0 l0).bind fun p10 =>
    (fX7_told h6 p10 (0 : Int32)).bind fun ⟨v13, h12⟩ =>
    (fX7_blows h12 p8 l2 v13).bind fun ⟨v16, h15⟩ =>
    (eg_pI h15 11 7 l0 v16).bind fun h18 =>
    some h18) else none
theorem fX11_receive_O {h : eg_H} {l0 : Nat} {l1 : Int32} {l2 : Int32} {hE : eg_H} (hF : fX11_receive h l0 l1 l2 = some hE) : eg_isO h 11 l0 := (eg_ifn hF).1
set_option maxRecDepth 20000 in
theorem mX11_receive {h : eg_H} {l0 : Nat} {l1 : Int32} {l2 : Int32} {hE : eg_H} (hF : fX11_receive h l0 l1 l2 = some hE) : eg_Met yX11_receive cX11_receive 3 none 2 [.ref l0, .int l1, .int l2] h none hE := by
  refine eg_enter rfl (Nat.le_of_ble_eq_true rfl) ?_
  show eg_AW (RX11, cX11_receive, 3, 2, none, "receive", none) (eg_Zm none hE h) (eg_nc hE) (eg_ns hE) h 0 [(0, .ref l0), (1, .int l1), (2, .int l2)] [] h
  replace hF := (eg_ifn hF).2
  refine eg_aload_n (i := 0) 0 dX11_receive_0 rfl rfl ?_
  refine eg_aload_n (i := 0) 0 dX11_receive_1 rfl rfl ?_
  replace hF := eg_bind hF; obtain ⟨p1, e2, hF⟩ := hF
  refine eg_getR dX11_receive_2 e2 (Nat.le_of_ble_eq_true rfl) (Nat.le_of_ble_eq_true rfl) rfl ew_237 ?_
  refine eg_iload_n (i := 1) 1 dX11_receive_5 rfl rfl ?_
  refine eg_iconst (v := (1 : Int32)) dX11_receive_6 (by decide) ?_
  replace hF := eg_bind hF; obtain ⟨⟨v4, h3⟩, e5, hF⟩ := hF
  refine eg_callV (c := 7) (n := 2) [.int l1, .int (1 : Int32)] dX11_receive_7 (mX7_ofPerson e5) rfl (fX7_ofPerson_O e5) (Nat.le_of_ble_eq_true rfl) rfl ew_759 ew_741 ew_742 ew_104 ew_743 hy_X7_ofPerson rfl (Nat.le_of_ble_eq_true rfl) (Nat.le_of_ble_eq_true rfl) (Nat.le_of_ble_eq_true rfl) ?_
  replace hF := eg_bind hF; obtain ⟨h6, e7, hF⟩ := hF
  refine eg_putI dX11_receive_10 e7 (Nat.le_of_ble_eq_true rfl) (Nat.le_of_ble_eq_true rfl) rfl ew_242 (Or.inl rfl) ?_
  refine eg_aload_n (i := 0) 0 dX11_receive_13 rfl rfl ?_
  refine eg_aload_n (i := 0) 0 dX11_receive_14 rfl rfl ?_
  replace hF := eg_bind hF; obtain ⟨p8, e9, hF⟩ := hF
  refine eg_getR dX11_receive_15 e9 (Nat.le_of_ble_eq_true rfl) (Nat.le_of_ble_eq_true rfl) rfl ew_237 ?_
  refine eg_iload_n (i := 2) 2 dX11_receive_18 rfl rfl ?_
  refine eg_aload_n (i := 0) 0 dX11_receive_19 rfl rfl ?_
  replace hF := eg_bind hF; obtain ⟨p10, e11, hF⟩ := hF
  refine eg_getR dX11_receive_20 e11 (Nat.le_of_ble_eq_true rfl) (Nat.le_of_ble_eq_true rfl) rfl ew_237 ?_
  refine eg_iconst (v := (0 : Int32)) dX11_receive_23 (by decide) ?_
  replace hF := eg_bind hF; obtain ⟨⟨v13, h12⟩, e14, hF⟩ := hF
  refine eg_callV (c := 7) (n := 1) [.int (0 : Int32)] dX11_receive_24 (mX7_told e14) rfl (fX7_told_O e14) (Nat.le_of_ble_eq_true rfl) rfl ew_760 ew_718 ew_719 ew_104 ew_720 hy_X7_told rfl (Nat.le_of_ble_eq_true rfl) (Nat.le_of_ble_eq_true rfl) (Nat.le_of_ble_eq_true rfl) ?_
  replace hF := eg_bind hF; obtain ⟨⟨v16, h15⟩, e17, hF⟩ := hF
  refine eg_callV (c := 7) (n := 2) [.int l2, .int v13] dX11_receive_27 (mX7_blows e17) rfl (fX7_blows_O e17) (Nat.le_of_ble_eq_true rfl) rfl ew_761 ew_745 ew_746 ew_104 ew_747 hy_X7_blows rfl (Nat.le_of_ble_eq_true rfl) (Nat.le_of_ble_eq_true rfl) (Nat.le_of_ble_eq_true rfl) ?_
  replace hF := eg_bind hF; obtain ⟨h18, e19, hF⟩ := hF
  refine eg_putI dX11_receive_30 e19 (Nat.le_of_ble_eq_true rfl) (Nat.le_of_ble_eq_true rfl) rfl ew_244 (Or.inl rfl) ?_
  exact eg_vretE dX11_receive_33 hF
theorem dX11_useArm_0 : decode cX11_useArm 0 = .ok (.aload_n 0, 1) := by decide +kernel
theorem dX11_useArm_1 : decode cX11_useArm 1 = .ok (.iload_n 1, 1) := by decide +kernel
theorem dX11_useArm_2 : decode cX11_useArm 2 = .ok (.putfield 26, 3) := by decide +kernel
theorem dX11_useArm_5 : decode cX11_useArm 5 = .ok (.return_, 1) := by decide +kernel
def fX11_useArm (h : eg_H) (l0 : Nat) (l1 : Int32) : Option (eg_H) :=
  if eg_isO h 11 l0 then (
    (eg_pI h 11 5 l0 l1).bind fun h1 =>
    some h1) else none
theorem fX11_useArm_O {h : eg_H} {l0 : Nat} {l1 : Int32} {hE : eg_H} (hF : fX11_useArm h l0 l1 = some hE) : eg_isO h 11 l0 := (eg_ifn hF).1
set_option maxRecDepth 20000 in
theorem mX11_useArm {h : eg_H} {l0 : Nat} {l1 : Int32} {hE : eg_H} (hF : fX11_useArm h l0 l1 = some hE) : eg_Met yX11_useArm cX11_useArm 2 none 1 [.ref l0, .int l1] h none hE := by
  refine eg_enter rfl (Nat.le_of_ble_eq_true rfl) ?_
  show eg_AW (RX11, cX11_useArm, 2, 1, none, "useArm", none) (eg_Zm none hE h) (eg_nc hE) (eg_ns hE) h 0 [(0, .ref l0), (1, .int l1)] [] h
  replace hF := (eg_ifn hF).2
  refine eg_aload_n (i := 0) 0 dX11_useArm_0 rfl rfl ?_
  refine eg_iload_n (i := 1) 1 dX11_useArm_1 rfl rfl ?_
  replace hF := eg_bind hF; obtain ⟨h1, e2, hF⟩ := hF
  refine eg_putI dX11_useArm_2 e2 (Nat.le_of_ble_eq_true rfl) (Nat.le_of_ble_eq_true rfl) rfl ew_242 (Or.inl rfl) ?_
  exact eg_vretE dX11_useArm_5 hF
theorem dX11_useRun_0 : decode cX11_useRun 0 = .ok (.aload_n 0, 1) := by decide +kernel
theorem dX11_useRun_1 : decode cX11_useRun 1 = .ok (.iload_n 1, 1) := by decide +kernel
theorem dX11_useRun_2 : decode cX11_useRun 2 = .ok (.putfield 29, 3) := by decide +kernel
theorem dX11_useRun_5 : decode cX11_useRun 5 = .ok (.return_, 1) := by decide +kernel
def fX11_useRun (h : eg_H) (l0 : Nat) (l1 : Int32) : Option (eg_H) :=
  if eg_isO h 11 l0 then (
    (eg_pI h 11 6 l0 l1).bind fun h1 =>
    some h1) else none
theorem fX11_useRun_O {h : eg_H} {l0 : Nat} {l1 : Int32} {hE : eg_H} (hF : fX11_useRun h l0 l1 = some hE) : eg_isO h 11 l0 := (eg_ifn hF).1
set_option maxRecDepth 20000 in
theorem mX11_useRun {h : eg_H} {l0 : Nat} {l1 : Int32} {hE : eg_H} (hF : fX11_useRun h l0 l1 = some hE) : eg_Met yX11_useRun cX11_useRun 2 none 1 [.ref l0, .int l1] h none hE := by
  refine eg_enter rfl (Nat.le_of_ble_eq_true rfl) ?_
  show eg_AW (RX11, cX11_useRun, 2, 1, none, "useRun", none) (eg_Zm none hE h) (eg_nc hE) (eg_ns hE) h 0 [(0, .ref l0), (1, .int l1)] [] h
  replace hF := (eg_ifn hF).2
  refine eg_aload_n (i := 0) 0 dX11_useRun_0 rfl rfl ?_
  refine eg_iload_n (i := 1) 1 dX11_useRun_1 rfl rfl ?_
  replace hF := eg_bind hF; obtain ⟨h1, e2, hF⟩ := hF
  refine eg_putI dX11_useRun_2 e2 (Nat.le_of_ble_eq_true rfl) (Nat.le_of_ble_eq_true rfl) rfl ew_243 (Or.inl rfl) ?_
  exact eg_vretE dX11_useRun_5 hF
theorem dX11_highest_0 : decode cX11_highest 0 = .ok (.aload_n 0, 1) := by decide +kernel
theorem dX11_highest_1 : decode cX11_highest 1 = .ok (.getfield 23, 3) := by decide +kernel
theorem dX11_highest_4 : decode cX11_highest 4 = .ok (.ireturn, 1) := by decide +kernel
def fX11_highest (h : eg_H) (l0 : Nat) : Option (Int32 × eg_H) :=
  if eg_isO h 11 l0 then (
    (eg_gI h 11 4 l0).bind fun v1 =>
    some (v1, h)) else none
theorem fX11_highest_O {h : eg_H} {l0 : Nat} {rE : Int32} {hE : eg_H} (hF : fX11_highest h l0 = some (rE, hE)) : eg_isO h 11 l0 := (eg_ifn hF).1
set_option maxRecDepth 20000 in
theorem mX11_highest {h : eg_H} {l0 : Nat} {rE : Int32} {hE : eg_H} (hF : fX11_highest h l0 = some (rE, hE)) : eg_Met yX11_highest cX11_highest 1 (some .int) 1 [.ref l0] h (some (.int rE)) hE := by
  refine eg_enter rfl (Nat.le_of_ble_eq_true rfl) ?_
  show eg_AW (RX11, cX11_highest, 1, 1, none, "highest", (some .int)) (eg_Zm (some (.int rE)) hE h) (eg_nc hE) (eg_ns hE) h 0 [(0, .ref l0)] [] h
  replace hF := (eg_ifn hF).2
  refine eg_aload_n (i := 0) 0 dX11_highest_0 rfl rfl ?_
  replace hF := eg_bind hF; obtain ⟨v1, e2, hF⟩ := hF
  refine eg_getI dX11_highest_1 e2 (Nat.le_of_ble_eq_true rfl) (Nat.le_of_ble_eq_true rfl) rfl ew_241 ?_
  exact eg_iretE dX11_highest_4 hF
theorem dX11_slips_0 : decode cX11_slips 0 = .ok (.iconst 2, 1) := by decide +kernel
theorem dX11_slips_1 : decode cX11_slips 1 = .ok (.aload_n 0, 1) := by decide +kernel
theorem dX11_slips_2 : decode cX11_slips 2 = .ok (.getfield 19, 3) := by decide +kernel
theorem dX11_slips_5 : decode cX11_slips 5 = .ok (.imul, 1) := by decide +kernel
theorem dX11_slips_6 : decode cX11_slips 6 = .ok (.iconst 1, 1) := by decide +kernel
theorem dX11_slips_7 : decode cX11_slips 7 = .ok (.iadd, 1) := by decide +kernel
theorem dX11_slips_8 : decode cX11_slips 8 = .ok (.ireturn, 1) := by decide +kernel
def fX11_slips (h : eg_H) (l0 : Nat) : Option (Int32 × eg_H) :=
  if eg_isO h 11 l0 then (
    (eg_gI h 11 3 l0).bind fun v1 =>
    some ((((2 : Int32) * v1) + (1 : Int32)), h)) else none
theorem fX11_slips_O {h : eg_H} {l0 : Nat} {rE : Int32} {hE : eg_H} (hF : fX11_slips h l0 = some (rE, hE)) : eg_isO h 11 l0 := (eg_ifn hF).1
set_option maxRecDepth 20000 in
theorem mX11_slips {h : eg_H} {l0 : Nat} {rE : Int32} {hE : eg_H} (hF : fX11_slips h l0 = some (rE, hE)) : eg_Met yX11_slips cX11_slips 1 (some .int) 1 [.ref l0] h (some (.int rE)) hE := by
  refine eg_enter rfl (Nat.le_of_ble_eq_true rfl) ?_
  show eg_AW (RX11, cX11_slips, 1, 1, none, "slips", (some .int)) (eg_Zm (some (.int rE)) hE h) (eg_nc hE) (eg_ns hE) h 0 [(0, .ref l0)] [] h
  replace hF := (eg_ifn hF).2
  refine eg_iconst (v := (2 : Int32)) dX11_slips_0 (by decide) ?_
  refine eg_aload_n (i := 0) 0 dX11_slips_1 rfl rfl ?_
  replace hF := eg_bind hF; obtain ⟨v1, e2, hF⟩ := hF
  refine eg_getI dX11_slips_2 e2 (Nat.le_of_ble_eq_true rfl) (Nat.le_of_ble_eq_true rfl) rfl ew_240 ?_
  refine eg_imul dX11_slips_5 ?_
  refine eg_iconst (v := (1 : Int32)) dX11_slips_6 (by decide) ?_
  refine eg_iadd dX11_slips_7 ?_
  exact eg_iretE dX11_slips_8 hF
theorem dX11_bowIn_0 : decode cX11_bowIn 0 = .ok (.iload_n 0, 1) := by decide +kernel
theorem dX11_bowIn_1 : decode cX11_bowIn 1 = .ok (.sipush 10000, 3) := by decide +kernel
theorem dX11_bowIn_4 : decode cX11_bowIn 4 = .ok (.idiv, 1) := by decide +kernel
theorem dX11_bowIn_5 : decode cX11_bowIn 5 = .ok (.ireturn, 1) := by decide +kernel
def fX11_bowIn (h : eg_H) (l0 : Int32) : Option (Int32 × eg_H) :=
  some ((l0 / (10000 : Int32)), h)
set_option maxRecDepth 20000 in
theorem mX11_bowIn {h : eg_H} {l0 : Int32} {rE : Int32} {hE : eg_H} (hF : fX11_bowIn h l0 = some (rE, hE)) : eg_Met yX11_bowIn cX11_bowIn 1 (some .int) 1 [.int l0] h (some (.int rE)) hE := by
  refine eg_enter rfl (Nat.le_of_ble_eq_true rfl) ?_
  show eg_AW (RX11, cX11_bowIn, 1, 1, none, "bowIn", (some .int)) (eg_Zm (some (.int rE)) hE h) (eg_nc hE) (eg_ns hE) h 0 [(0, .int l0)] [] h
  refine eg_iload_n (i := 0) 0 dX11_bowIn_0 rfl rfl ?_
  refine eg_sipush (v := (10000 : Int32)) dX11_bowIn_1 (by decide) ?_
  refine eg_idiv dX11_bowIn_4 (by decide) ?_
  exact eg_iretE dX11_bowIn_5 hF
theorem dX11_aimIn_0 : decode cX11_aimIn 0 = .ok (.iload_n 0, 1) := by decide +kernel
theorem dX11_aimIn_1 : decode cX11_aimIn 1 = .ok (.bipush 100, 2) := by decide +kernel
theorem dX11_aimIn_3 : decode cX11_aimIn 3 = .ok (.idiv, 1) := by decide +kernel
theorem dX11_aimIn_4 : decode cX11_aimIn 4 = .ok (.bipush 100, 2) := by decide +kernel
theorem dX11_aimIn_6 : decode cX11_aimIn 6 = .ok (.irem, 1) := by decide +kernel
theorem dX11_aimIn_7 : decode cX11_aimIn 7 = .ok (.iconst 5, 1) := by decide +kernel
theorem dX11_aimIn_8 : decode cX11_aimIn 8 = .ok (.isub, 1) := by decide +kernel
theorem dX11_aimIn_9 : decode cX11_aimIn 9 = .ok (.iconst 1, 1) := by decide +kernel
theorem dX11_aimIn_10 : decode cX11_aimIn 10 = .ok (.isub, 1) := by decide +kernel
theorem dX11_aimIn_11 : decode cX11_aimIn 11 = .ok (.ireturn, 1) := by decide +kernel
def fX11_aimIn (h : eg_H) (l0 : Int32) : Option (Int32 × eg_H) :=
  some (((((l0 / (100 : Int32)) % (100 : Int32)) - (5 : Int32)) - (1 : Int32)), h)
set_option maxRecDepth 20000 in
theorem mX11_aimIn {h : eg_H} {l0 : Int32} {rE : Int32} {hE : eg_H} (hF : fX11_aimIn h l0 = some (rE, hE)) : eg_Met yX11_aimIn cX11_aimIn 1 (some .int) 1 [.int l0] h (some (.int rE)) hE := by
  refine eg_enter rfl (Nat.le_of_ble_eq_true rfl) ?_
  show eg_AW (RX11, cX11_aimIn, 1, 1, none, "aimIn", (some .int)) (eg_Zm (some (.int rE)) hE h) (eg_nc hE) (eg_ns hE) h 0 [(0, .int l0)] [] h
  refine eg_iload_n (i := 0) 0 dX11_aimIn_0 rfl rfl ?_
  refine eg_bipush (v := (100 : Int32)) dX11_aimIn_1 (by decide) ?_
  refine eg_idiv dX11_aimIn_3 (by decide) ?_
  refine eg_bipush (v := (100 : Int32)) dX11_aimIn_4 (by decide) ?_
  refine eg_irem dX11_aimIn_6 (by decide) ?_
  refine eg_iconst (v := (5 : Int32)) dX11_aimIn_7 (by decide) ?_
  refine eg_isub dX11_aimIn_8 ?_
  refine eg_iconst (v := (1 : Int32)) dX11_aimIn_9 (by decide) ?_
  refine eg_isub dX11_aimIn_10 ?_
  exact eg_iretE dX11_aimIn_11 hF
theorem dX11_climbAll_0 : decode cX11_climbAll 0 = .ok (.iconst 0, 1) := by decide +kernel
theorem dX11_climbAll_1 : decode cX11_climbAll 1 = .ok (.istore_n 2, 1) := by decide +kernel
theorem dX11_climbAll_2 : decode cX11_climbAll 2 = .ok (.iconst 0, 1) := by decide +kernel
theorem dX11_climbAll_3 : decode cX11_climbAll 3 = .ok (.istore_n 3, 1) := by decide +kernel
theorem dX11_climbAll_4 : decode cX11_climbAll 4 = .ok (.iload_n 3, 1) := by decide +kernel
theorem dX11_climbAll_5 : decode cX11_climbAll 5 = .ok (.aload_n 0, 1) := by decide +kernel
theorem dX11_climbAll_6 : decode cX11_climbAll 6 = .ok (.getfield 9, 3) := by decide +kernel
theorem dX11_climbAll_9 : decode cX11_climbAll 9 = .ok (.arraylength, 1) := by decide +kernel
theorem dX11_climbAll_10 : decode cX11_climbAll 10 = .ok (.if_icmp .ge 64, 3) := by decide +kernel
theorem dX11_climbAll_13 : decode cX11_climbAll 13 = .ok (.aload_n 0, 1) := by decide +kernel
theorem dX11_climbAll_14 : decode cX11_climbAll 14 = .ok (.iload_n 1, 1) := by decide +kernel
theorem dX11_climbAll_15 : decode cX11_climbAll 15 = .ok (.iload_n 3, 1) := by decide +kernel
theorem dX11_climbAll_16 : decode cX11_climbAll 16 = .ok (.invokevirtual 83, 3) := by decide +kernel
theorem dX11_climbAll_19 : decode cX11_climbAll 19 = .ok (.istore 4, 2) := by decide +kernel
theorem dX11_climbAll_21 : decode cX11_climbAll 21 = .ok (.bipush (-5), 2) := by decide +kernel
theorem dX11_climbAll_23 : decode cX11_climbAll 23 = .ok (.istore 5, 2) := by decide +kernel
theorem dX11_climbAll_25 : decode cX11_climbAll 25 = .ok (.iload 5, 2) := by decide +kernel
theorem dX11_climbAll_27 : decode cX11_climbAll 27 = .ok (.iconst 5, 1) := by decide +kernel
theorem dX11_climbAll_28 : decode cX11_climbAll 28 = .ok (.if_icmp .gt 33, 3) := by decide +kernel
theorem dX11_climbAll_31 : decode cX11_climbAll 31 = .ok (.aload_n 0, 1) := by decide +kernel
theorem dX11_climbAll_32 : decode cX11_climbAll 32 = .ok (.iload 4, 2) := by decide +kernel
theorem dX11_climbAll_34 : decode cX11_climbAll 34 = .ok (.iload_n 3, 1) := by decide +kernel
theorem dX11_climbAll_35 : decode cX11_climbAll 35 = .ok (.iload 5, 2) := by decide +kernel
theorem dX11_climbAll_37 : decode cX11_climbAll 37 = .ok (.invokevirtual 86, 3) := by decide +kernel
theorem dX11_climbAll_40 : decode cX11_climbAll 40 = .ok (.istore 6, 2) := by decide +kernel
theorem dX11_climbAll_42 : decode cX11_climbAll 42 = .ok (.iload 6, 2) := by decide +kernel
theorem dX11_climbAll_44 : decode cX11_climbAll 44 = .ok (.iload_n 2, 1) := by decide +kernel
theorem dX11_climbAll_45 : decode cX11_climbAll 45 = .ok (.if_icmp .le 8, 3) := by decide +kernel
theorem dX11_climbAll_48 : decode cX11_climbAll 48 = .ok (.iload 6, 2) := by decide +kernel
theorem dX11_climbAll_50 : decode cX11_climbAll 50 = .ok (.goto 4, 3) := by decide +kernel
theorem dX11_climbAll_53 : decode cX11_climbAll 53 = .ok (.iload_n 2, 1) := by decide +kernel
theorem dX11_climbAll_54 : decode cX11_climbAll 54 = .ok (.istore_n 2, 1) := by decide +kernel
theorem dX11_climbAll_55 : decode cX11_climbAll 55 = .ok (.iinc 5 1, 3) := by decide +kernel
theorem dX11_climbAll_58 : decode cX11_climbAll 58 = .ok (.goto (-33), 3) := by decide +kernel
theorem dX11_climbAll_61 : decode cX11_climbAll 61 = .ok (.aload_n 0, 1) := by decide +kernel
theorem dX11_climbAll_62 : decode cX11_climbAll 62 = .ok (.getfield 9, 3) := by decide +kernel
theorem dX11_climbAll_65 : decode cX11_climbAll 65 = .ok (.iload_n 3, 1) := by decide +kernel
theorem dX11_climbAll_66 : decode cX11_climbAll 66 = .ok (.iload_n 2, 1) := by decide +kernel
theorem dX11_climbAll_67 : decode cX11_climbAll 67 = .ok (.iastore, 1) := by decide +kernel
theorem dX11_climbAll_68 : decode cX11_climbAll 68 = .ok (.iinc 3 1, 3) := by decide +kernel
theorem dX11_climbAll_71 : decode cX11_climbAll 71 = .ok (.goto (-67), 3) := by decide +kernel
theorem dX11_climbAll_74 : decode cX11_climbAll 74 = .ok (.return_, 1) := by decide +kernel
def fX11_climbAll_L25 : Nat → eg_H → Nat → Int32 → Int32 → Int32 → Int32 → Int32 → Option (Nat × Int32 × Int32 × Int32 × eg_H)
  | 0, _, _, _, _, _, _, _ => none
  | n + 1, h, l0, l1, l2, l3, l4, l5 =>
    if (5 : Int32) < l5 then
      (some (l0, l1, l2, l3, h))
    else
      (fX11_goodOf h l0 l4 l3 l5).bind fun ⟨v3, h2⟩ =>
      if v3 ≤ l2 then
        (fX11_climbAll_L25 n h2 l0 l1 l2 l3 l4 (l5 + (1 : Int32)))
      else
        fX11_climbAll_L25 n h2 l0 l1 v3 l3 l4 (l5 + (1 : Int32))
set_option maxRecDepth 20000 in
theorem fX11_climbAll_L25_ok {h0 : eg_H} {Z : eg_C → State → Prop} {N S : Nat} : ∀ (n : Nat) (h : eg_H) (l0 : Nat) (l1 : Int32) (l2 : Int32) (l3 : Int32) (l4 : Int32) (l5 : Int32) (eE : Nat × Int32 × Int32 × Int32 × eg_H), fX11_climbAll_L25 n h l0 l1 l2 l3 l4 l5 = some eE → (hk0 : ∀ (l0 : Nat) (l1 : Int32) (l2 : Int32) (l3 : Int32) (h : eg_H), eE = (l0, l1, l2, l3, h) → eg_AW (RX11, cX11_climbAll, 7, 4, none, "climbAll", none) Z N S h0 61 [(0, .ref l0), (1, .int l1), (2, .int l2), (3, .int l3)] [] h) → eg_AW (RX11, cX11_climbAll, 7, 4, none, "climbAll", none) Z N S h0 25 [(0, .ref l0), (1, .int l1), (2, .int l2), (3, .int l3), (4, .int l4), (5, .int l5)] [] h := by
  intro n
  induction n with
  | zero => intro h l0 l1 l2 l3 l4 l5 eE hF; exact absurd hF (by intro q; cases q)
  | succ n ih =>
    intro h l0 l1 l2 l3 l4 l5 eE hF hk0
    have hrec := fun (h' : eg_H) (l0 : Nat) (l1 : Int32) (l2 : Int32) (l3 : Int32) (l4 : Int32) (l5 : Int32) hq => ih h' l0 l1 l2 l3 l4 l5 eE hq hk0
    refine eg_iload (i := 5) 5 dX11_climbAll_25 rfl ?_
    refine eg_iconst (v := (5 : Int32)) dX11_climbAll_27 (by decide) ?_
    refine eg_ic_gt 61 dX11_climbAll_28 rfl (fun c1 => ?_) (fun c1 => ?_)
    · replace hF := eg_it c1 hF
      exact eg_sub [0, 1, 2, 3] [(0, .ref l0), (1, .int l1), (2, .int l2), (3, .int l3)] rfl (hk0 l0 l1 l2 l3 h (Option.some.inj hF).symm)
    · replace hF := eg_if c1 hF
      refine eg_aload_n (i := 0) 0 dX11_climbAll_31 rfl rfl ?_
      refine eg_iload (i := 4) 4 dX11_climbAll_32 rfl ?_
      refine eg_iload_n (i := 3) 3 dX11_climbAll_34 rfl rfl ?_
      refine eg_iload (i := 5) 5 dX11_climbAll_35 rfl ?_
      replace hF := eg_bind hF; obtain ⟨⟨v3, h2⟩, e4, hF⟩ := hF
      refine eg_callV (c := 11) (n := 3) [.int l4, .int l3, .int l5] dX11_climbAll_37 (mX11_goodOf e4) rfl (fX11_goodOf_O e4) (Nat.le_of_ble_eq_true rfl) rfl ew_871 ew_821 ew_822 ew_106 ew_823 hy_X11_goodOf rfl (Nat.le_of_ble_eq_true rfl) (Nat.le_of_ble_eq_true rfl) (Nat.le_of_ble_eq_true rfl) ?_
      refine eg_istore (i := 6) [(6, .int v3), (0, .ref l0), (1, .int l1), (2, .int l2), (3, .int l3), (4, .int l4), (5, .int l5)] dX11_climbAll_40 (Nat.le_of_ble_eq_true rfl) rfl ?_
      refine eg_iload (i := 6) 0 dX11_climbAll_42 rfl ?_
      refine eg_iload_n (i := 2) 3 dX11_climbAll_44 rfl rfl ?_
      refine eg_ic_le 53 dX11_climbAll_45 rfl (fun c5 => ?_) (fun c5 => ?_)
      · replace hF := eg_it c5 hF
        refine eg_iload_n (i := 2) 3 dX11_climbAll_53 rfl rfl ?_
        refine eg_istore_n (i := 2) [(2, .int l2), (6, .int v3), (0, .ref l0), (1, .int l1), (3, .int l3), (4, .int l4), (5, .int l5)] dX11_climbAll_54 rfl (Nat.le_of_ble_eq_true rfl) rfl ?_
        refine eg_iinc (i := 5) (v := (l5 + (1 : Int32))) 6 [(5, .int (l5 + (1 : Int32))), (2, .int l2), (6, .int v3), (0, .ref l0), (1, .int l1), (3, .int l3), (4, .int l4)] dX11_climbAll_55 rfl rfl (Nat.le_of_ble_eq_true rfl) rfl ?_
        refine eg_goto 25 dX11_climbAll_58 rfl ?_
        exact eg_sub [3, 4, 1, 5, 6, 0] [(0, .ref l0), (1, .int l1), (2, .int l2), (3, .int l3), (4, .int l4), (5, .int (l5 + (1 : Int32)))] rfl (hrec h2 l0 l1 l2 l3 l4 (l5 + (1 : Int32)) hF)
      · replace hF := eg_if c5 hF
        refine eg_iload (i := 6) 0 dX11_climbAll_48 rfl ?_
        refine eg_goto 54 dX11_climbAll_50 rfl ?_
        refine eg_istore_n (i := 2) [(2, .int v3), (6, .int v3), (0, .ref l0), (1, .int l1), (3, .int l3), (4, .int l4), (5, .int l5)] dX11_climbAll_54 rfl (Nat.le_of_ble_eq_true rfl) rfl ?_
        refine eg_iinc (i := 5) (v := (l5 + (1 : Int32))) 6 [(5, .int (l5 + (1 : Int32))), (2, .int v3), (6, .int v3), (0, .ref l0), (1, .int l1), (3, .int l3), (4, .int l4)] dX11_climbAll_55 rfl rfl (Nat.le_of_ble_eq_true rfl) rfl ?_
        refine eg_goto 25 dX11_climbAll_58 rfl ?_
        exact eg_sub [3, 4, 1, 5, 6, 0] [(0, .ref l0), (1, .int l1), (2, .int v3), (3, .int l3), (4, .int l4), (5, .int (l5 + (1 : Int32)))] rfl (hrec h2 l0 l1 v3 l3 l4 (l5 + (1 : Int32)) hF)
def fX11_climbAll_L4 : Nat → eg_H → Nat → Int32 → Int32 → Int32 → Option (eg_H)
  | 0, _, _, _, _, _ => none
  | n + 1, h, l0, l1, l2, l3 =>
    (eg_gR h 11 1 l0).bind fun p1 =>
    (eg_al h p1).bind fun v3 =>
    if v3 ≤ l3 then
      (some h)
    else
      (fX11_wholes h l0 l1 l3).bind fun ⟨v7, h6⟩ =>
      (fX11_climbAll_L25 eg_F h6 l0 l1 l2 l3 v7 (-5 : Int32)).bind fun e =>
      match e with
      | (p11, v12, v13, v14, h15) =>
        (eg_gR h15 11 1 p11).bind fun p16 =>
        (eg_wI h15 100 p16 v14 v13).bind fun h18 =>
        fX11_climbAll_L4 n h18 p11 v12 v13 (v14 + (1 : Int32))
set_option maxRecDepth 20000 in
theorem fX11_climbAll_L4_ok {h0 : eg_H} {Z : eg_C → State → Prop} {N S : Nat} : ∀ (n : Nat) (h : eg_H) (l0 : Nat) (l1 : Int32) (l2 : Int32) (l3 : Int32) (eE : eg_H), fX11_climbAll_L4 n h l0 l1 l2 l3 = some eE → (hk0 : ∀  (h : eg_H), eE = h → eg_AW (RX11, cX11_climbAll, 7, 4, none, "climbAll", none) Z N S h0 74 [] [] h) → eg_AW (RX11, cX11_climbAll, 7, 4, none, "climbAll", none) Z N S h0 4 [(0, .ref l0), (1, .int l1), (2, .int l2), (3, .int l3)] [] h := by
  intro n
  induction n with
  | zero => intro h l0 l1 l2 l3 eE hF; exact absurd hF (by intro q; cases q)
  | succ n ih =>
    intro h l0 l1 l2 l3 eE hF hk0
    have hrec := fun (h' : eg_H) (l0 : Nat) (l1 : Int32) (l2 : Int32) (l3 : Int32) hq => ih h' l0 l1 l2 l3 eE hq hk0
    refine eg_iload_n (i := 3) 3 dX11_climbAll_4 rfl rfl ?_
    refine eg_aload_n (i := 0) 0 dX11_climbAll_5 rfl rfl ?_
    replace hF := eg_bind hF; obtain ⟨p1, e2, hF⟩ := hF
    refine eg_getR dX11_climbAll_6 e2 (Nat.le_of_ble_eq_true rfl) (Nat.le_of_ble_eq_true rfl) rfl ew_238 ?_
    replace hF := eg_bind hF; obtain ⟨v3, e4, hF⟩ := hF
    refine eg_alen dX11_climbAll_9 e4 ?_
    refine eg_ic_ge 74 dX11_climbAll_10 rfl (fun c5 => ?_) (fun c5 => ?_)
    · replace hF := eg_it c5 hF
      exact eg_sub [] [] rfl (hk0 h (Option.some.inj hF).symm)
    · replace hF := eg_if c5 hF
      refine eg_aload_n (i := 0) 0 dX11_climbAll_13 rfl rfl ?_
      refine eg_iload_n (i := 1) 1 dX11_climbAll_14 rfl rfl ?_
      refine eg_iload_n (i := 3) 3 dX11_climbAll_15 rfl rfl ?_
      replace hF := eg_bind hF; obtain ⟨⟨v7, h6⟩, e8, hF⟩ := hF
      refine eg_callV (c := 11) (n := 2) [.int l1, .int l3] dX11_climbAll_16 (mX11_wholes e8) rfl (fX11_wholes_O e8) (Nat.le_of_ble_eq_true rfl) rfl ew_870 ew_816 ew_817 ew_106 ew_818 hy_X11_wholes rfl (Nat.le_of_ble_eq_true rfl) (Nat.le_of_ble_eq_true rfl) (Nat.le_of_ble_eq_true rfl) ?_
      refine eg_istore (i := 4) [(4, .int v7), (0, .ref l0), (1, .int l1), (2, .int l2), (3, .int l3)] dX11_climbAll_19 (Nat.le_of_ble_eq_true rfl) rfl ?_
      refine eg_bipush (v := (-5 : Int32)) dX11_climbAll_21 (by decide) ?_
      refine eg_istore (i := 5) [(5, .int (-5 : Int32)), (4, .int v7), (0, .ref l0), (1, .int l1), (2, .int l2), (3, .int l3)] dX11_climbAll_23 (Nat.le_of_ble_eq_true rfl) rfl ?_
      replace hF := eg_bind hF; obtain ⟨x10, e9, hF⟩ := hF
      refine eg_sub [2, 3, 4, 5, 1, 0] [(0, .ref l0), (1, .int l1), (2, .int l2), (3, .int l3), (4, .int v7), (5, .int (-5 : Int32))] rfl (fX11_climbAll_L25_ok eg_F h6 l0 l1 l2 l3 v7 (-5 : Int32) x10 e9 ?_)
      · intro p11 v12 v13 v14 h15 e20
        subst e20
        refine eg_aload_n (i := 0) 0 dX11_climbAll_61 rfl rfl ?_
        replace hF := eg_bind hF; obtain ⟨p16, e17, hF⟩ := hF
        refine eg_getR dX11_climbAll_62 e17 (Nat.le_of_ble_eq_true rfl) (Nat.le_of_ble_eq_true rfl) rfl ew_238 ?_
        refine eg_iload_n (i := 3) 3 dX11_climbAll_65 rfl rfl ?_
        refine eg_iload_n (i := 2) 2 dX11_climbAll_66 rfl rfl ?_
        replace hF := eg_bind hF; obtain ⟨h18, e19, hF⟩ := hF
        refine eg_iast dX11_climbAll_67 e19 ?_
        refine eg_iinc (i := 3) (v := (v14 + (1 : Int32))) 3 [(3, .int (v14 + (1 : Int32))), (0, .ref p11), (1, .int v12), (2, .int v13)] dX11_climbAll_68 rfl rfl (Nat.le_of_ble_eq_true rfl) rfl ?_
        refine eg_goto 4 dX11_climbAll_71 rfl ?_
        exact eg_sub [1, 2, 3, 0] [(0, .ref p11), (1, .int v12), (2, .int v13), (3, .int (v14 + (1 : Int32)))] rfl (hrec h18 p11 v12 v13 (v14 + (1 : Int32)) hF)
def fX11_climbAll (h : eg_H) (l0 : Nat) (l1 : Int32) : Option (eg_H) :=
  if eg_isO h 11 l0 then (
    (fX11_climbAll_L4 eg_F h l0 l1 (0 : Int32) (0 : Int32)).bind fun e =>
    match e with
    | h3 =>
      some h3) else none
theorem fX11_climbAll_O {h : eg_H} {l0 : Nat} {l1 : Int32} {hE : eg_H} (hF : fX11_climbAll h l0 l1 = some hE) : eg_isO h 11 l0 := (eg_ifn hF).1
set_option maxRecDepth 20000 in
theorem mX11_climbAll {h : eg_H} {l0 : Nat} {l1 : Int32} {hE : eg_H} (hF : fX11_climbAll h l0 l1 = some hE) : eg_Met yX11_climbAll cX11_climbAll 7 none 4 [.ref l0, .int l1] h none hE := by
  refine eg_enter rfl (Nat.le_of_ble_eq_true rfl) ?_
  show eg_AW (RX11, cX11_climbAll, 7, 4, none, "climbAll", none) (eg_Zm none hE h) (eg_nc hE) (eg_ns hE) h 0 [(0, .ref l0), (1, .int l1)] [] h
  replace hF := (eg_ifn hF).2
  refine eg_iconst (v := (0 : Int32)) dX11_climbAll_0 (by decide) ?_
  refine eg_istore_n (i := 2) [(2, .int (0 : Int32)), (0, .ref l0), (1, .int l1)] dX11_climbAll_1 rfl (Nat.le_of_ble_eq_true rfl) rfl ?_
  refine eg_iconst (v := (0 : Int32)) dX11_climbAll_2 (by decide) ?_
  refine eg_istore_n (i := 3) [(3, .int (0 : Int32)), (2, .int (0 : Int32)), (0, .ref l0), (1, .int l1)] dX11_climbAll_3 rfl (Nat.le_of_ble_eq_true rfl) rfl ?_
  replace hF := eg_bind hF; obtain ⟨x2, e1, hF⟩ := hF
  refine eg_sub [2, 3, 1, 0] [(0, .ref l0), (1, .int l1), (2, .int (0 : Int32)), (3, .int (0 : Int32))] rfl (fX11_climbAll_L4_ok eg_F h l0 l1 (0 : Int32) (0 : Int32) x2 e1 ?_)
  · intro h3 e4
    subst e4
    exact eg_vretE dX11_climbAll_74 hF
theorem dX11_startDraws_0 : decode cX11_startDraws 0 = .ok (.aload_n 0, 1) := by decide +kernel
theorem dX11_startDraws_1 : decode cX11_startDraws 1 = .ok (.lload_n 1, 1) := by decide +kernel
theorem dX11_startDraws_2 : decode cX11_startDraws 2 = .ok (.putfield 38, 3) := by decide +kernel
theorem dX11_startDraws_5 : decode cX11_startDraws 5 = .ok (.return_, 1) := by decide +kernel
def fX11_startDraws (h : eg_H) (l0 : Nat) (l1 : Int64) : Option (eg_H) :=
  if eg_isO h 11 l0 then (
    (eg_pL h 11 9 l0 l1).bind fun h1 =>
    some h1) else none
theorem fX11_startDraws_O {h : eg_H} {l0 : Nat} {l1 : Int64} {hE : eg_H} (hF : fX11_startDraws h l0 l1 = some hE) : eg_isO h 11 l0 := (eg_ifn hF).1
set_option maxRecDepth 20000 in
theorem mX11_startDraws {h : eg_H} {l0 : Nat} {l1 : Int64} {hE : eg_H} (hF : fX11_startDraws h l0 l1 = some hE) : eg_Met yX11_startDraws cX11_startDraws 3 none 1 [.ref l0, .long l1] h none hE := by
  refine eg_enter rfl (Nat.le_of_ble_eq_true rfl) ?_
  show eg_AW (RX11, cX11_startDraws, 3, 1, none, "startDraws", none) (eg_Zm none hE h) (eg_nc hE) (eg_ns hE) h 0 [(0, .ref l0), (1, .long l1)] [] h
  replace hF := (eg_ifn hF).2
  refine eg_aload_n (i := 0) 0 dX11_startDraws_0 rfl rfl ?_
  refine eg_lload_n (i := 1) 1 dX11_startDraws_1 rfl rfl ?_
  replace hF := eg_bind hF; obtain ⟨h1, e2, hF⟩ := hF
  refine eg_putL dX11_startDraws_2 e2 (Nat.le_of_ble_eq_true rfl) (Nat.le_of_ble_eq_true rfl) rfl ew_246 rfl ?_
  exact eg_vretE dX11_startDraws_5 hF
theorem dX11_drawSlip_0 : decode cX11_drawSlip 0 = .ok (.aload_n 0, 1) := by decide +kernel
theorem dX11_drawSlip_1 : decode cX11_drawSlip 1 = .ok (.aload_n 0, 1) := by decide +kernel
theorem dX11_drawSlip_2 : decode cX11_drawSlip 2 = .ok (.getfield 38, 3) := by decide +kernel
theorem dX11_drawSlip_5 : decode cX11_drawSlip 5 = .ok (.ldc2_w 89, 3) := by decide +kernel
theorem dX11_drawSlip_8 : decode cX11_drawSlip 8 = .ok (.lmul, 1) := by decide +kernel
theorem dX11_drawSlip_9 : decode cX11_drawSlip 9 = .ok (.ldc2_w 91, 3) := by decide +kernel
theorem dX11_drawSlip_12 : decode cX11_drawSlip 12 = .ok (.ladd, 1) := by decide +kernel
theorem dX11_drawSlip_13 : decode cX11_drawSlip 13 = .ok (.putfield 38, 3) := by decide +kernel
theorem dX11_drawSlip_16 : decode cX11_drawSlip 16 = .ok (.iconst 2, 1) := by decide +kernel
theorem dX11_drawSlip_17 : decode cX11_drawSlip 17 = .ok (.aload_n 0, 1) := by decide +kernel
theorem dX11_drawSlip_18 : decode cX11_drawSlip 18 = .ok (.getfield 19, 3) := by decide +kernel
theorem dX11_drawSlip_21 : decode cX11_drawSlip 21 = .ok (.imul, 1) := by decide +kernel
theorem dX11_drawSlip_22 : decode cX11_drawSlip 22 = .ok (.iconst 1, 1) := by decide +kernel
theorem dX11_drawSlip_23 : decode cX11_drawSlip 23 = .ok (.iadd, 1) := by decide +kernel
theorem dX11_drawSlip_24 : decode cX11_drawSlip 24 = .ok (.istore_n 1, 1) := by decide +kernel
theorem dX11_drawSlip_25 : decode cX11_drawSlip 25 = .ok (.iload_n 1, 1) := by decide +kernel
theorem dX11_drawSlip_26 : decode cX11_drawSlip 26 = .ok (.ifCond .gt 7, 3) := by decide +kernel
theorem dX11_drawSlip_29 : decode cX11_drawSlip 29 = .ok (.iconst 0, 1) := by decide +kernel
theorem dX11_drawSlip_30 : decode cX11_drawSlip 30 = .ok (.goto 19, 3) := by decide +kernel
theorem dX11_drawSlip_33 : decode cX11_drawSlip 33 = .ok (.aload_n 0, 1) := by decide +kernel
theorem dX11_drawSlip_34 : decode cX11_drawSlip 34 = .ok (.getfield 38, 3) := by decide +kernel
theorem dX11_drawSlip_37 : decode cX11_drawSlip 37 = .ok (.bipush 33, 2) := by decide +kernel
theorem dX11_drawSlip_39 : decode cX11_drawSlip 39 = .ok (.lushr, 1) := by decide +kernel
theorem dX11_drawSlip_40 : decode cX11_drawSlip 40 = .ok (.iload_n 1, 1) := by decide +kernel
theorem dX11_drawSlip_41 : decode cX11_drawSlip 41 = .ok (.i2l, 1) := by decide +kernel
theorem dX11_drawSlip_42 : decode cX11_drawSlip 42 = .ok (.lrem, 1) := by decide +kernel
theorem dX11_drawSlip_43 : decode cX11_drawSlip 43 = .ok (.l2i, 1) := by decide +kernel
theorem dX11_drawSlip_44 : decode cX11_drawSlip 44 = .ok (.aload_n 0, 1) := by decide +kernel
theorem dX11_drawSlip_45 : decode cX11_drawSlip 45 = .ok (.getfield 19, 3) := by decide +kernel
theorem dX11_drawSlip_48 : decode cX11_drawSlip 48 = .ok (.isub, 1) := by decide +kernel
theorem dX11_drawSlip_49 : decode cX11_drawSlip 49 = .ok (.ireturn, 1) := by decide +kernel
def fX11_drawSlip (h : eg_H) (l0 : Nat) : Option (Int32 × eg_H) :=
  if eg_isO h 11 l0 then (
    (eg_gL h 11 9 l0).bind fun v1 =>
    (eg_pL h 11 9 l0 ((v1 * (6364136223846793005 : Int64)) + (1442695040888963407 : Int64))).bind fun h3 =>
    (eg_gI h3 11 3 l0).bind fun v5 =>
    (some ((((2 : Int32) * v5) + (1 : Int32)))).bind fun v7 =>
    if 0 < v7 then
      ((eg_gL h3 11 9 l0).bind fun v10 =>
      if v7.toInt64 = 0 then none else
      (eg_gI h3 11 3 l0).bind fun v13 =>
      some ((((v10.toUInt64 >>> ((33 : Int32).toInt64.toUInt64 &&& Int64.toUInt64 63)).toInt64 - (v10.toUInt64 >>> ((33 : Int32).toInt64.toUInt64 &&& Int64.toUInt64 63)).toInt64 / v7.toInt64 * v7.toInt64).toInt32 - v13), h3))
    else
      some ((0 : Int32), h3)) else none
theorem fX11_drawSlip_O {h : eg_H} {l0 : Nat} {rE : Int32} {hE : eg_H} (hF : fX11_drawSlip h l0 = some (rE, hE)) : eg_isO h 11 l0 := (eg_ifn hF).1
set_option maxRecDepth 20000 in
theorem mX11_drawSlip {h : eg_H} {l0 : Nat} {rE : Int32} {hE : eg_H} (hF : fX11_drawSlip h l0 = some (rE, hE)) : eg_Met yX11_drawSlip cX11_drawSlip 2 (some .int) 1 [.ref l0] h (some (.int rE)) hE := by
  refine eg_enter rfl (Nat.le_of_ble_eq_true rfl) ?_
  show eg_AW (RX11, cX11_drawSlip, 2, 1, none, "drawSlip", (some .int)) (eg_Zm (some (.int rE)) hE h) (eg_nc hE) (eg_ns hE) h 0 [(0, .ref l0)] [] h
  replace hF := (eg_ifn hF).2
  refine eg_aload_n (i := 0) 0 dX11_drawSlip_0 rfl rfl ?_
  refine eg_aload_n (i := 0) 0 dX11_drawSlip_1 rfl rfl ?_
  replace hF := eg_bind hF; obtain ⟨v1, e2, hF⟩ := hF
  refine eg_getL dX11_drawSlip_2 e2 (Nat.le_of_ble_eq_true rfl) (Nat.le_of_ble_eq_true rfl) rfl ew_246 ?_
  refine eg_ldc2 (v := (6364136223846793005 : Int64)) dX11_drawSlip_5 ew_1175 ?_
  refine eg_lmul dX11_drawSlip_8 ?_
  refine eg_ldc2 (v := (1442695040888963407 : Int64)) dX11_drawSlip_9 ew_1176 ?_
  refine eg_ladd dX11_drawSlip_12 ?_
  replace hF := eg_bind hF; obtain ⟨h3, e4, hF⟩ := hF
  refine eg_putL dX11_drawSlip_13 e4 (Nat.le_of_ble_eq_true rfl) (Nat.le_of_ble_eq_true rfl) rfl ew_246 rfl ?_
  refine eg_iconst (v := (2 : Int32)) dX11_drawSlip_16 (by decide) ?_
  refine eg_aload_n (i := 0) 0 dX11_drawSlip_17 rfl rfl ?_
  replace hF := eg_bind hF; obtain ⟨v5, e6, hF⟩ := hF
  refine eg_getI dX11_drawSlip_18 e6 (Nat.le_of_ble_eq_true rfl) (Nat.le_of_ble_eq_true rfl) rfl ew_240 ?_
  refine eg_imul dX11_drawSlip_21 ?_
  refine eg_iconst (v := (1 : Int32)) dX11_drawSlip_22 (by decide) ?_
  refine eg_iadd dX11_drawSlip_23 ?_
  replace hF := eg_bind hF; obtain ⟨v7, e8, hF⟩ := hF
  replace e8 := Option.some.inj e8
  rw [e8]
  refine eg_istore_n (i := 1) [(1, .int v7), (0, .ref l0)] dX11_drawSlip_24 rfl (Nat.le_of_ble_eq_true rfl) rfl ?_
  refine eg_iload_n (i := 1) 0 dX11_drawSlip_25 rfl rfl ?_
  refine eg_if_gt 33 dX11_drawSlip_26 rfl (fun c9 => ?_) (fun c9 => ?_)
  · replace hF := eg_it c9 hF
    refine eg_aload_n (i := 0) 1 dX11_drawSlip_33 rfl rfl ?_
    replace hF := eg_bind hF; obtain ⟨v10, e11, hF⟩ := hF
    refine eg_getL dX11_drawSlip_34 e11 (Nat.le_of_ble_eq_true rfl) (Nat.le_of_ble_eq_true rfl) rfl ew_246 ?_
    refine eg_bipush (v := (33 : Int32)) dX11_drawSlip_37 (by decide) ?_
    refine eg_lushr dX11_drawSlip_39 ?_
    refine eg_iload_n (i := 1) 0 dX11_drawSlip_40 rfl rfl ?_
    refine eg_i2l dX11_drawSlip_41 ?_
    replace hF := eg_nif hF; obtain ⟨c12, hF⟩ := hF
    refine eg_lrem dX11_drawSlip_42 c12 ?_
    refine eg_l2i dX11_drawSlip_43 ?_
    refine eg_aload_n (i := 0) 1 dX11_drawSlip_44 rfl rfl ?_
    replace hF := eg_bind hF; obtain ⟨v13, e14, hF⟩ := hF
    refine eg_getI dX11_drawSlip_45 e14 (Nat.le_of_ble_eq_true rfl) (Nat.le_of_ble_eq_true rfl) rfl ew_240 ?_
    refine eg_isub dX11_drawSlip_48 ?_
    exact eg_iretE dX11_drawSlip_49 hF
  · replace hF := eg_if c9 hF
    refine eg_iconst (v := (0 : Int32)) dX11_drawSlip_29 (by decide) ?_
    refine eg_goto 49 dX11_drawSlip_30 rfl ?_
    exact eg_iretE dX11_drawSlip_49 hF
theorem dX11_isCaughtByDraw_0 : decode cX11_isCaughtByDraw 0 = .ok (.iload_n 1, 1) := by decide +kernel
theorem dX11_isCaughtByDraw_1 : decode cX11_isCaughtByDraw 1 = .ok (.invokestatic 93, 3) := by decide +kernel
theorem dX11_isCaughtByDraw_4 : decode cX11_isCaughtByDraw 4 = .ok (.istore_n 3, 1) := by decide +kernel
theorem dX11_isCaughtByDraw_5 : decode cX11_isCaughtByDraw 5 = .ok (.iload_n 1, 1) := by decide +kernel
theorem dX11_isCaughtByDraw_6 : decode cX11_isCaughtByDraw 6 = .ok (.invokestatic 96, 3) := by decide +kernel
theorem dX11_isCaughtByDraw_9 : decode cX11_isCaughtByDraw 9 = .ok (.aload_n 0, 1) := by decide +kernel
theorem dX11_isCaughtByDraw_10 : decode cX11_isCaughtByDraw 10 = .ok (.invokevirtual 99, 3) := by decide +kernel
theorem dX11_isCaughtByDraw_13 : decode cX11_isCaughtByDraw 13 = .ok (.iadd, 1) := by decide +kernel
theorem dX11_isCaughtByDraw_14 : decode cX11_isCaughtByDraw 14 = .ok (.aload_n 0, 1) := by decide +kernel
theorem dX11_isCaughtByDraw_15 : decode cX11_isCaughtByDraw 15 = .ok (.getfield 32, 3) := by decide +kernel
theorem dX11_isCaughtByDraw_18 : decode cX11_isCaughtByDraw 18 = .ok (.iload_n 3, 1) := by decide +kernel
theorem dX11_isCaughtByDraw_19 : decode cX11_isCaughtByDraw 19 = .ok (.imul, 1) := by decide +kernel
theorem dX11_isCaughtByDraw_20 : decode cX11_isCaughtByDraw 20 = .ok (.iconst 4, 1) := by decide +kernel
theorem dX11_isCaughtByDraw_21 : decode cX11_isCaughtByDraw 21 = .ok (.idiv, 1) := by decide +kernel
theorem dX11_isCaughtByDraw_22 : decode cX11_isCaughtByDraw 22 = .ok (.iadd, 1) := by decide +kernel
theorem dX11_isCaughtByDraw_23 : decode cX11_isCaughtByDraw 23 = .ok (.istore 4, 2) := by decide +kernel
theorem dX11_isCaughtByDraw_25 : decode cX11_isCaughtByDraw 25 = .ok (.iload 4, 2) := by decide +kernel
theorem dX11_isCaughtByDraw_27 : decode cX11_isCaughtByDraw 27 = .ok (.aload_n 0, 1) := by decide +kernel
theorem dX11_isCaughtByDraw_28 : decode cX11_isCaughtByDraw 28 = .ok (.getfield 29, 3) := by decide +kernel
theorem dX11_isCaughtByDraw_31 : decode cX11_isCaughtByDraw 31 = .ok (.ineg, 1) := by decide +kernel
theorem dX11_isCaughtByDraw_32 : decode cX11_isCaughtByDraw 32 = .ok (.if_icmp .lt 35, 3) := by decide +kernel
theorem dX11_isCaughtByDraw_35 : decode cX11_isCaughtByDraw 35 = .ok (.iload 4, 2) := by decide +kernel
theorem dX11_isCaughtByDraw_37 : decode cX11_isCaughtByDraw 37 = .ok (.aload_n 0, 1) := by decide +kernel
theorem dX11_isCaughtByDraw_38 : decode cX11_isCaughtByDraw 38 = .ok (.getfield 29, 3) := by decide +kernel
theorem dX11_isCaughtByDraw_41 : decode cX11_isCaughtByDraw 41 = .ok (.if_icmp .gt 26, 3) := by decide +kernel
theorem dX11_isCaughtByDraw_44 : decode cX11_isCaughtByDraw 44 = .ok (.aload_n 0, 1) := by decide +kernel
theorem dX11_isCaughtByDraw_45 : decode cX11_isCaughtByDraw 45 = .ok (.aload_n 0, 1) := by decide +kernel
theorem dX11_isCaughtByDraw_46 : decode cX11_isCaughtByDraw 46 = .ok (.getfield 15, 3) := by decide +kernel
theorem dX11_isCaughtByDraw_49 : decode cX11_isCaughtByDraw 49 = .ok (.iload_n 2, 1) := by decide +kernel
theorem dX11_isCaughtByDraw_50 : decode cX11_isCaughtByDraw 50 = .ok (.iload_n 3, 1) := by decide +kernel
theorem dX11_isCaughtByDraw_51 : decode cX11_isCaughtByDraw 51 = .ok (.iload 4, 2) := by decide +kernel
theorem dX11_isCaughtByDraw_53 : decode cX11_isCaughtByDraw 53 = .ok (.invokevirtual 70, 3) := by decide +kernel
theorem dX11_isCaughtByDraw_56 : decode cX11_isCaughtByDraw 56 = .ok (.aload_n 0, 1) := by decide +kernel
theorem dX11_isCaughtByDraw_57 : decode cX11_isCaughtByDraw 57 = .ok (.getfield 35, 3) := by decide +kernel
theorem dX11_isCaughtByDraw_60 : decode cX11_isCaughtByDraw 60 = .ok (.if_icmp .gt 7, 3) := by decide +kernel
theorem dX11_isCaughtByDraw_63 : decode cX11_isCaughtByDraw 63 = .ok (.iconst 1, 1) := by decide +kernel
theorem dX11_isCaughtByDraw_64 : decode cX11_isCaughtByDraw 64 = .ok (.goto 4, 3) := by decide +kernel
theorem dX11_isCaughtByDraw_67 : decode cX11_isCaughtByDraw 67 = .ok (.iconst 0, 1) := by decide +kernel
theorem dX11_isCaughtByDraw_68 : decode cX11_isCaughtByDraw 68 = .ok (.ireturn, 1) := by decide +kernel
def fX11_isCaughtByDraw (h : eg_H) (l0 : Nat) (l1 : Int32) (l2 : Int32) : Option (Int32 × eg_H) :=
  if eg_isO h 11 l0 then (
    (fX11_bowIn h l1).bind fun ⟨v2, h1⟩ =>
    (fX11_aimIn h1 l1).bind fun ⟨v5, h4⟩ =>
    (fX11_drawSlip h4 l0).bind fun ⟨v8, h7⟩ =>
    (eg_gI h7 11 7 l0).bind fun v10 =>
    (some (((v5 + v8) + ((v10 * v2) / (4 : Int32))))).bind fun v12 =>
    (eg_gI h7 11 6 l0).bind fun v14 =>
    if v12 < (-v14) then
      (some ((0 : Int32), h7))
    else
      (eg_gI h7 11 6 l0).bind fun v17 =>
      if v17 < v12 then
        (some ((0 : Int32), h7))
      else
        (eg_gQ h7 11 2 l0).bind fun q20 =>
        (fX11_forceBy h7 l0 q20 l2 v2 v12).bind fun ⟨v23, h22⟩ =>
        (eg_gI h22 11 8 l0).bind fun v25 =>
        if v25 < v23 then
          (some ((0 : Int32), h22))
        else
          some ((1 : Int32), h22)) else none
theorem fX11_isCaughtByDraw_O {h : eg_H} {l0 : Nat} {l1 : Int32} {l2 : Int32} {rE : Int32} {hE : eg_H} (hF : fX11_isCaughtByDraw h l0 l1 l2 = some (rE, hE)) : eg_isO h 11 l0 := (eg_ifn hF).1
set_option maxRecDepth 20000 in
theorem mX11_isCaughtByDraw {h : eg_H} {l0 : Nat} {l1 : Int32} {l2 : Int32} {rE : Int32} {hE : eg_H} (hF : fX11_isCaughtByDraw h l0 l1 l2 = some (rE, hE)) : eg_Met yX11_isCaughtByDraw cX11_isCaughtByDraw 5 (some .boolean) 3 [.ref l0, .int l1, .int l2] h (some (.int rE)) hE := by
  refine eg_enter rfl (Nat.le_of_ble_eq_true rfl) ?_
  show eg_AW (RX11, cX11_isCaughtByDraw, 5, 3, none, "isCaughtByDraw", (some .boolean)) (eg_Zm (some (.int rE)) hE h) (eg_nc hE) (eg_ns hE) h 0 [(0, .ref l0), (1, .int l1), (2, .int l2)] [] h
  replace hF := (eg_ifn hF).2
  refine eg_iload_n (i := 1) 1 dX11_isCaughtByDraw_0 rfl rfl ?_
  replace hF := eg_bind hF; obtain ⟨⟨v2, h1⟩, e3, hF⟩ := hF
  refine eg_callS (n := 1) [.int l1] dX11_isCaughtByDraw_1 (mX11_bowIn e3) rfl ew_1169 ew_873 ew_106 ew_874 hy_X11_bowIn.2 rfl (Nat.le_of_ble_eq_true rfl) (Nat.le_of_ble_eq_true rfl) (Nat.le_of_ble_eq_true rfl) ?_
  refine eg_istore_n (i := 3) [(3, .int v2), (0, .ref l0), (1, .int l1), (2, .int l2)] dX11_isCaughtByDraw_4 rfl (Nat.le_of_ble_eq_true rfl) rfl ?_
  refine eg_iload_n (i := 1) 2 dX11_isCaughtByDraw_5 rfl rfl ?_
  replace hF := eg_bind hF; obtain ⟨⟨v5, h4⟩, e6, hF⟩ := hF
  refine eg_callS (n := 1) [.int l1] dX11_isCaughtByDraw_6 (mX11_aimIn e6) rfl ew_1170 ew_876 ew_106 ew_877 hy_X11_aimIn.2 rfl (Nat.le_of_ble_eq_true rfl) (Nat.le_of_ble_eq_true rfl) (Nat.le_of_ble_eq_true rfl) ?_
  refine eg_aload_n (i := 0) 1 dX11_isCaughtByDraw_9 rfl rfl ?_
  replace hF := eg_bind hF; obtain ⟨⟨v8, h7⟩, e9, hF⟩ := hF
  refine eg_callV (c := 11) (n := 0) [] dX11_isCaughtByDraw_10 (mX11_drawSlip e9) rfl (fX11_drawSlip_O e9) (Nat.le_of_ble_eq_true rfl) rfl ew_1171 ew_1173 ew_41 ew_106 ew_1174 hy_X11_drawSlip rfl (Nat.le_of_ble_eq_true rfl) (Nat.le_of_ble_eq_true rfl) (Nat.le_of_ble_eq_true rfl) ?_
  refine eg_iadd dX11_isCaughtByDraw_13 ?_
  refine eg_aload_n (i := 0) 1 dX11_isCaughtByDraw_14 rfl rfl ?_
  replace hF := eg_bind hF; obtain ⟨v10, e11, hF⟩ := hF
  refine eg_getI dX11_isCaughtByDraw_15 e11 (Nat.le_of_ble_eq_true rfl) (Nat.le_of_ble_eq_true rfl) rfl ew_244 ?_
  refine eg_iload_n (i := 3) 0 dX11_isCaughtByDraw_18 rfl rfl ?_
  refine eg_imul dX11_isCaughtByDraw_19 ?_
  refine eg_iconst (v := (4 : Int32)) dX11_isCaughtByDraw_20 (by decide) ?_
  refine eg_idiv dX11_isCaughtByDraw_21 (by decide) ?_
  refine eg_iadd dX11_isCaughtByDraw_22 ?_
  replace hF := eg_bind hF; obtain ⟨v12, e13, hF⟩ := hF
  replace e13 := Option.some.inj e13
  rw [e13]
  refine eg_istore (i := 4) [(4, .int v12), (3, .int v2), (0, .ref l0), (1, .int l1), (2, .int l2)] dX11_isCaughtByDraw_23 (Nat.le_of_ble_eq_true rfl) rfl ?_
  refine eg_iload (i := 4) 0 dX11_isCaughtByDraw_25 rfl ?_
  refine eg_aload_n (i := 0) 2 dX11_isCaughtByDraw_27 rfl rfl ?_
  replace hF := eg_bind hF; obtain ⟨v14, e15, hF⟩ := hF
  refine eg_getI dX11_isCaughtByDraw_28 e15 (Nat.le_of_ble_eq_true rfl) (Nat.le_of_ble_eq_true rfl) rfl ew_243 ?_
  refine eg_ineg dX11_isCaughtByDraw_31 ?_
  refine eg_ic_lt 67 dX11_isCaughtByDraw_32 rfl (fun c16 => ?_) (fun c16 => ?_)
  · replace hF := eg_it c16 hF
    refine eg_iconst (v := (0 : Int32)) dX11_isCaughtByDraw_67 (by decide) ?_
    exact eg_zretE dX11_isCaughtByDraw_68 (Or.inl rfl) hF
  · replace hF := eg_if c16 hF
    refine eg_iload (i := 4) 0 dX11_isCaughtByDraw_35 rfl ?_
    refine eg_aload_n (i := 0) 2 dX11_isCaughtByDraw_37 rfl rfl ?_
    replace hF := eg_bind hF; obtain ⟨v17, e18, hF⟩ := hF
    refine eg_getI dX11_isCaughtByDraw_38 e18 (Nat.le_of_ble_eq_true rfl) (Nat.le_of_ble_eq_true rfl) rfl ew_243 ?_
    refine eg_ic_gt 67 dX11_isCaughtByDraw_41 rfl (fun c19 => ?_) (fun c19 => ?_)
    · replace hF := eg_it c19 hF
      refine eg_iconst (v := (0 : Int32)) dX11_isCaughtByDraw_67 (by decide) ?_
      exact eg_zretE dX11_isCaughtByDraw_68 (Or.inl rfl) hF
    · replace hF := eg_if c19 hF
      refine eg_aload_n (i := 0) 2 dX11_isCaughtByDraw_44 rfl rfl ?_
      refine eg_aload_n (i := 0) 2 dX11_isCaughtByDraw_45 rfl rfl ?_
      replace hF := eg_bind hF; obtain ⟨q20, e21, hF⟩ := hF
      refine eg_getQ dX11_isCaughtByDraw_46 e21 (Nat.le_of_ble_eq_true rfl) (Nat.le_of_ble_eq_true rfl) rfl ew_239 ?_
      refine eg_iload_n (i := 2) 4 dX11_isCaughtByDraw_49 rfl rfl ?_
      refine eg_iload_n (i := 3) 1 dX11_isCaughtByDraw_50 rfl rfl ?_
      refine eg_iload (i := 4) 0 dX11_isCaughtByDraw_51 rfl ?_
      replace hF := eg_bind hF; obtain ⟨⟨v23, h22⟩, e24, hF⟩ := hF
      refine eg_callV (c := 11) (n := 4) [va_rf q20, .int l2, .int v2, .int v12] dX11_isCaughtByDraw_53 (mX11_forceBy e24) rfl (fX11_forceBy_O e24) (Nat.le_of_ble_eq_true rfl) rfl ew_819 ew_763 ew_764 ew_106 ew_765 hy_X11_forceBy rfl (Nat.le_of_ble_eq_true rfl) (Nat.le_of_ble_eq_true rfl) (Nat.le_of_ble_eq_true rfl) ?_
      refine eg_aload_n (i := 0) 2 dX11_isCaughtByDraw_56 rfl rfl ?_
      replace hF := eg_bind hF; obtain ⟨v25, e26, hF⟩ := hF
      refine eg_getI dX11_isCaughtByDraw_57 e26 (Nat.le_of_ble_eq_true rfl) (Nat.le_of_ble_eq_true rfl) rfl ew_245 ?_
      refine eg_ic_gt 67 dX11_isCaughtByDraw_60 rfl (fun c27 => ?_) (fun c27 => ?_)
      · replace hF := eg_it c27 hF
        refine eg_iconst (v := (0 : Int32)) dX11_isCaughtByDraw_67 (by decide) ?_
        exact eg_zretE dX11_isCaughtByDraw_68 (Or.inl rfl) hF
      · replace hF := eg_if c27 hF
        refine eg_iconst (v := (1 : Int32)) dX11_isCaughtByDraw_63 (by decide) ?_
        refine eg_goto 68 dX11_isCaughtByDraw_64 rfl ?_
        exact eg_zretE dX11_isCaughtByDraw_68 (Or.inr rfl) hF
theorem dX12_init_0 : decode cX12_init 0 = .ok (.aload_n 0, 1) := by decide +kernel
theorem dX12_init_1 : decode cX12_init 1 = .ok (.invokespecial 1, 3) := by decide +kernel
theorem dX12_init_4 : decode cX12_init 4 = .ok (.aload_n 0, 1) := by decide +kernel
theorem dX12_init_5 : decode cX12_init 5 = .ok (.new 7, 3) := by decide +kernel
theorem dX12_init_8 : decode cX12_init 8 = .ok (.dup, 1) := by decide +kernel
theorem dX12_init_9 : decode cX12_init 9 = .ok (.invokespecial 9, 3) := by decide +kernel
theorem dX12_init_12 : decode cX12_init 12 = .ok (.putfield 10, 3) := by decide +kernel
theorem dX12_init_15 : decode cX12_init 15 = .ok (.aload_n 0, 1) := by decide +kernel
theorem dX12_init_16 : decode cX12_init 16 = .ok (.new 16, 3) := by decide +kernel
theorem dX12_init_19 : decode cX12_init 19 = .ok (.dup, 1) := by decide +kernel
theorem dX12_init_20 : decode cX12_init 20 = .ok (.aload_n 0, 1) := by decide +kernel
theorem dX12_init_21 : decode cX12_init 21 = .ok (.getfield 10, 3) := by decide +kernel
theorem dX12_init_24 : decode cX12_init 24 = .ok (.invokespecial 18, 3) := by decide +kernel
theorem dX12_init_27 : decode cX12_init 27 = .ok (.putfield 21, 3) := by decide +kernel
theorem dX12_init_30 : decode cX12_init 30 = .ok (.aload_n 0, 1) := by decide +kernel
theorem dX12_init_31 : decode cX12_init 31 = .ok (.new 25, 3) := by decide +kernel
theorem dX12_init_34 : decode cX12_init 34 = .ok (.dup, 1) := by decide +kernel
theorem dX12_init_35 : decode cX12_init 35 = .ok (.aload_n 0, 1) := by decide +kernel
theorem dX12_init_36 : decode cX12_init 36 = .ok (.getfield 10, 3) := by decide +kernel
theorem dX12_init_39 : decode cX12_init 39 = .ok (.invokespecial 27, 3) := by decide +kernel
theorem dX12_init_42 : decode cX12_init 42 = .ok (.putfield 28, 3) := by decide +kernel
theorem dX12_init_45 : decode cX12_init 45 = .ok (.aload_n 0, 1) := by decide +kernel
theorem dX12_init_46 : decode cX12_init 46 = .ok (.new 32, 3) := by decide +kernel
theorem dX12_init_49 : decode cX12_init 49 = .ok (.dup, 1) := by decide +kernel
theorem dX12_init_50 : decode cX12_init 50 = .ok (.invokespecial 34, 3) := by decide +kernel
theorem dX12_init_53 : decode cX12_init 53 = .ok (.putfield 35, 3) := by decide +kernel
theorem dX12_init_56 : decode cX12_init 56 = .ok (.aload_n 0, 1) := by decide +kernel
theorem dX12_init_57 : decode cX12_init 57 = .ok (.iconst 4, 1) := by decide +kernel
theorem dX12_init_58 : decode cX12_init 58 = .ok (.anewarray 39, 3) := by decide +kernel
theorem dX12_init_61 : decode cX12_init 61 = .ok (.putfield 41, 3) := by decide +kernel
theorem dX12_init_64 : decode cX12_init 64 = .ok (.aload_n 0, 1) := by decide +kernel
theorem dX12_init_65 : decode cX12_init 65 = .ok (.iconst 0, 1) := by decide +kernel
theorem dX12_init_66 : decode cX12_init 66 = .ok (.putfield 45, 3) := by decide +kernel
theorem dX12_init_69 : decode cX12_init 69 = .ok (.aload_n 0, 1) := by decide +kernel
theorem dX12_init_70 : decode cX12_init 70 = .ok (.iconst (-1), 1) := by decide +kernel
theorem dX12_init_71 : decode cX12_init 71 = .ok (.putfield 49, 3) := by decide +kernel
theorem dX12_init_74 : decode cX12_init 74 = .ok (.aload_n 0, 1) := by decide +kernel
theorem dX12_init_75 : decode cX12_init 75 = .ok (.iconst 4, 1) := by decide +kernel
theorem dX12_init_76 : decode cX12_init 76 = .ok (.anewarray 52, 3) := by decide +kernel
theorem dX12_init_79 : decode cX12_init 79 = .ok (.putfield 54, 3) := by decide +kernel
theorem dX12_init_82 : decode cX12_init 82 = .ok (.aload_n 0, 1) := by decide +kernel
theorem dX12_init_83 : decode cX12_init 83 = .ok (.iconst 0, 1) := by decide +kernel
theorem dX12_init_84 : decode cX12_init 84 = .ok (.putfield 58, 3) := by decide +kernel
theorem dX12_init_87 : decode cX12_init 87 = .ok (.aload_n 0, 1) := by decide +kernel
theorem dX12_init_88 : decode cX12_init 88 = .ok (.new 61, 3) := by decide +kernel
theorem dX12_init_91 : decode cX12_init 91 = .ok (.dup, 1) := by decide +kernel
theorem dX12_init_92 : decode cX12_init 92 = .ok (.bipush 20, 2) := by decide +kernel
theorem dX12_init_94 : decode cX12_init 94 = .ok (.invokespecial 63, 3) := by decide +kernel
theorem dX12_init_97 : decode cX12_init 97 = .ok (.putfield 66, 3) := by decide +kernel
theorem dX12_init_100 : decode cX12_init 100 = .ok (.aload_n 0, 1) := by decide +kernel
theorem dX12_init_101 : decode cX12_init 101 = .ok (.new 61, 3) := by decide +kernel
theorem dX12_init_104 : decode cX12_init 104 = .ok (.dup, 1) := by decide +kernel
theorem dX12_init_105 : decode cX12_init 105 = .ok (.bipush 20, 2) := by decide +kernel
theorem dX12_init_107 : decode cX12_init 107 = .ok (.invokespecial 63, 3) := by decide +kernel
theorem dX12_init_110 : decode cX12_init 110 = .ok (.putfield 70, 3) := by decide +kernel
theorem dX12_init_113 : decode cX12_init 113 = .ok (.aload_n 0, 1) := by decide +kernel
theorem dX12_init_114 : decode cX12_init 114 = .ok (.new 61, 3) := by decide +kernel
theorem dX12_init_117 : decode cX12_init 117 = .ok (.dup, 1) := by decide +kernel
theorem dX12_init_118 : decode cX12_init 118 = .ok (.bipush 40, 2) := by decide +kernel
theorem dX12_init_120 : decode cX12_init 120 = .ok (.invokespecial 63, 3) := by decide +kernel
theorem dX12_init_123 : decode cX12_init 123 = .ok (.putfield 73, 3) := by decide +kernel
theorem dX12_init_126 : decode cX12_init 126 = .ok (.aload_n 0, 1) := by decide +kernel
theorem dX12_init_127 : decode cX12_init 127 = .ok (.new 61, 3) := by decide +kernel
theorem dX12_init_130 : decode cX12_init 130 = .ok (.dup, 1) := by decide +kernel
theorem dX12_init_131 : decode cX12_init 131 = .ok (.bipush 40, 2) := by decide +kernel
theorem dX12_init_133 : decode cX12_init 133 = .ok (.invokespecial 63, 3) := by decide +kernel
theorem dX12_init_136 : decode cX12_init 136 = .ok (.putfield 76, 3) := by decide +kernel
theorem dX12_init_139 : decode cX12_init 139 = .ok (.aload_n 0, 1) := by decide +kernel
theorem dX12_init_140 : decode cX12_init 140 = .ok (.iconst 4, 1) := by decide +kernel
theorem dX12_init_141 : decode cX12_init 141 = .ok (.newarray .int, 2) := by decide +kernel
theorem dX12_init_143 : decode cX12_init 143 = .ok (.putfield 79, 3) := by decide +kernel
theorem dX12_init_146 : decode cX12_init 146 = .ok (.aload_n 0, 1) := by decide +kernel
theorem dX12_init_147 : decode cX12_init 147 = .ok (.iconst 0, 1) := by decide +kernel
theorem dX12_init_148 : decode cX12_init 148 = .ok (.putfield 83, 3) := by decide +kernel
theorem dX12_init_151 : decode cX12_init 151 = .ok (.aload_n 0, 1) := by decide +kernel
theorem dX12_init_152 : decode cX12_init 152 = .ok (.new 87, 3) := by decide +kernel
theorem dX12_init_155 : decode cX12_init 155 = .ok (.dup, 1) := by decide +kernel
theorem dX12_init_156 : decode cX12_init 156 = .ok (.aload_n 0, 1) := by decide +kernel
theorem dX12_init_157 : decode cX12_init 157 = .ok (.getfield 35, 3) := by decide +kernel
theorem dX12_init_160 : decode cX12_init 160 = .ok (.invokespecial 89, 3) := by decide +kernel
theorem dX12_init_163 : decode cX12_init 163 = .ok (.putfield 92, 3) := by decide +kernel
theorem dX12_init_166 : decode cX12_init 166 = .ok (.aload_n 0, 1) := by decide +kernel
theorem dX12_init_167 : decode cX12_init 167 = .ok (.new 96, 3) := by decide +kernel
theorem dX12_init_170 : decode cX12_init 170 = .ok (.dup, 1) := by decide +kernel
theorem dX12_init_171 : decode cX12_init 171 = .ok (.aload_n 0, 1) := by decide +kernel
theorem dX12_init_172 : decode cX12_init 172 = .ok (.getfield 35, 3) := by decide +kernel
theorem dX12_init_175 : decode cX12_init 175 = .ok (.aload_n 0, 1) := by decide +kernel
theorem dX12_init_176 : decode cX12_init 176 = .ok (.getfield 92, 3) := by decide +kernel
theorem dX12_init_179 : decode cX12_init 179 = .ok (.invokespecial 98, 3) := by decide +kernel
theorem dX12_init_182 : decode cX12_init 182 = .ok (.putfield 101, 3) := by decide +kernel
theorem dX12_init_185 : decode cX12_init 185 = .ok (.aload_n 0, 1) := by decide +kernel
theorem dX12_init_186 : decode cX12_init 186 = .ok (.iconst 3, 1) := by decide +kernel
theorem dX12_init_187 : decode cX12_init 187 = .ok (.anewarray 105, 3) := by decide +kernel
theorem dX12_init_190 : decode cX12_init 190 = .ok (.putfield 107, 3) := by decide +kernel
theorem dX12_init_193 : decode cX12_init 193 = .ok (.iconst 0, 1) := by decide +kernel
theorem dX12_init_194 : decode cX12_init 194 = .ok (.istore_n 1, 1) := by decide +kernel
theorem dX12_init_195 : decode cX12_init 195 = .ok (.iload_n 1, 1) := by decide +kernel
theorem dX12_init_196 : decode cX12_init 196 = .ok (.aload_n 0, 1) := by decide +kernel
theorem dX12_init_197 : decode cX12_init 197 = .ok (.getfield 107, 3) := by decide +kernel
theorem dX12_init_200 : decode cX12_init 200 = .ok (.arraylength, 1) := by decide +kernel
theorem dX12_init_201 : decode cX12_init 201 = .ok (.if_icmp .ge 26, 3) := by decide +kernel
theorem dX12_init_204 : decode cX12_init 204 = .ok (.aload_n 0, 1) := by decide +kernel
theorem dX12_init_205 : decode cX12_init 205 = .ok (.getfield 107, 3) := by decide +kernel
theorem dX12_init_208 : decode cX12_init 208 = .ok (.iload_n 1, 1) := by decide +kernel
theorem dX12_init_209 : decode cX12_init 209 = .ok (.new 105, 3) := by decide +kernel
theorem dX12_init_212 : decode cX12_init 212 = .ok (.dup, 1) := by decide +kernel
theorem dX12_init_213 : decode cX12_init 213 = .ok (.aload_n 0, 1) := by decide +kernel
theorem dX12_init_214 : decode cX12_init 214 = .ok (.getfield 35, 3) := by decide +kernel
theorem dX12_init_217 : decode cX12_init 217 = .ok (.invokespecial 111, 3) := by decide +kernel
theorem dX12_init_220 : decode cX12_init 220 = .ok (.aastore, 1) := by decide +kernel
theorem dX12_init_221 : decode cX12_init 221 = .ok (.iinc 1 1, 3) := by decide +kernel
theorem dX12_init_224 : decode cX12_init 224 = .ok (.goto (-29), 3) := by decide +kernel
theorem dX12_init_227 : decode cX12_init 227 = .ok (.aload_n 0, 1) := by decide +kernel
theorem dX12_init_228 : decode cX12_init 228 = .ok (.new 112, 3) := by decide +kernel
theorem dX12_init_231 : decode cX12_init 231 = .ok (.dup, 1) := by decide +kernel
theorem dX12_init_232 : decode cX12_init 232 = .ok (.invokespecial 114, 3) := by decide +kernel
theorem dX12_init_235 : decode cX12_init 235 = .ok (.putfield 115, 3) := by decide +kernel
theorem dX12_init_238 : decode cX12_init 238 = .ok (.return_, 1) := by decide +kernel
def fX12_init_L195 : Nat → eg_H → Nat → Int32 → Option (Nat × eg_H)
  | 0, _, _, _ => none
  | n + 1, h, l0, l1 =>
    (eg_gR h 12 17 l0).bind fun p1 =>
    (eg_al h p1).bind fun v3 =>
    if v3 ≤ l1 then
      (some (l0, h))
    else
      (eg_gR h 12 17 l0).bind fun p6 =>
      (some (eg_nc h, eg_new h 2 (eg_nf 2))).bind fun ⟨p8, h9⟩ =>
      (eg_gR h9 12 3 l0).bind fun p11 =>
      (fX2_init h9 p8 p11).bind fun h13 =>
      (eg_wR h13 2 p6 l1 p8).bind fun h15 =>
      fX12_init_L195 n h15 l0 (l1 + (1 : Int32))
set_option maxRecDepth 20000 in
theorem fX12_init_L195_ok {h0 : eg_H} {Z : eg_C → State → Prop} {N S : Nat} : ∀ (n : Nat) (h : eg_H) (l0 : Nat) (l1 : Int32) (eE : Nat × eg_H), fX12_init_L195 n h l0 l1 = some eE → (hk0 : ∀ (l0 : Nat) (h : eg_H), eE = (l0, h) → eg_AW (RX12, cX12_init, 2, 2, none, "<init>", none) Z N S h0 227 [(0, .ref l0)] [] h) → eg_AW (RX12, cX12_init, 2, 2, none, "<init>", none) Z N S h0 195 [(0, .ref l0), (1, .int l1)] [] h := by
  intro n
  induction n with
  | zero => intro h l0 l1 eE hF; exact absurd hF (by intro q; cases q)
  | succ n ih =>
    intro h l0 l1 eE hF hk0
    have hrec := fun (h' : eg_H) (l0 : Nat) (l1 : Int32) hq => ih h' l0 l1 eE hq hk0
    refine eg_iload_n (i := 1) 1 dX12_init_195 rfl rfl ?_
    refine eg_aload_n (i := 0) 0 dX12_init_196 rfl rfl ?_
    replace hF := eg_bind hF; obtain ⟨p1, e2, hF⟩ := hF
    refine eg_getR dX12_init_197 e2 (Nat.le_of_ble_eq_true rfl) (Nat.le_of_ble_eq_true rfl) rfl ew_373 ?_
    replace hF := eg_bind hF; obtain ⟨v3, e4, hF⟩ := hF
    refine eg_alen dX12_init_200 e4 ?_
    refine eg_ic_ge 227 dX12_init_201 rfl (fun c5 => ?_) (fun c5 => ?_)
    · replace hF := eg_it c5 hF
      exact eg_sub [0] [(0, .ref l0)] rfl (hk0 l0 h (Option.some.inj hF).symm)
    · replace hF := eg_if c5 hF
      refine eg_aload_n (i := 0) 0 dX12_init_204 rfl rfl ?_
      replace hF := eg_bind hF; obtain ⟨p6, e7, hF⟩ := hF
      refine eg_getR dX12_init_205 e7 (Nat.le_of_ble_eq_true rfl) (Nat.le_of_ble_eq_true rfl) rfl ew_373 ?_
      refine eg_iload_n (i := 1) 1 dX12_init_208 rfl rfl ?_
      replace hF := eg_bind hF; obtain ⟨⟨p8, h9⟩, e10, hF⟩ := hF
      refine eg_newO (c := 2) dX12_init_209 (Nat.le_of_ble_eq_true rfl) ew_289 ew_291 ew_108 ?_
      replace e10 := Prod.mk.inj (Option.some.inj e10)
      rw [e10.2, e10.1]
      refine eg_dup dX12_init_212 rfl ?_
      refine eg_aload_n (i := 0) 0 dX12_init_213 rfl rfl ?_
      replace hF := eg_bind hF; obtain ⟨p11, e12, hF⟩ := hF
      refine eg_getR dX12_init_214 e12 (Nat.le_of_ble_eq_true rfl) (Nat.le_of_ble_eq_true rfl) rfl ew_359 ?_
      replace hF := eg_bind hF; obtain ⟨h13, e14, hF⟩ := hF
      refine eg_callI (n := 1) [.ref p11] dX12_init_217 (mX2_init e14) rfl ew_292 ew_293 ew_108 ew_294 rfl hy_X2_init.2 rfl (Nat.le_of_ble_eq_true rfl) (Nat.le_of_ble_eq_true rfl) (Nat.le_of_ble_eq_true rfl) ?_
      replace hF := eg_bind hF; obtain ⟨h15, e16, hF⟩ := hF
      refine eg_aast dX12_init_220 e16 (Nat.le_of_ble_eq_true rfl) (Nat.le_of_ble_eq_true rfl) ?_
      refine eg_iinc (i := 1) (v := (l1 + (1 : Int32))) 1 [(1, .int (l1 + (1 : Int32))), (0, .ref l0)] dX12_init_221 rfl rfl (Nat.le_of_ble_eq_true rfl) rfl ?_
      refine eg_goto 195 dX12_init_224 rfl ?_
      exact eg_sub [1, 0] [(0, .ref l0), (1, .int (l1 + (1 : Int32)))] rfl (hrec h15 l0 (l1 + (1 : Int32)) hF)
def fX12_init (h : eg_H) (l0 : Nat) : Option (eg_H) :=
  (some (eg_nc h, eg_new h 10 (eg_nf 10))).bind fun ⟨p1, h2⟩ =>
  (fX10_init h2 p1).bind fun h4 =>
  (eg_pP h4 12 0 l0 (some p1)).bind fun h6 =>
  (some (eg_nc h6, eg_new h6 8 (eg_nf 8))).bind fun ⟨p8, h9⟩ =>
  (eg_gR h9 12 0 l0).bind fun p11 =>
  (fX8_init h9 p8 p11).bind fun h13 =>
  (eg_pP h13 12 1 l0 (some p8)).bind fun h15 =>
  (some (eg_nc h15, eg_new h15 6 (eg_nf 6))).bind fun ⟨p17, h18⟩ =>
  (eg_gR h18 12 0 l0).bind fun p20 =>
  (fX6_init h18 p17 p20).bind fun h22 =>
  (eg_pP h22 12 2 l0 (some p17)).bind fun h24 =>
  (some (eg_nc h24, eg_new h24 7 (eg_nf 7))).bind fun ⟨p26, h27⟩ =>
  (fX7_init h27 p26).bind fun h29 =>
  (eg_pP h29 12 3 l0 (some p26)).bind fun h31 =>
  (eg_na h31 115 (4 : Int32)).bind fun h34 =>
  (some (eg_nc h31)).bind fun p33 =>
  (eg_pP h34 12 4 l0 (some p33)).bind fun h37 =>
  (eg_pI h37 12 5 l0 (0 : Int32)).bind fun h39 =>
  (eg_pI h39 12 6 l0 (-1 : Int32)).bind fun h41 =>
  (eg_na h41 113 (4 : Int32)).bind fun h44 =>
  (some (eg_nc h41)).bind fun p43 =>
  (eg_pP h44 12 7 l0 (some p43)).bind fun h47 =>
  (eg_pI h47 12 8 l0 (0 : Int32)).bind fun h49 =>
  (some (eg_nc h49, eg_new h49 1 (eg_nf 1))).bind fun ⟨p51, h52⟩ =>
  (fX1_init h52 p51 (20 : Int32)).bind fun h54 =>
  (eg_pP h54 12 9 l0 (some p51)).bind fun h56 =>
  (some (eg_nc h56, eg_new h56 1 (eg_nf 1))).bind fun ⟨p58, h59⟩ =>
  (fX1_init h59 p58 (20 : Int32)).bind fun h61 =>
  (eg_pP h61 12 10 l0 (some p58)).bind fun h63 =>
  (some (eg_nc h63, eg_new h63 1 (eg_nf 1))).bind fun ⟨p65, h66⟩ =>
  (fX1_init h66 p65 (40 : Int32)).bind fun h68 =>
  (eg_pP h68 12 11 l0 (some p65)).bind fun h70 =>
  (some (eg_nc h70, eg_new h70 1 (eg_nf 1))).bind fun ⟨p72, h73⟩ =>
  (fX1_init h73 p72 (40 : Int32)).bind fun h75 =>
  (eg_pP h75 12 12 l0 (some p72)).bind fun h77 =>
  (eg_na h77 100 (4 : Int32)).bind fun h80 =>
  (some (eg_nc h77)).bind fun p79 =>
  (eg_pP h80 12 13 l0 (some p79)).bind fun h83 =>
  (eg_pZ h83 12 14 l0 (0 : Int32)).bind fun h85 =>
  (some (eg_nc h85, eg_new h85 11 (eg_nf 11))).bind fun ⟨p87, h88⟩ =>
  (eg_gR h88 12 3 l0).bind fun p90 =>
  (fX11_init h88 p87 p90).bind fun h92 =>
  (eg_pP h92 12 15 l0 (some p87)).bind fun h94 =>
  (some (eg_nc h94, eg_new h94 0 (eg_nf 0))).bind fun ⟨p96, h97⟩ =>
  (eg_gR h97 12 3 l0).bind fun p99 =>
  (eg_gR h97 12 15 l0).bind fun p101 =>
  (fX0_init h97 p96 p99 p101).bind fun h103 =>
  (eg_pP h103 12 16 l0 (some p96)).bind fun h105 =>
  (eg_na h105 112 (3 : Int32)).bind fun h108 =>
  (some (eg_nc h105)).bind fun p107 =>
  (eg_pP h108 12 17 l0 (some p107)).bind fun h111 =>
  (fX12_init_L195 eg_F h111 l0 (0 : Int32)).bind fun e =>
  match e with
  | (p115, h116) =>
    (some (eg_nc h116, eg_new h116 9 (eg_nf 9))).bind fun ⟨p117, h118⟩ =>
    (fX9_init h118 p117).bind fun h120 =>
    (eg_pP h120 12 18 p115 (some p117)).bind fun h122 =>
    some h122
set_option maxRecDepth 20000 in
theorem mX12_init {h : eg_H} {l0 : Nat} {hE : eg_H} (hF : fX12_init h l0 = some hE) : eg_Met yX12_init cX12_init 2 none 2 [.ref l0] h none hE := by
  refine eg_enter rfl (Nat.le_of_ble_eq_true rfl) ?_
  show eg_AW (RX12, cX12_init, 2, 2, none, "<init>", none) (eg_Zm none hE h) (eg_nc hE) (eg_ns hE) h 0 [(0, .ref l0)] [] h
  refine eg_aload_n (i := 0) 0 dX12_init_0 rfl rfl ?_
  refine eg_objInit dX12_init_1 ew_131 (Nat.le_of_ble_eq_true rfl) (Nat.le_of_ble_eq_true rfl) ?_
  refine eg_aload_n (i := 0) 0 dX12_init_4 rfl rfl ?_
  replace hF := eg_bind hF; obtain ⟨⟨p1, h2⟩, e3, hF⟩ := hF
  refine eg_newO (c := 10) dX12_init_5 (Nat.le_of_ble_eq_true rfl) ew_134 ew_135 ew_101 ?_
  replace e3 := Prod.mk.inj (Option.some.inj e3)
  rw [e3.2, e3.1]
  refine eg_dup dX12_init_8 rfl ?_
  replace hF := eg_bind hF; obtain ⟨h4, e5, hF⟩ := hF
  refine eg_callIN (n := 0) [] dX12_init_9 (mX10_init e5) rfl rfl (by decide) ew_137 ew_101 ew_138 hy_X10_init.2 rfl (Nat.le_of_ble_eq_true rfl) (Nat.le_of_ble_eq_true rfl) (Nat.le_of_ble_eq_true rfl) ?_
  replace hF := eg_bind hF; obtain ⟨h6, e7, hF⟩ := hF
  refine eg_putR dX12_init_12 e7 (Nat.le_of_ble_eq_true rfl) (Nat.le_of_ble_eq_true rfl) rfl ew_356 (Or.inr ⟨rfl, rfl, rfl⟩) ?_
  refine eg_aload_n (i := 0) 0 dX12_init_15 rfl rfl ?_
  replace hF := eg_bind hF; obtain ⟨⟨p8, h9⟩, e10, hF⟩ := hF
  refine eg_newO (c := 8) dX12_init_16 (Nat.le_of_ble_eq_true rfl) ew_157 ew_158 ew_102 ?_
  replace e10 := Prod.mk.inj (Option.some.inj e10)
  rw [e10.2, e10.1]
  refine eg_dup dX12_init_19 rfl ?_
  refine eg_aload_n (i := 0) 0 dX12_init_20 rfl rfl ?_
  replace hF := eg_bind hF; obtain ⟨p11, e12, hF⟩ := hF
  refine eg_getR dX12_init_21 e12 (Nat.le_of_ble_eq_true rfl) (Nat.le_of_ble_eq_true rfl) rfl ew_356 ?_
  replace hF := eg_bind hF; obtain ⟨h13, e14, hF⟩ := hF
  refine eg_callI (n := 1) [.ref p11] dX12_init_24 (mX8_init e14) rfl ew_159 ew_160 ew_102 ew_161 rfl hy_X8_init.2 rfl (Nat.le_of_ble_eq_true rfl) (Nat.le_of_ble_eq_true rfl) (Nat.le_of_ble_eq_true rfl) ?_
  replace hF := eg_bind hF; obtain ⟨h15, e16, hF⟩ := hF
  refine eg_putR dX12_init_27 e16 (Nat.le_of_ble_eq_true rfl) (Nat.le_of_ble_eq_true rfl) rfl ew_357 (Or.inr ⟨rfl, rfl, rfl⟩) ?_
  refine eg_aload_n (i := 0) 0 dX12_init_30 rfl rfl ?_
  replace hF := eg_bind hF; obtain ⟨⟨p17, h18⟩, e19, hF⟩ := hF
  refine eg_newO (c := 6) dX12_init_31 (Nat.le_of_ble_eq_true rfl) ew_179 ew_180 ew_103 ?_
  replace e19 := Prod.mk.inj (Option.some.inj e19)
  rw [e19.2, e19.1]
  refine eg_dup dX12_init_34 rfl ?_
  refine eg_aload_n (i := 0) 0 dX12_init_35 rfl rfl ?_
  replace hF := eg_bind hF; obtain ⟨p20, e21, hF⟩ := hF
  refine eg_getR dX12_init_36 e21 (Nat.le_of_ble_eq_true rfl) (Nat.le_of_ble_eq_true rfl) rfl ew_356 ?_
  replace hF := eg_bind hF; obtain ⟨h22, e23, hF⟩ := hF
  refine eg_callI (n := 1) [.ref p20] dX12_init_39 (mX6_init e23) rfl ew_181 ew_182 ew_103 ew_183 rfl hy_X6_init.2 rfl (Nat.le_of_ble_eq_true rfl) (Nat.le_of_ble_eq_true rfl) (Nat.le_of_ble_eq_true rfl) ?_
  replace hF := eg_bind hF; obtain ⟨h24, e25, hF⟩ := hF
  refine eg_putR dX12_init_42 e25 (Nat.le_of_ble_eq_true rfl) (Nat.le_of_ble_eq_true rfl) rfl ew_358 (Or.inr ⟨rfl, rfl, rfl⟩) ?_
  refine eg_aload_n (i := 0) 0 dX12_init_45 rfl rfl ?_
  replace hF := eg_bind hF; obtain ⟨⟨p26, h27⟩, e28, hF⟩ := hF
  refine eg_newO (c := 7) dX12_init_46 (Nat.le_of_ble_eq_true rfl) ew_195 ew_196 ew_104 ?_
  replace e28 := Prod.mk.inj (Option.some.inj e28)
  rw [e28.2, e28.1]
  refine eg_dup dX12_init_49 rfl ?_
  replace hF := eg_bind hF; obtain ⟨h29, e30, hF⟩ := hF
  refine eg_callIN (n := 0) [] dX12_init_50 (mX7_init e30) rfl rfl (by decide) ew_198 ew_104 ew_199 hy_X7_init.2 rfl (Nat.le_of_ble_eq_true rfl) (Nat.le_of_ble_eq_true rfl) (Nat.le_of_ble_eq_true rfl) ?_
  replace hF := eg_bind hF; obtain ⟨h31, e32, hF⟩ := hF
  refine eg_putR dX12_init_53 e32 (Nat.le_of_ble_eq_true rfl) (Nat.le_of_ble_eq_true rfl) rfl ew_359 (Or.inr ⟨rfl, rfl, rfl⟩) ?_
  refine eg_aload_n (i := 0) 0 dX12_init_56 rfl rfl ?_
  refine eg_iconst (v := (4 : Int32)) dX12_init_57 (by decide) ?_
  replace hF := eg_bind hF; obtain ⟨h34, e35, hF⟩ := hF
  replace hF := eg_bind hF; obtain ⟨p33, e36, hF⟩ := hF
  refine eg_newq (c := 5) dX12_init_58 e35 (Nat.le_of_ble_eq_true rfl) (Nat.le_of_ble_eq_true rfl) ew_211 ?_
  replace e36 := Option.some.inj e36
  rw [e36]
  replace hF := eg_bind hF; obtain ⟨h37, e38, hF⟩ := hF
  refine eg_putR dX12_init_61 e38 (Nat.le_of_ble_eq_true rfl) (Nat.le_of_ble_eq_true rfl) rfl ew_360 (Or.inr ⟨rfl, rfl, rfl⟩) ?_
  refine eg_aload_n (i := 0) 0 dX12_init_64 rfl rfl ?_
  refine eg_iconst (v := (0 : Int32)) dX12_init_65 (by decide) ?_
  replace hF := eg_bind hF; obtain ⟨h39, e40, hF⟩ := hF
  refine eg_putI dX12_init_66 e40 (Nat.le_of_ble_eq_true rfl) (Nat.le_of_ble_eq_true rfl) rfl ew_361 (Or.inl rfl) ?_
  refine eg_aload_n (i := 0) 0 dX12_init_69 rfl rfl ?_
  refine eg_iconst (v := (-1 : Int32)) dX12_init_70 (by decide) ?_
  replace hF := eg_bind hF; obtain ⟨h41, e42, hF⟩ := hF
  refine eg_putI dX12_init_71 e42 (Nat.le_of_ble_eq_true rfl) (Nat.le_of_ble_eq_true rfl) rfl ew_362 (Or.inl rfl) ?_
  refine eg_aload_n (i := 0) 0 dX12_init_74 rfl rfl ?_
  refine eg_iconst (v := (4 : Int32)) dX12_init_75 (by decide) ?_
  replace hF := eg_bind hF; obtain ⟨h44, e45, hF⟩ := hF
  replace hF := eg_bind hF; obtain ⟨p43, e46, hF⟩ := hF
  refine eg_newq (c := 3) dX12_init_76 e45 (Nat.le_of_ble_eq_true rfl) (Nat.le_of_ble_eq_true rfl) ew_213 ?_
  replace e46 := Option.some.inj e46
  rw [e46]
  replace hF := eg_bind hF; obtain ⟨h47, e48, hF⟩ := hF
  refine eg_putR dX12_init_79 e48 (Nat.le_of_ble_eq_true rfl) (Nat.le_of_ble_eq_true rfl) rfl ew_363 (Or.inr ⟨rfl, rfl, rfl⟩) ?_
  refine eg_aload_n (i := 0) 0 dX12_init_82 rfl rfl ?_
  refine eg_iconst (v := (0 : Int32)) dX12_init_83 (by decide) ?_
  replace hF := eg_bind hF; obtain ⟨h49, e50, hF⟩ := hF
  refine eg_putI dX12_init_84 e50 (Nat.le_of_ble_eq_true rfl) (Nat.le_of_ble_eq_true rfl) rfl ew_364 (Or.inl rfl) ?_
  refine eg_aload_n (i := 0) 0 dX12_init_87 rfl rfl ?_
  replace hF := eg_bind hF; obtain ⟨⟨p51, h52⟩, e53, hF⟩ := hF
  refine eg_newO (c := 1) dX12_init_88 (Nat.le_of_ble_eq_true rfl) ew_215 ew_216 ew_105 ?_
  replace e53 := Prod.mk.inj (Option.some.inj e53)
  rw [e53.2, e53.1]
  refine eg_dup dX12_init_91 rfl ?_
  refine eg_bipush (v := (20 : Int32)) dX12_init_92 (by decide) ?_
  replace hF := eg_bind hF; obtain ⟨h54, e55, hF⟩ := hF
  refine eg_callI (n := 1) [.int (20 : Int32)] dX12_init_94 (mX1_init e55) rfl ew_217 ew_218 ew_105 ew_219 rfl hy_X1_init.2 rfl (Nat.le_of_ble_eq_true rfl) (Nat.le_of_ble_eq_true rfl) (Nat.le_of_ble_eq_true rfl) ?_
  replace hF := eg_bind hF; obtain ⟨h56, e57, hF⟩ := hF
  refine eg_putR dX12_init_97 e57 (Nat.le_of_ble_eq_true rfl) (Nat.le_of_ble_eq_true rfl) rfl ew_365 (Or.inr ⟨rfl, rfl, rfl⟩) ?_
  refine eg_aload_n (i := 0) 0 dX12_init_100 rfl rfl ?_
  replace hF := eg_bind hF; obtain ⟨⟨p58, h59⟩, e60, hF⟩ := hF
  refine eg_newO (c := 1) dX12_init_101 (Nat.le_of_ble_eq_true rfl) ew_215 ew_216 ew_105 ?_
  replace e60 := Prod.mk.inj (Option.some.inj e60)
  rw [e60.2, e60.1]
  refine eg_dup dX12_init_104 rfl ?_
  refine eg_bipush (v := (20 : Int32)) dX12_init_105 (by decide) ?_
  replace hF := eg_bind hF; obtain ⟨h61, e62, hF⟩ := hF
  refine eg_callI (n := 1) [.int (20 : Int32)] dX12_init_107 (mX1_init e62) rfl ew_217 ew_218 ew_105 ew_219 rfl hy_X1_init.2 rfl (Nat.le_of_ble_eq_true rfl) (Nat.le_of_ble_eq_true rfl) (Nat.le_of_ble_eq_true rfl) ?_
  replace hF := eg_bind hF; obtain ⟨h63, e64, hF⟩ := hF
  refine eg_putR dX12_init_110 e64 (Nat.le_of_ble_eq_true rfl) (Nat.le_of_ble_eq_true rfl) rfl ew_366 (Or.inr ⟨rfl, rfl, rfl⟩) ?_
  refine eg_aload_n (i := 0) 0 dX12_init_113 rfl rfl ?_
  replace hF := eg_bind hF; obtain ⟨⟨p65, h66⟩, e67, hF⟩ := hF
  refine eg_newO (c := 1) dX12_init_114 (Nat.le_of_ble_eq_true rfl) ew_215 ew_216 ew_105 ?_
  replace e67 := Prod.mk.inj (Option.some.inj e67)
  rw [e67.2, e67.1]
  refine eg_dup dX12_init_117 rfl ?_
  refine eg_bipush (v := (40 : Int32)) dX12_init_118 (by decide) ?_
  replace hF := eg_bind hF; obtain ⟨h68, e69, hF⟩ := hF
  refine eg_callI (n := 1) [.int (40 : Int32)] dX12_init_120 (mX1_init e69) rfl ew_217 ew_218 ew_105 ew_219 rfl hy_X1_init.2 rfl (Nat.le_of_ble_eq_true rfl) (Nat.le_of_ble_eq_true rfl) (Nat.le_of_ble_eq_true rfl) ?_
  replace hF := eg_bind hF; obtain ⟨h70, e71, hF⟩ := hF
  refine eg_putR dX12_init_123 e71 (Nat.le_of_ble_eq_true rfl) (Nat.le_of_ble_eq_true rfl) rfl ew_367 (Or.inr ⟨rfl, rfl, rfl⟩) ?_
  refine eg_aload_n (i := 0) 0 dX12_init_126 rfl rfl ?_
  replace hF := eg_bind hF; obtain ⟨⟨p72, h73⟩, e74, hF⟩ := hF
  refine eg_newO (c := 1) dX12_init_127 (Nat.le_of_ble_eq_true rfl) ew_215 ew_216 ew_105 ?_
  replace e74 := Prod.mk.inj (Option.some.inj e74)
  rw [e74.2, e74.1]
  refine eg_dup dX12_init_130 rfl ?_
  refine eg_bipush (v := (40 : Int32)) dX12_init_131 (by decide) ?_
  replace hF := eg_bind hF; obtain ⟨h75, e76, hF⟩ := hF
  refine eg_callI (n := 1) [.int (40 : Int32)] dX12_init_133 (mX1_init e76) rfl ew_217 ew_218 ew_105 ew_219 rfl hy_X1_init.2 rfl (Nat.le_of_ble_eq_true rfl) (Nat.le_of_ble_eq_true rfl) (Nat.le_of_ble_eq_true rfl) ?_
  replace hF := eg_bind hF; obtain ⟨h77, e78, hF⟩ := hF
  refine eg_putR dX12_init_136 e78 (Nat.le_of_ble_eq_true rfl) (Nat.le_of_ble_eq_true rfl) rfl ew_368 (Or.inr ⟨rfl, rfl, rfl⟩) ?_
  refine eg_aload_n (i := 0) 0 dX12_init_139 rfl rfl ?_
  refine eg_iconst (v := (4 : Int32)) dX12_init_140 (by decide) ?_
  replace hF := eg_bind hF; obtain ⟨h80, e81, hF⟩ := hF
  replace hF := eg_bind hF; obtain ⟨p79, e82, hF⟩ := hF
  refine eg_newa .int dX12_init_141 e81 0 (Nat.le_of_ble_eq_true rfl) (Nat.le_of_ble_eq_true rfl) (Nat.le_of_ble_eq_true rfl) (fun _ => rfl) (by decide) rfl ew_156 ?_
  replace e82 := Option.some.inj e82
  rw [e82]
  replace hF := eg_bind hF; obtain ⟨h83, e84, hF⟩ := hF
  refine eg_putR dX12_init_143 e84 (Nat.le_of_ble_eq_true rfl) (Nat.le_of_ble_eq_true rfl) rfl ew_369 (Or.inr ⟨rfl, rfl, rfl⟩) ?_
  refine eg_aload_n (i := 0) 0 dX12_init_146 rfl rfl ?_
  refine eg_iconst (v := (0 : Int32)) dX12_init_147 (by decide) ?_
  replace hF := eg_bind hF; obtain ⟨h85, e86, hF⟩ := hF
  refine eg_putZ dX12_init_148 e86 (Nat.le_of_ble_eq_true rfl) (Nat.le_of_ble_eq_true rfl) rfl ew_370 rfl ?_
  refine eg_aload_n (i := 0) 0 dX12_init_151 rfl rfl ?_
  replace hF := eg_bind hF; obtain ⟨⟨p87, h88⟩, e89, hF⟩ := hF
  refine eg_newO (c := 11) dX12_init_152 (Nat.le_of_ble_eq_true rfl) ew_231 ew_232 ew_106 ?_
  replace e89 := Prod.mk.inj (Option.some.inj e89)
  rw [e89.2, e89.1]
  refine eg_dup dX12_init_155 rfl ?_
  refine eg_aload_n (i := 0) 0 dX12_init_156 rfl rfl ?_
  replace hF := eg_bind hF; obtain ⟨p90, e91, hF⟩ := hF
  refine eg_getR dX12_init_157 e91 (Nat.le_of_ble_eq_true rfl) (Nat.le_of_ble_eq_true rfl) rfl ew_359 ?_
  replace hF := eg_bind hF; obtain ⟨h92, e93, hF⟩ := hF
  refine eg_callI (n := 1) [.ref p90] dX12_init_160 (mX11_init e93) rfl ew_233 ew_234 ew_106 ew_235 rfl hy_X11_init.2 rfl (Nat.le_of_ble_eq_true rfl) (Nat.le_of_ble_eq_true rfl) (Nat.le_of_ble_eq_true rfl) ?_
  replace hF := eg_bind hF; obtain ⟨h94, e95, hF⟩ := hF
  refine eg_putR dX12_init_163 e95 (Nat.le_of_ble_eq_true rfl) (Nat.le_of_ble_eq_true rfl) rfl ew_371 (Or.inr ⟨rfl, rfl, rfl⟩) ?_
  refine eg_aload_n (i := 0) 0 dX12_init_166 rfl rfl ?_
  replace hF := eg_bind hF; obtain ⟨⟨p96, h97⟩, e98, hF⟩ := hF
  refine eg_newO (c := 0) dX12_init_167 (Nat.le_of_ble_eq_true rfl) ew_268 ew_269 ew_107 ?_
  replace e98 := Prod.mk.inj (Option.some.inj e98)
  rw [e98.2, e98.1]
  refine eg_dup dX12_init_170 rfl ?_
  refine eg_aload_n (i := 0) 0 dX12_init_171 rfl rfl ?_
  replace hF := eg_bind hF; obtain ⟨p99, e100, hF⟩ := hF
  refine eg_getR dX12_init_172 e100 (Nat.le_of_ble_eq_true rfl) (Nat.le_of_ble_eq_true rfl) rfl ew_359 ?_
  refine eg_aload_n (i := 0) 0 dX12_init_175 rfl rfl ?_
  replace hF := eg_bind hF; obtain ⟨p101, e102, hF⟩ := hF
  refine eg_getR dX12_init_176 e102 (Nat.le_of_ble_eq_true rfl) (Nat.le_of_ble_eq_true rfl) rfl ew_371 ?_
  replace hF := eg_bind hF; obtain ⟨h103, e104, hF⟩ := hF
  refine eg_callI (n := 2) [.ref p99, .ref p101] dX12_init_179 (mX0_init e104) rfl ew_270 ew_271 ew_107 ew_272 rfl hy_X0_init.2 rfl (Nat.le_of_ble_eq_true rfl) (Nat.le_of_ble_eq_true rfl) (Nat.le_of_ble_eq_true rfl) ?_
  replace hF := eg_bind hF; obtain ⟨h105, e106, hF⟩ := hF
  refine eg_putR dX12_init_182 e106 (Nat.le_of_ble_eq_true rfl) (Nat.le_of_ble_eq_true rfl) rfl ew_372 (Or.inr ⟨rfl, rfl, rfl⟩) ?_
  refine eg_aload_n (i := 0) 0 dX12_init_185 rfl rfl ?_
  refine eg_iconst (v := (3 : Int32)) dX12_init_186 (by decide) ?_
  replace hF := eg_bind hF; obtain ⟨h108, e109, hF⟩ := hF
  replace hF := eg_bind hF; obtain ⟨p107, e110, hF⟩ := hF
  refine eg_newq (c := 2) dX12_init_187 e109 (Nat.le_of_ble_eq_true rfl) (Nat.le_of_ble_eq_true rfl) ew_289 ?_
  replace e110 := Option.some.inj e110
  rw [e110]
  replace hF := eg_bind hF; obtain ⟨h111, e112, hF⟩ := hF
  refine eg_putR dX12_init_190 e112 (Nat.le_of_ble_eq_true rfl) (Nat.le_of_ble_eq_true rfl) rfl ew_373 (Or.inr ⟨rfl, rfl, rfl⟩) ?_
  refine eg_iconst (v := (0 : Int32)) dX12_init_193 (by decide) ?_
  refine eg_istore_n (i := 1) [(1, .int (0 : Int32)), (0, .ref l0)] dX12_init_194 rfl (Nat.le_of_ble_eq_true rfl) rfl ?_
  replace hF := eg_bind hF; obtain ⟨x114, e113, hF⟩ := hF
  refine eg_sub [1, 0] [(0, .ref l0), (1, .int (0 : Int32))] rfl (fX12_init_L195_ok eg_F h111 l0 (0 : Int32) x114 e113 ?_)
  · intro p115 h116 e124
    subst e124
    refine eg_aload_n (i := 0) 0 dX12_init_227 rfl rfl ?_
    replace hF := eg_bind hF; obtain ⟨⟨p117, h118⟩, e119, hF⟩ := hF
    refine eg_newO (c := 9) dX12_init_228 (Nat.le_of_ble_eq_true rfl) ew_312 ew_313 ew_109 ?_
    replace e119 := Prod.mk.inj (Option.some.inj e119)
    rw [e119.2, e119.1]
    refine eg_dup dX12_init_231 rfl ?_
    replace hF := eg_bind hF; obtain ⟨h120, e121, hF⟩ := hF
    refine eg_callIN (n := 0) [] dX12_init_232 (mX9_init e121) rfl rfl (by decide) ew_315 ew_109 ew_316 hy_X9_init.2 rfl (Nat.le_of_ble_eq_true rfl) (Nat.le_of_ble_eq_true rfl) (Nat.le_of_ble_eq_true rfl) ?_
    replace hF := eg_bind hF; obtain ⟨h122, e123, hF⟩ := hF
    refine eg_putR dX12_init_235 e123 (Nat.le_of_ble_eq_true rfl) (Nat.le_of_ble_eq_true rfl) rfl ew_374 (Or.inr ⟨rfl, rfl, rfl⟩) ?_
    exact eg_vretE dX12_init_238 hF
theorem dX12_feed_0 : decode cX12_feed 0 = .ok (.aload_n 0, 1) := by decide +kernel
theorem dX12_feed_1 : decode cX12_feed 1 = .ok (.getfield 10, 3) := by decide +kernel
theorem dX12_feed_4 : decode cX12_feed 4 = .ok (.iload_n 1, 1) := by decide +kernel
theorem dX12_feed_5 : decode cX12_feed 5 = .ok (.invokevirtual 119, 3) := by decide +kernel
theorem dX12_feed_8 : decode cX12_feed 8 = .ok (.aload_n 0, 1) := by decide +kernel
theorem dX12_feed_9 : decode cX12_feed 9 = .ok (.getfield 10, 3) := by decide +kernel
theorem dX12_feed_12 : decode cX12_feed 12 = .ok (.iload_n 2, 1) := by decide +kernel
theorem dX12_feed_13 : decode cX12_feed 13 = .ok (.invokevirtual 119, 3) := by decide +kernel
theorem dX12_feed_16 : decode cX12_feed 16 = .ok (.iadd, 1) := by decide +kernel
theorem dX12_feed_17 : decode cX12_feed 17 = .ok (.aload_n 0, 1) := by decide +kernel
theorem dX12_feed_18 : decode cX12_feed 18 = .ok (.getfield 10, 3) := by decide +kernel
theorem dX12_feed_21 : decode cX12_feed 21 = .ok (.iload_n 3, 1) := by decide +kernel
theorem dX12_feed_22 : decode cX12_feed 22 = .ok (.invokevirtual 119, 3) := by decide +kernel
theorem dX12_feed_25 : decode cX12_feed 25 = .ok (.iadd, 1) := by decide +kernel
theorem dX12_feed_26 : decode cX12_feed 26 = .ok (.aload_n 0, 1) := by decide +kernel
theorem dX12_feed_27 : decode cX12_feed 27 = .ok (.getfield 10, 3) := by decide +kernel
theorem dX12_feed_30 : decode cX12_feed 30 = .ok (.iload 4, 2) := by decide +kernel
theorem dX12_feed_32 : decode cX12_feed 32 = .ok (.invokevirtual 119, 3) := by decide +kernel
theorem dX12_feed_35 : decode cX12_feed 35 = .ok (.iadd, 1) := by decide +kernel
theorem dX12_feed_36 : decode cX12_feed 36 = .ok (.aload_n 0, 1) := by decide +kernel
theorem dX12_feed_37 : decode cX12_feed 37 = .ok (.getfield 10, 3) := by decide +kernel
theorem dX12_feed_40 : decode cX12_feed 40 = .ok (.iload 5, 2) := by decide +kernel
theorem dX12_feed_42 : decode cX12_feed 42 = .ok (.invokevirtual 119, 3) := by decide +kernel
theorem dX12_feed_45 : decode cX12_feed 45 = .ok (.iadd, 1) := by decide +kernel
theorem dX12_feed_46 : decode cX12_feed 46 = .ok (.istore 6, 2) := by decide +kernel
theorem dX12_feed_48 : decode cX12_feed 48 = .ok (.aload_n 0, 1) := by decide +kernel
theorem dX12_feed_49 : decode cX12_feed 49 = .ok (.getfield 10, 3) := by decide +kernel
theorem dX12_feed_52 : decode cX12_feed 52 = .ok (.invokevirtual 123, 3) := by decide +kernel
theorem dX12_feed_55 : decode cX12_feed 55 = .ok (.iload 6, 2) := by decide +kernel
theorem dX12_feed_57 : decode cX12_feed 57 = .ok (.iadd, 1) := by decide +kernel
theorem dX12_feed_58 : decode cX12_feed 58 = .ok (.sipush 160, 3) := by decide +kernel
theorem dX12_feed_61 : decode cX12_feed 61 = .ok (.if_icmp .le 5, 3) := by decide +kernel
theorem dX12_feed_64 : decode cX12_feed 64 = .ok (.iconst (-1), 1) := by decide +kernel
theorem dX12_feed_65 : decode cX12_feed 65 = .ok (.ireturn, 1) := by decide +kernel
theorem dX12_feed_66 : decode cX12_feed 66 = .ok (.aload_n 0, 1) := by decide +kernel
theorem dX12_feed_67 : decode cX12_feed 67 = .ok (.getfield 10, 3) := by decide +kernel
theorem dX12_feed_70 : decode cX12_feed 70 = .ok (.iload_n 1, 1) := by decide +kernel
theorem dX12_feed_71 : decode cX12_feed 71 = .ok (.invokevirtual 127, 3) := by decide +kernel
theorem dX12_feed_74 : decode cX12_feed 74 = .ok (.aload_n 0, 1) := by decide +kernel
theorem dX12_feed_75 : decode cX12_feed 75 = .ok (.getfield 10, 3) := by decide +kernel
theorem dX12_feed_78 : decode cX12_feed 78 = .ok (.iload_n 2, 1) := by decide +kernel
theorem dX12_feed_79 : decode cX12_feed 79 = .ok (.invokevirtual 127, 3) := by decide +kernel
theorem dX12_feed_82 : decode cX12_feed 82 = .ok (.aload_n 0, 1) := by decide +kernel
theorem dX12_feed_83 : decode cX12_feed 83 = .ok (.getfield 10, 3) := by decide +kernel
theorem dX12_feed_86 : decode cX12_feed 86 = .ok (.iload_n 3, 1) := by decide +kernel
theorem dX12_feed_87 : decode cX12_feed 87 = .ok (.invokevirtual 127, 3) := by decide +kernel
theorem dX12_feed_90 : decode cX12_feed 90 = .ok (.aload_n 0, 1) := by decide +kernel
theorem dX12_feed_91 : decode cX12_feed 91 = .ok (.getfield 10, 3) := by decide +kernel
theorem dX12_feed_94 : decode cX12_feed 94 = .ok (.iload 4, 2) := by decide +kernel
theorem dX12_feed_96 : decode cX12_feed 96 = .ok (.invokevirtual 127, 3) := by decide +kernel
theorem dX12_feed_99 : decode cX12_feed 99 = .ok (.aload_n 0, 1) := by decide +kernel
theorem dX12_feed_100 : decode cX12_feed 100 = .ok (.getfield 10, 3) := by decide +kernel
theorem dX12_feed_103 : decode cX12_feed 103 = .ok (.iload 5, 2) := by decide +kernel
theorem dX12_feed_105 : decode cX12_feed 105 = .ok (.invokevirtual 127, 3) := by decide +kernel
theorem dX12_feed_108 : decode cX12_feed 108 = .ok (.aload_n 0, 1) := by decide +kernel
theorem dX12_feed_109 : decode cX12_feed 109 = .ok (.getfield 10, 3) := by decide +kernel
theorem dX12_feed_112 : decode cX12_feed 112 = .ok (.invokevirtual 123, 3) := by decide +kernel
theorem dX12_feed_115 : decode cX12_feed 115 = .ok (.ireturn, 1) := by decide +kernel
def fX12_feed (h : eg_H) (l0 : Nat) (l1 : Int32) (l2 : Int32) (l3 : Int32) (l4 : Int32) (l5 : Int32) : Option (Int32 × eg_H) :=
  if eg_isO h 12 l0 then (
    (eg_gR h 12 0 l0).bind fun p1 =>
    (fX10_bytesIn h p1 l1).bind fun ⟨v4, h3⟩ =>
    (eg_gR h3 12 0 l0).bind fun p6 =>
    (fX10_bytesIn h3 p6 l2).bind fun ⟨v9, h8⟩ =>
    (eg_gR h8 12 0 l0).bind fun p11 =>
    (fX10_bytesIn h8 p11 l3).bind fun ⟨v14, h13⟩ =>
    (eg_gR h13 12 0 l0).bind fun p16 =>
    (fX10_bytesIn h13 p16 l4).bind fun ⟨v19, h18⟩ =>
    (eg_gR h18 12 0 l0).bind fun p21 =>
    (fX10_bytesIn h18 p21 l5).bind fun ⟨v24, h23⟩ =>
    (some (((((v4 + v9) + v14) + v19) + v24))).bind fun v26 =>
    (eg_gR h23 12 0 l0).bind fun p28 =>
    (fX10_length h23 p28).bind fun ⟨v31, h30⟩ =>
    if (v31 + v26) ≤ (160 : Int32) then
      ((eg_gR h30 12 0 l0).bind fun p34 =>
      (fX10_put h30 p34 l1).bind fun h36 =>
      (eg_gR h36 12 0 l0).bind fun p38 =>
      (fX10_put h36 p38 l2).bind fun h40 =>
      (eg_gR h40 12 0 l0).bind fun p42 =>
      (fX10_put h40 p42 l3).bind fun h44 =>
      (eg_gR h44 12 0 l0).bind fun p46 =>
      (fX10_put h44 p46 l4).bind fun h48 =>
      (eg_gR h48 12 0 l0).bind fun p50 =>
      (fX10_put h48 p50 l5).bind fun h52 =>
      (eg_gR h52 12 0 l0).bind fun p54 =>
      (fX10_length h52 p54).bind fun ⟨v57, h56⟩ =>
      some (v57, h56))
    else
      some ((-1 : Int32), h30)) else none
theorem fX12_feed_O {h : eg_H} {l0 : Nat} {l1 : Int32} {l2 : Int32} {l3 : Int32} {l4 : Int32} {l5 : Int32} {rE : Int32} {hE : eg_H} (hF : fX12_feed h l0 l1 l2 l3 l4 l5 = some (rE, hE)) : eg_isO h 12 l0 := (eg_ifn hF).1
set_option maxRecDepth 20000 in
theorem mX12_feed {h : eg_H} {l0 : Nat} {l1 : Int32} {l2 : Int32} {l3 : Int32} {l4 : Int32} {l5 : Int32} {rE : Int32} {hE : eg_H} (hF : fX12_feed h l0 l1 l2 l3 l4 l5 = some (rE, hE)) : eg_Met yX12_feed cX12_feed 7 (some .int) 2 [.ref l0, .int l1, .int l2, .int l3, .int l4, .int l5] h (some (.int rE)) hE := by
  refine eg_enter rfl (Nat.le_of_ble_eq_true rfl) ?_
  show eg_AW (RX12, cX12_feed, 7, 2, none, "feed", (some .int)) (eg_Zm (some (.int rE)) hE h) (eg_nc hE) (eg_ns hE) h 0 [(0, .ref l0), (1, .int l1), (2, .int l2), (3, .int l3), (4, .int l4), (5, .int l5)] [] h
  replace hF := (eg_ifn hF).2
  refine eg_aload_n (i := 0) 0 dX12_feed_0 rfl rfl ?_
  replace hF := eg_bind hF; obtain ⟨p1, e2, hF⟩ := hF
  refine eg_getR dX12_feed_1 e2 (Nat.le_of_ble_eq_true rfl) (Nat.le_of_ble_eq_true rfl) rfl ew_356 ?_
  refine eg_iload_n (i := 1) 1 dX12_feed_4 rfl rfl ?_
  replace hF := eg_bind hF; obtain ⟨⟨v4, h3⟩, e5, hF⟩ := hF
  refine eg_callV (c := 10) (n := 1) [.int l1] dX12_feed_5 (mX10_bytesIn e5) rfl (fX10_bytesIn_O e5) (Nat.le_of_ble_eq_true rfl) rfl ew_418 ew_419 ew_420 ew_101 ew_421 hy_X10_bytesIn rfl (Nat.le_of_ble_eq_true rfl) (Nat.le_of_ble_eq_true rfl) (Nat.le_of_ble_eq_true rfl) ?_
  refine eg_aload_n (i := 0) 0 dX12_feed_8 rfl rfl ?_
  replace hF := eg_bind hF; obtain ⟨p6, e7, hF⟩ := hF
  refine eg_getR dX12_feed_9 e7 (Nat.le_of_ble_eq_true rfl) (Nat.le_of_ble_eq_true rfl) rfl ew_356 ?_
  refine eg_iload_n (i := 2) 2 dX12_feed_12 rfl rfl ?_
  replace hF := eg_bind hF; obtain ⟨⟨v9, h8⟩, e10, hF⟩ := hF
  refine eg_callV (c := 10) (n := 1) [.int l2] dX12_feed_13 (mX10_bytesIn e10) rfl (fX10_bytesIn_O e10) (Nat.le_of_ble_eq_true rfl) rfl ew_418 ew_419 ew_420 ew_101 ew_421 hy_X10_bytesIn rfl (Nat.le_of_ble_eq_true rfl) (Nat.le_of_ble_eq_true rfl) (Nat.le_of_ble_eq_true rfl) ?_
  refine eg_iadd dX12_feed_16 ?_
  refine eg_aload_n (i := 0) 0 dX12_feed_17 rfl rfl ?_
  replace hF := eg_bind hF; obtain ⟨p11, e12, hF⟩ := hF
  refine eg_getR dX12_feed_18 e12 (Nat.le_of_ble_eq_true rfl) (Nat.le_of_ble_eq_true rfl) rfl ew_356 ?_
  refine eg_iload_n (i := 3) 3 dX12_feed_21 rfl rfl ?_
  replace hF := eg_bind hF; obtain ⟨⟨v14, h13⟩, e15, hF⟩ := hF
  refine eg_callV (c := 10) (n := 1) [.int l3] dX12_feed_22 (mX10_bytesIn e15) rfl (fX10_bytesIn_O e15) (Nat.le_of_ble_eq_true rfl) rfl ew_418 ew_419 ew_420 ew_101 ew_421 hy_X10_bytesIn rfl (Nat.le_of_ble_eq_true rfl) (Nat.le_of_ble_eq_true rfl) (Nat.le_of_ble_eq_true rfl) ?_
  refine eg_iadd dX12_feed_25 ?_
  refine eg_aload_n (i := 0) 0 dX12_feed_26 rfl rfl ?_
  replace hF := eg_bind hF; obtain ⟨p16, e17, hF⟩ := hF
  refine eg_getR dX12_feed_27 e17 (Nat.le_of_ble_eq_true rfl) (Nat.le_of_ble_eq_true rfl) rfl ew_356 ?_
  refine eg_iload (i := 4) 4 dX12_feed_30 rfl ?_
  replace hF := eg_bind hF; obtain ⟨⟨v19, h18⟩, e20, hF⟩ := hF
  refine eg_callV (c := 10) (n := 1) [.int l4] dX12_feed_32 (mX10_bytesIn e20) rfl (fX10_bytesIn_O e20) (Nat.le_of_ble_eq_true rfl) rfl ew_418 ew_419 ew_420 ew_101 ew_421 hy_X10_bytesIn rfl (Nat.le_of_ble_eq_true rfl) (Nat.le_of_ble_eq_true rfl) (Nat.le_of_ble_eq_true rfl) ?_
  refine eg_iadd dX12_feed_35 ?_
  refine eg_aload_n (i := 0) 0 dX12_feed_36 rfl rfl ?_
  replace hF := eg_bind hF; obtain ⟨p21, e22, hF⟩ := hF
  refine eg_getR dX12_feed_37 e22 (Nat.le_of_ble_eq_true rfl) (Nat.le_of_ble_eq_true rfl) rfl ew_356 ?_
  refine eg_iload (i := 5) 5 dX12_feed_40 rfl ?_
  replace hF := eg_bind hF; obtain ⟨⟨v24, h23⟩, e25, hF⟩ := hF
  refine eg_callV (c := 10) (n := 1) [.int l5] dX12_feed_42 (mX10_bytesIn e25) rfl (fX10_bytesIn_O e25) (Nat.le_of_ble_eq_true rfl) rfl ew_418 ew_419 ew_420 ew_101 ew_421 hy_X10_bytesIn rfl (Nat.le_of_ble_eq_true rfl) (Nat.le_of_ble_eq_true rfl) (Nat.le_of_ble_eq_true rfl) ?_
  refine eg_iadd dX12_feed_45 ?_
  replace hF := eg_bind hF; obtain ⟨v26, e27, hF⟩ := hF
  replace e27 := Option.some.inj e27
  rw [e27]
  refine eg_istore (i := 6) [(6, .int v26), (0, .ref l0), (1, .int l1), (2, .int l2), (3, .int l3), (4, .int l4), (5, .int l5)] dX12_feed_46 (Nat.le_of_ble_eq_true rfl) rfl ?_
  refine eg_aload_n (i := 0) 1 dX12_feed_48 rfl rfl ?_
  replace hF := eg_bind hF; obtain ⟨p28, e29, hF⟩ := hF
  refine eg_getR dX12_feed_49 e29 (Nat.le_of_ble_eq_true rfl) (Nat.le_of_ble_eq_true rfl) rfl ew_356 ?_
  replace hF := eg_bind hF; obtain ⟨⟨v31, h30⟩, e32, hF⟩ := hF
  refine eg_callV (c := 10) (n := 0) [] dX12_feed_52 (mX10_length e32) rfl (fX10_length_O e32) (Nat.le_of_ble_eq_true rfl) rfl ew_422 ew_423 ew_424 ew_101 ew_425 hy_X10_length rfl (Nat.le_of_ble_eq_true rfl) (Nat.le_of_ble_eq_true rfl) (Nat.le_of_ble_eq_true rfl) ?_
  refine eg_iload (i := 6) 0 dX12_feed_55 rfl ?_
  refine eg_iadd dX12_feed_57 ?_
  refine eg_sipush (v := (160 : Int32)) dX12_feed_58 (by decide) ?_
  refine eg_ic_le 66 dX12_feed_61 rfl (fun c33 => ?_) (fun c33 => ?_)
  · replace hF := eg_it c33 hF
    refine eg_aload_n (i := 0) 1 dX12_feed_66 rfl rfl ?_
    replace hF := eg_bind hF; obtain ⟨p34, e35, hF⟩ := hF
    refine eg_getR dX12_feed_67 e35 (Nat.le_of_ble_eq_true rfl) (Nat.le_of_ble_eq_true rfl) rfl ew_356 ?_
    refine eg_iload_n (i := 1) 2 dX12_feed_70 rfl rfl ?_
    replace hF := eg_bind hF; obtain ⟨h36, e37, hF⟩ := hF
    refine eg_callV (c := 10) (n := 1) [.int l1] dX12_feed_71 (mX10_put e37) rfl (fX10_put_O e37) (Nat.le_of_ble_eq_true rfl) rfl ew_426 ew_427 ew_428 ew_101 ew_429 hy_X10_put rfl (Nat.le_of_ble_eq_true rfl) (Nat.le_of_ble_eq_true rfl) (Nat.le_of_ble_eq_true rfl) ?_
    refine eg_aload_n (i := 0) 1 dX12_feed_74 rfl rfl ?_
    replace hF := eg_bind hF; obtain ⟨p38, e39, hF⟩ := hF
    refine eg_getR dX12_feed_75 e39 (Nat.le_of_ble_eq_true rfl) (Nat.le_of_ble_eq_true rfl) rfl ew_356 ?_
    refine eg_iload_n (i := 2) 3 dX12_feed_78 rfl rfl ?_
    replace hF := eg_bind hF; obtain ⟨h40, e41, hF⟩ := hF
    refine eg_callV (c := 10) (n := 1) [.int l2] dX12_feed_79 (mX10_put e41) rfl (fX10_put_O e41) (Nat.le_of_ble_eq_true rfl) rfl ew_426 ew_427 ew_428 ew_101 ew_429 hy_X10_put rfl (Nat.le_of_ble_eq_true rfl) (Nat.le_of_ble_eq_true rfl) (Nat.le_of_ble_eq_true rfl) ?_
    refine eg_aload_n (i := 0) 1 dX12_feed_82 rfl rfl ?_
    replace hF := eg_bind hF; obtain ⟨p42, e43, hF⟩ := hF
    refine eg_getR dX12_feed_83 e43 (Nat.le_of_ble_eq_true rfl) (Nat.le_of_ble_eq_true rfl) rfl ew_356 ?_
    refine eg_iload_n (i := 3) 4 dX12_feed_86 rfl rfl ?_
    replace hF := eg_bind hF; obtain ⟨h44, e45, hF⟩ := hF
    refine eg_callV (c := 10) (n := 1) [.int l3] dX12_feed_87 (mX10_put e45) rfl (fX10_put_O e45) (Nat.le_of_ble_eq_true rfl) rfl ew_426 ew_427 ew_428 ew_101 ew_429 hy_X10_put rfl (Nat.le_of_ble_eq_true rfl) (Nat.le_of_ble_eq_true rfl) (Nat.le_of_ble_eq_true rfl) ?_
    refine eg_aload_n (i := 0) 1 dX12_feed_90 rfl rfl ?_
    replace hF := eg_bind hF; obtain ⟨p46, e47, hF⟩ := hF
    refine eg_getR dX12_feed_91 e47 (Nat.le_of_ble_eq_true rfl) (Nat.le_of_ble_eq_true rfl) rfl ew_356 ?_
    refine eg_iload (i := 4) 5 dX12_feed_94 rfl ?_
    replace hF := eg_bind hF; obtain ⟨h48, e49, hF⟩ := hF
    refine eg_callV (c := 10) (n := 1) [.int l4] dX12_feed_96 (mX10_put e49) rfl (fX10_put_O e49) (Nat.le_of_ble_eq_true rfl) rfl ew_426 ew_427 ew_428 ew_101 ew_429 hy_X10_put rfl (Nat.le_of_ble_eq_true rfl) (Nat.le_of_ble_eq_true rfl) (Nat.le_of_ble_eq_true rfl) ?_
    refine eg_aload_n (i := 0) 1 dX12_feed_99 rfl rfl ?_
    replace hF := eg_bind hF; obtain ⟨p50, e51, hF⟩ := hF
    refine eg_getR dX12_feed_100 e51 (Nat.le_of_ble_eq_true rfl) (Nat.le_of_ble_eq_true rfl) rfl ew_356 ?_
    refine eg_iload (i := 5) 6 dX12_feed_103 rfl ?_
    replace hF := eg_bind hF; obtain ⟨h52, e53, hF⟩ := hF
    refine eg_callV (c := 10) (n := 1) [.int l5] dX12_feed_105 (mX10_put e53) rfl (fX10_put_O e53) (Nat.le_of_ble_eq_true rfl) rfl ew_426 ew_427 ew_428 ew_101 ew_429 hy_X10_put rfl (Nat.le_of_ble_eq_true rfl) (Nat.le_of_ble_eq_true rfl) (Nat.le_of_ble_eq_true rfl) ?_
    refine eg_aload_n (i := 0) 1 dX12_feed_108 rfl rfl ?_
    replace hF := eg_bind hF; obtain ⟨p54, e55, hF⟩ := hF
    refine eg_getR dX12_feed_109 e55 (Nat.le_of_ble_eq_true rfl) (Nat.le_of_ble_eq_true rfl) rfl ew_356 ?_
    replace hF := eg_bind hF; obtain ⟨⟨v57, h56⟩, e58, hF⟩ := hF
    refine eg_callV (c := 10) (n := 0) [] dX12_feed_112 (mX10_length e58) rfl (fX10_length_O e58) (Nat.le_of_ble_eq_true rfl) rfl ew_422 ew_423 ew_424 ew_101 ew_425 hy_X10_length rfl (Nat.le_of_ble_eq_true rfl) (Nat.le_of_ble_eq_true rfl) (Nat.le_of_ble_eq_true rfl) ?_
    exact eg_iretE dX12_feed_115 hF
  · replace hF := eg_if c33 hF
    refine eg_iconst (v := (-1 : Int32)) dX12_feed_64 (by decide) ?_
    exact eg_iretE dX12_feed_65 hF
