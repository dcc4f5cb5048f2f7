theorem dX6_init_0 : decode cX6_init 0 = .ok (.aload_n 0, 1) := by decide +kernel
theorem dX6_init_1 : decode cX6_init 1 = .ok (.invokespecial 3, 3) := by decide +kernel
theorem dX6_init_4 : decode cX6_init 4 = .ok (.aload_n 0, 1) := by decide +kernel
theorem dX6_init_5 : decode cX6_init 5 = .ok (.sipush 160, 3) := by decide +kernel
theorem dX6_init_8 : decode cX6_init 8 = .ok (.newarray .int, 2) := by decide +kernel
theorem dX6_init_10 : decode cX6_init 10 = .ok (.putfield 9, 3) := by decide +kernel
theorem dX6_init_13 : decode cX6_init 13 = .ok (.aload_n 0, 1) := by decide +kernel
theorem dX6_init_14 : decode cX6_init 14 = .ok (.iconst 0, 1) := by decide +kernel
theorem dX6_init_15 : decode cX6_init 15 = .ok (.putfield 15, 3) := by decide +kernel
theorem dX6_init_18 : decode cX6_init 18 = .ok (.aload_n 0, 1) := by decide +kernel
theorem dX6_init_19 : decode cX6_init 19 = .ok (.aload_n 1, 1) := by decide +kernel
theorem dX6_init_20 : decode cX6_init 20 = .ok (.putfield 19, 3) := by decide +kernel
theorem dX6_init_23 : decode cX6_init 23 = .ok (.return_, 1) := by decide +kernel
def fX6_init (h : eg_H) (l0 : Nat) (l1 : Nat) : Option (eg_H) :=
  (eg_na h 100 (160 : Int32)).bind fun h2 =>
  (some (eg_nc h)).bind fun p1 =>
  (eg_pP h2 6 1 l0 (some p1)).bind fun h5 =>
  (eg_pI h5 6 2 l0 (0 : Int32)).bind fun h7 =>
  (eg_pP h7 6 0 l0 (some l1)).bind fun h9 =>
  some h9
set_option maxRecDepth 20000 in
theorem mX6_init {h : eg_H} {l0 : Nat} {l1 : Nat} {hE : eg_H} (hF : fX6_init h l0 l1 = some hE) : eg_Met yX6_init cX6_init 2 none 1 [.ref l0, .ref l1] h none hE := by
  refine eg_enter rfl (Nat.le_of_ble_eq_true rfl) ?_
  show eg_AW (RX6, cX6_init, 2, 1, none, "<init>", none) (eg_Zm none hE h) (eg_nc hE) (eg_ns hE) h 0 [(0, .ref l0), (1, .ref l1)] [] h
  refine eg_aload_n (i := 0) 0 dX6_init_0 rfl rfl ?_
  refine eg_objInit dX6_init_1 ew_184 (Nat.le_of_ble_eq_true rfl) (Nat.le_of_ble_eq_true rfl) ?_
  refine eg_aload_n (i := 0) 0 dX6_init_4 rfl rfl ?_
  refine eg_sipush (v := (160 : Int32)) dX6_init_5 (by decide) ?_
  replace hF := eg_bind hF; obtain ⟨h2, e3, hF⟩ := hF
  replace hF := eg_bind hF; obtain ⟨p1, e4, hF⟩ := hF
  refine eg_newa .int dX6_init_8 e3 0 (Nat.le_of_ble_eq_true rfl) (Nat.le_of_ble_eq_true rfl) (Nat.le_of_ble_eq_true rfl) (fun _ => rfl) (by decide) rfl ew_156 ?_
  replace e4 := Option.some.inj e4
  rw [e4]
  replace hF := eg_bind hF; obtain ⟨h5, e6, hF⟩ := hF
  refine eg_putR dX6_init_10 e6 (Nat.le_of_ble_eq_true rfl) (Nat.le_of_ble_eq_true rfl) rfl ew_186 (Or.inr ⟨rfl, rfl, rfl⟩) ?_
  refine eg_aload_n (i := 0) 0 dX6_init_13 rfl rfl ?_
  refine eg_iconst (v := (0 : Int32)) dX6_init_14 (by decide) ?_
  replace hF := eg_bind hF; obtain ⟨h7, e8, hF⟩ := hF
  refine eg_putI dX6_init_15 e8 (Nat.le_of_ble_eq_true rfl) (Nat.le_of_ble_eq_true rfl) rfl ew_187 (Or.inl rfl) ?_
  refine eg_aload_n (i := 0) 0 dX6_init_18 rfl rfl ?_
  refine eg_aload_n (i := 1) 1 dX6_init_19 rfl rfl ?_
  replace hF := eg_bind hF; obtain ⟨h9, e10, hF⟩ := hF
  refine eg_putR dX6_init_20 e10 (Nat.le_of_ble_eq_true rfl) (Nat.le_of_ble_eq_true rfl) rfl ew_185 (Or.inr ⟨rfl, rfl, rfl⟩) ?_
  exact eg_vretE dX6_init_23 hF
theorem dX10_settle_0 : decode cX10_settle 0 = .ok (.aload_n 0, 1) := by decide +kernel
theorem dX10_settle_1 : decode cX10_settle 1 = .ok (.getfield 19, 3) := by decide +kernel
theorem dX10_settle_4 : decode cX10_settle 4 = .ok (.aload_n 0, 1) := by decide +kernel
theorem dX10_settle_5 : decode cX10_settle 5 = .ok (.getfield 15, 3) := by decide +kernel
theorem dX10_settle_8 : decode cX10_settle 8 = .ok (.if_icmp .ge 42, 3) := by decide +kernel
theorem dX10_settle_11 : decode cX10_settle 11 = .ok (.aload_n 0, 1) := by decide +kernel
theorem dX10_settle_12 : decode cX10_settle 12 = .ok (.getfield 19, 3) := by decide +kernel
theorem dX10_settle_15 : decode cX10_settle 15 = .ok (.aload_n 0, 1) := by decide +kernel
theorem dX10_settle_16 : decode cX10_settle 16 = .ok (.getfield 9, 3) := by decide +kernel
theorem dX10_settle_19 : decode cX10_settle 19 = .ok (.arraylength, 1) := by decide +kernel
theorem dX10_settle_20 : decode cX10_settle 20 = .ok (.if_icmp .ge 30, 3) := by decide +kernel
theorem dX10_settle_23 : decode cX10_settle 23 = .ok (.aload_n 0, 1) := by decide +kernel
theorem dX10_settle_24 : decode cX10_settle 24 = .ok (.getfield 9, 3) := by decide +kernel
theorem dX10_settle_27 : decode cX10_settle 27 = .ok (.aload_n 0, 1) := by decide +kernel
theorem dX10_settle_28 : decode cX10_settle 28 = .ok (.getfield 19, 3) := by decide +kernel
theorem dX10_settle_31 : decode cX10_settle 31 = .ok (.iaload, 1) := by decide +kernel
theorem dX10_settle_32 : decode cX10_settle 32 = .ok (.bipush 32, 2) := by decide +kernel
theorem dX10_settle_34 : decode cX10_settle 34 = .ok (.if_icmp .ne 16, 3) := by decide +kernel
theorem dX10_settle_37 : decode cX10_settle 37 = .ok (.aload_n 0, 1) := by decide +kernel
theorem dX10_settle_38 : decode cX10_settle 38 = .ok (.dup, 1) := by decide +kernel
theorem dX10_settle_39 : decode cX10_settle 39 = .ok (.getfield 19, 3) := by decide +kernel
theorem dX10_settle_42 : decode cX10_settle 42 = .ok (.iconst 1, 1) := by decide +kernel
theorem dX10_settle_43 : decode cX10_settle 43 = .ok (.iadd, 1) := by decide +kernel
theorem dX10_settle_44 : decode cX10_settle 44 = .ok (.putfield 19, 3) := by decide +kernel
theorem dX10_settle_47 : decode cX10_settle 47 = .ok (.goto (-47), 3) := by decide +kernel
theorem dX10_settle_50 : decode cX10_settle 50 = .ok (.aload_n 0, 1) := by decide +kernel
theorem dX10_settle_51 : decode cX10_settle 51 = .ok (.aload_n 0, 1) := by decide +kernel
theorem dX10_settle_52 : decode cX10_settle 52 = .ok (.getfield 19, 3) := by decide +kernel
theorem dX10_settle_55 : decode cX10_settle 55 = .ok (.aload_n 0, 1) := by decide +kernel
theorem dX10_settle_56 : decode cX10_settle 56 = .ok (.getfield 15, 3) := by decide +kernel
theorem dX10_settle_59 : decode cX10_settle 59 = .ok (.if_icmp .ge 27, 3) := by decide +kernel
theorem dX10_settle_62 : decode cX10_settle 62 = .ok (.aload_n 0, 1) := by decide +kernel
theorem dX10_settle_63 : decode cX10_settle 63 = .ok (.getfield 19, 3) := by decide +kernel
theorem dX10_settle_66 : decode cX10_settle 66 = .ok (.aload_n 0, 1) := by decide +kernel
theorem dX10_settle_67 : decode cX10_settle 67 = .ok (.getfield 9, 3) := by decide +kernel
theorem dX10_settle_70 : decode cX10_settle 70 = .ok (.arraylength, 1) := by decide +kernel
theorem dX10_settle_71 : decode cX10_settle 71 = .ok (.if_icmp .ge 15, 3) := by decide +kernel
theorem dX10_settle_74 : decode cX10_settle 74 = .ok (.aload_n 0, 1) := by decide +kernel
theorem dX10_settle_75 : decode cX10_settle 75 = .ok (.getfield 9, 3) := by decide +kernel
theorem dX10_settle_78 : decode cX10_settle 78 = .ok (.aload_n 0, 1) := by decide +kernel
theorem dX10_settle_79 : decode cX10_settle 79 = .ok (.getfield 19, 3) := by decide +kernel
theorem dX10_settle_82 : decode cX10_settle 82 = .ok (.iaload, 1) := by decide +kernel
theorem dX10_settle_83 : decode cX10_settle 83 = .ok (.goto 4, 3) := by decide +kernel
theorem dX10_settle_86 : decode cX10_settle 86 = .ok (.iconst 0, 1) := by decide +kernel
theorem dX10_settle_87 : decode cX10_settle 87 = .ok (.putfield 22, 3) := by decide +kernel
theorem dX10_settle_90 : decode cX10_settle 90 = .ok (.return_, 1) := by decide +kernel
def fX10_settle_L0 : Nat → eg_H → Nat → Option (Nat × eg_H)
  | 0, _, _ => none
  | n + 1, h, l0 =>
    (eg_gI h 10 2 l0).bind fun v1 =>
    (eg_gI h 10 1 l0).bind fun v3 =>
    if v3 ≤ v1 then
      (some (l0, h))
    else
      (eg_gI h 10 2 l0).bind fun v6 =>
      (eg_gR h 10 0 l0).bind fun p8 =>
      (eg_al h p8).bind fun v10 =>
      if v10 ≤ v6 then
        (some (l0, h))
      else
        (eg_gR h 10 0 l0).bind fun p13 =>
        (eg_gI h 10 2 l0).bind fun v15 =>
        (eg_aI h 100 p13 v15).bind fun v17 =>
        if v17 = (32 : Int32) then
          ((eg_gI h 10 2 l0).bind fun v20 =>
          (eg_pI h 10 2 l0 (v20 + (1 : Int32))).bind fun h22 =>
          fX10_settle_L0 n h22 l0)
        else
          some (l0, h)
set_option maxRecDepth 20000 in
theorem fX10_settle_L0_ok {h0 : eg_H} {Z : eg_C → State → Prop} {N S : Nat} : ∀ (n : Nat) (h : eg_H) (l0 : Nat) (eE : Nat × eg_H), fX10_settle_L0 n h l0 = some eE → (hk0 : ∀ (l0 : Nat) (h : eg_H), eE = (l0, h) → eg_AW (RX10, cX10_settle, 1, 1, none, "settle", none) Z N S h0 50 [(0, .ref l0)] [] h) → eg_AW (RX10, cX10_settle, 1, 1, none, "settle", none) Z N S h0 0 [(0, .ref l0)] [] h := by
  intro n
  induction n with
  | zero => intro h l0 eE hF; exact absurd hF (by intro q; cases q)
  | succ n ih =>
    intro h l0 eE hF hk0
    have hrec := fun (h' : eg_H) (l0 : Nat) hq => ih h' l0 eE hq hk0
    refine eg_aload_n (i := 0) 0 dX10_settle_0 rfl rfl ?_
    replace hF := eg_bind hF; obtain ⟨v1, e2, hF⟩ := hF
    refine eg_getI dX10_settle_1 e2 (Nat.le_of_ble_eq_true rfl) (Nat.le_of_ble_eq_true rfl) rfl ew_142 ?_
    refine eg_aload_n (i := 0) 0 dX10_settle_4 rfl rfl ?_
    replace hF := eg_bind hF; obtain ⟨v3, e4, hF⟩ := hF
    refine eg_getI dX10_settle_5 e4 (Nat.le_of_ble_eq_true rfl) (Nat.le_of_ble_eq_true rfl) rfl ew_141 ?_
    refine eg_ic_ge 50 dX10_settle_8 rfl (fun c5 => ?_) (fun c5 => ?_)
    · replace hF := eg_it c5 hF
      exact (hk0 l0 h (Option.some.inj hF).symm)
    · replace hF := eg_if c5 hF
      refine eg_aload_n (i := 0) 0 dX10_settle_11 rfl rfl ?_
      replace hF := eg_bind hF; obtain ⟨v6, e7, hF⟩ := hF
      refine eg_getI dX10_settle_12 e7 (Nat.le_of_ble_eq_true rfl) (Nat.le_of_ble_eq_true rfl) rfl ew_142 ?_
      refine eg_aload_n (i := 0) 0 dX10_settle_15 rfl rfl ?_
      replace hF := eg_bind hF; obtain ⟨p8, e9, hF⟩ := hF
      refine eg_getR dX10_settle_16 e9 (Nat.le_of_ble_eq_true rfl) (Nat.le_of_ble_eq_true rfl) rfl ew_140 ?_
      replace hF := eg_bind hF; obtain ⟨v10, e11, hF⟩ := hF
      refine eg_alen dX10_settle_19 e11 ?_
      refine eg_ic_ge 50 dX10_settle_20 rfl (fun c12 => ?_) (fun c12 => ?_)
      · replace hF := eg_it c12 hF
        exact (hk0 l0 h (Option.some.inj hF).symm)
      · replace hF := eg_if c12 hF
        refine eg_aload_n (i := 0) 0 dX10_settle_23 rfl rfl ?_
        replace hF := eg_bind hF; obtain ⟨p13, e14, hF⟩ := hF
        refine eg_getR dX10_settle_24 e14 (Nat.le_of_ble_eq_true rfl) (Nat.le_of_ble_eq_true rfl) rfl ew_140 ?_
        refine eg_aload_n (i := 0) 0 dX10_settle_27 rfl rfl ?_
        replace hF := eg_bind hF; obtain ⟨v15, e16, hF⟩ := hF
        refine eg_getI dX10_settle_28 e16 (Nat.le_of_ble_eq_true rfl) (Nat.le_of_ble_eq_true rfl) rfl ew_142 ?_
        replace hF := eg_bind hF; obtain ⟨v17, e18, hF⟩ := hF
        refine eg_iald dX10_settle_31 e18 ?_
        refine eg_bipush (v := (32 : Int32)) dX10_settle_32 (by decide) ?_
        refine eg_ic_ne 50 dX10_settle_34 rfl (fun c19 => ?_) (fun c19 => ?_)
        · replace hF := eg_it c19 hF
          refine eg_aload_n (i := 0) 0 dX10_settle_37 rfl rfl ?_
          refine eg_dup dX10_settle_38 rfl ?_
          replace hF := eg_bind hF; obtain ⟨v20, e21, hF⟩ := hF
          refine eg_getI dX10_settle_39 e21 (Nat.le_of_ble_eq_true rfl) (Nat.le_of_ble_eq_true rfl) rfl ew_142 ?_
          refine eg_iconst (v := (1 : Int32)) dX10_settle_42 (by decide) ?_
          refine eg_iadd dX10_settle_43 ?_
          replace hF := eg_bind hF; obtain ⟨h22, e23, hF⟩ := hF
          refine eg_putI dX10_settle_44 e23 (Nat.le_of_ble_eq_true rfl) (Nat.le_of_ble_eq_true rfl) rfl ew_142 (Or.inl rfl) ?_
          refine eg_goto 0 dX10_settle_47 rfl ?_
          exact (hrec h22 l0 hF)
        · replace hF := eg_if c19 hF
          exact (hk0 l0 h (Option.some.inj hF).symm)
def fX10_settle_j50 (h : eg_H) (l0 : Nat) : Option (eg_H) :=
  (eg_gI h 10 2 l0).bind fun v1 =>
  (eg_gI h 10 1 l0).bind fun v3 =>
  if v3 ≤ v1 then
    ((eg_pI h 10 3 l0 (0 : Int32)).bind fun h6 =>
    some h6)
  else
    (eg_gI h 10 2 l0).bind fun v8 =>
    (eg_gR h 10 0 l0).bind fun p10 =>
    (eg_al h p10).bind fun v12 =>
    if v12 ≤ v8 then
      ((eg_pI h 10 3 l0 (0 : Int32)).bind fun h15 =>
      some h15)
    else
      (eg_gR h 10 0 l0).bind fun p17 =>
      (eg_gI h 10 2 l0).bind fun v19 =>
      (eg_aI h 100 p17 v19).bind fun v21 =>
      (eg_pI h 10 3 l0 v21).bind fun h23 =>
      some h23
set_option maxRecDepth 20000 in
theorem fX10_settle_j50_ok {h0 : eg_H} (h : eg_H) (l0 : Nat) {hE : eg_H} (hF : fX10_settle_j50 h l0 = some hE) : eg_AW (RX10, cX10_settle, 1, 1, none, "settle", none) (eg_Zm none hE h0) (eg_nc hE) (eg_ns hE) h0 50 [(0, .ref l0)] [] h := by
  refine eg_aload_n (i := 0) 0 dX10_settle_50 rfl rfl ?_
  refine eg_aload_n (i := 0) 0 dX10_settle_51 rfl rfl ?_
  replace hF := eg_bind hF; obtain ⟨v1, e2, hF⟩ := hF
  refine eg_getI dX10_settle_52 e2 (Nat.le_of_ble_eq_true rfl) (Nat.le_of_ble_eq_true rfl) rfl ew_142 ?_
  refine eg_aload_n (i := 0) 0 dX10_settle_55 rfl rfl ?_
  replace hF := eg_bind hF; obtain ⟨v3, e4, hF⟩ := hF
  refine eg_getI dX10_settle_56 e4 (Nat.le_of_ble_eq_true rfl) (Nat.le_of_ble_eq_true rfl) rfl ew_141 ?_
  refine eg_ic_ge 86 dX10_settle_59 rfl (fun c5 => ?_) (fun c5 => ?_)
  · replace hF := eg_it c5 hF
    refine eg_iconst (v := (0 : Int32)) dX10_settle_86 (by decide) ?_
    replace hF := eg_bind hF; obtain ⟨h6, e7, hF⟩ := hF
    refine eg_putI dX10_settle_87 e7 (Nat.le_of_ble_eq_true rfl) (Nat.le_of_ble_eq_true rfl) rfl ew_143 (Or.inl rfl) ?_
    exact eg_vretE dX10_settle_90 hF
  · replace hF := eg_if c5 hF
    refine eg_aload_n (i := 0) 0 dX10_settle_62 rfl rfl ?_
    replace hF := eg_bind hF; obtain ⟨v8, e9, hF⟩ := hF
    refine eg_getI dX10_settle_63 e9 (Nat.le_of_ble_eq_true rfl) (Nat.le_of_ble_eq_true rfl) rfl ew_142 ?_
    refine eg_aload_n (i := 0) 0 dX10_settle_66 rfl rfl ?_
    replace hF := eg_bind hF; obtain ⟨p10, e11, hF⟩ := hF
    refine eg_getR dX10_settle_67 e11 (Nat.le_of_ble_eq_true rfl) (Nat.le_of_ble_eq_true rfl) rfl ew_140 ?_
    replace hF := eg_bind hF; obtain ⟨v12, e13, hF⟩ := hF
    refine eg_alen dX10_settle_70 e13 ?_
    refine eg_ic_ge 86 dX10_settle_71 rfl (fun c14 => ?_) (fun c14 => ?_)
    · replace hF := eg_it c14 hF
      refine eg_iconst (v := (0 : Int32)) dX10_settle_86 (by decide) ?_
      replace hF := eg_bind hF; obtain ⟨h15, e16, hF⟩ := hF
      refine eg_putI dX10_settle_87 e16 (Nat.le_of_ble_eq_true rfl) (Nat.le_of_ble_eq_true rfl) rfl ew_143 (Or.inl rfl) ?_
      exact eg_vretE dX10_settle_90 hF
    · replace hF := eg_if c14 hF
      refine eg_aload_n (i := 0) 0 dX10_settle_74 rfl rfl ?_
      replace hF := eg_bind hF; obtain ⟨p17, e18, hF⟩ := hF
      refine eg_getR dX10_settle_75 e18 (Nat.le_of_ble_eq_true rfl) (Nat.le_of_ble_eq_true rfl) rfl ew_140 ?_
      refine eg_aload_n (i := 0) 0 dX10_settle_78 rfl rfl ?_
      replace hF := eg_bind hF; obtain ⟨v19, e20, hF⟩ := hF
      refine eg_getI dX10_settle_79 e20 (Nat.le_of_ble_eq_true rfl) (Nat.le_of_ble_eq_true rfl) rfl ew_142 ?_
      replace hF := eg_bind hF; obtain ⟨v21, e22, hF⟩ := hF
      refine eg_iald dX10_settle_82 e22 ?_
      refine eg_goto 87 dX10_settle_83 rfl ?_
      replace hF := eg_bind hF; obtain ⟨h23, e24, hF⟩ := hF
      refine eg_putI dX10_settle_87 e24 (Nat.le_of_ble_eq_true rfl) (Nat.le_of_ble_eq_true rfl) rfl ew_143 (Or.inl rfl) ?_
      exact eg_vretE dX10_settle_90 hF
def fX10_settle (h : eg_H) (l0 : Nat) : Option (eg_H) :=
  if eg_isO h 10 l0 then (
    (fX10_settle_L0 eg_F h l0).bind fun e =>
    match e with
    | (p3, h4) =>
      fX10_settle_j50 h4 p3) else none
theorem fX10_settle_O {h : eg_H} {l0 : Nat} {hE : eg_H} (hF : fX10_settle h l0 = some hE) : eg_isO h 10 l0 := (eg_ifn hF).1
set_option maxRecDepth 20000 in
theorem mX10_settle {h : eg_H} {l0 : Nat} {hE : eg_H} (hF : fX10_settle h l0 = some hE) : eg_Met yX10_settle cX10_settle 1 none 1 [.ref l0] h none hE := by
  refine eg_enter rfl (Nat.le_of_ble_eq_true rfl) ?_
  show eg_AW (RX10, cX10_settle, 1, 1, none, "settle", none) (eg_Zm none hE h) (eg_nc hE) (eg_ns hE) h 0 [(0, .ref l0)] [] h
  replace hF := (eg_ifn hF).2
  replace hF := eg_bind hF; obtain ⟨x2, e1, hF⟩ := hF
  refine (fX10_settle_L0_ok eg_F h l0 x2 e1 ?_)
  · intro p3 h4 e5
    subst e5
    exact (fX10_settle_j50_ok h4 p3 hF)
theorem dX10_rewind_0 : decode cX10_rewind 0 = .ok (.aload_n 0, 1) := by decide +kernel
theorem dX10_rewind_1 : decode cX10_rewind 1 = .ok (.iconst 0, 1) := by decide +kernel
theorem dX10_rewind_2 : decode cX10_rewind 2 = .ok (.putfield 19, 3) := by decide +kernel
theorem dX10_rewind_5 : decode cX10_rewind 5 = .ok (.aload_n 0, 1) := by decide +kernel
theorem dX10_rewind_6 : decode cX10_rewind 6 = .ok (.iconst (-1), 1) := by decide +kernel
theorem dX10_rewind_7 : decode cX10_rewind 7 = .ok (.putfield 25, 3) := by decide +kernel
theorem dX10_rewind_10 : decode cX10_rewind 10 = .ok (.aload_n 0, 1) := by decide +kernel
theorem dX10_rewind_11 : decode cX10_rewind 11 = .ok (.invokevirtual 28, 3) := by decide +kernel
theorem dX10_rewind_14 : decode cX10_rewind 14 = .ok (.return_, 1) := by decide +kernel
def fX10_rewind (h : eg_H) (l0 : Nat) : Option (eg_H) :=
  if eg_isO h 10 l0 then (
    (eg_pI h 10 2 l0 (0 : Int32)).bind fun h1 =>
    (eg_pI h1 10 4 l0 (-1 : Int32)).bind fun h3 =>
    (fX10_settle h3 l0).bind fun h5 =>
    some h5) else none
theorem fX10_rewind_O {h : eg_H} {l0 : Nat} {hE : eg_H} (hF : fX10_rewind h l0 = some hE) : eg_isO h 10 l0 := (eg_ifn hF).1
set_option maxRecDepth 20000 in
theorem mX10_rewind {h : eg_H} {l0 : Nat} {hE : eg_H} (hF : fX10_rewind h l0 = some hE) : eg_Met yX10_rewind cX10_rewind 1 none 2 [.ref l0] h none hE := by
  refine eg_enter rfl (Nat.le_of_ble_eq_true rfl) ?_
  show eg_AW (RX10, cX10_rewind, 1, 2, none, "rewind", none) (eg_Zm none hE h) (eg_nc hE) (eg_ns hE) h 0 [(0, .ref l0)] [] h
  replace hF := (eg_ifn hF).2
  refine eg_aload_n (i := 0) 0 dX10_rewind_0 rfl rfl ?_
  refine eg_iconst (v := (0 : Int32)) dX10_rewind_1 (by decide) ?_
  replace hF := eg_bind hF; obtain ⟨h1, e2, hF⟩ := hF
  refine eg_putI dX10_rewind_2 e2 (Nat.le_of_ble_eq_true rfl) (Nat.le_of_ble_eq_true rfl) rfl ew_142 (Or.inl rfl) ?_
  refine eg_aload_n (i := 0) 0 dX10_rewind_5 rfl rfl ?_
  refine eg_iconst (v := (-1 : Int32)) dX10_rewind_6 (by decide) ?_
  replace hF := eg_bind hF; obtain ⟨h3, e4, hF⟩ := hF
  refine eg_putI dX10_rewind_7 e4 (Nat.le_of_ble_eq_true rfl) (Nat.le_of_ble_eq_true rfl) rfl ew_144 (Or.inl rfl) ?_
  refine eg_aload_n (i := 0) 0 dX10_rewind_10 rfl rfl ?_
  replace hF := eg_bind hF; obtain ⟨h5, e6, hF⟩ := hF
  refine eg_callV (c := 10) (n := 0) [] dX10_rewind_11 (mX10_settle e6) rfl (fX10_settle_O e6) (Nat.le_of_ble_eq_true rfl) rfl ew_460 ew_462 ew_2 ew_101 ew_463 hy_X10_settle rfl (Nat.le_of_ble_eq_true rfl) (Nat.le_of_ble_eq_true rfl) (Nat.le_of_ble_eq_true rfl) ?_
  exact eg_vretE dX10_rewind_14 hF
theorem dX10_markWrong_0 : decode cX10_markWrong 0 = .ok (.aload_n 0, 1) := by decide +kernel
theorem dX10_markWrong_1 : decode cX10_markWrong 1 = .ok (.getfield 25, 3) := by decide +kernel
theorem dX10_markWrong_4 : decode cX10_markWrong 4 = .ok (.iconst (-1), 1) := by decide +kernel
theorem dX10_markWrong_5 : decode cX10_markWrong 5 = .ok (.if_icmp .ne 8, 3) := by decide +kernel
theorem dX10_markWrong_8 : decode cX10_markWrong 8 = .ok (.aload_n 0, 1) := by decide +kernel
theorem dX10_markWrong_9 : decode cX10_markWrong 9 = .ok (.iload_n 1, 1) := by decide +kernel
theorem dX10_markWrong_10 : decode cX10_markWrong 10 = .ok (.putfield 25, 3) := by decide +kernel
theorem dX10_markWrong_13 : decode cX10_markWrong 13 = .ok (.aload_n 0, 1) := by decide +kernel
theorem dX10_markWrong_14 : decode cX10_markWrong 14 = .ok (.aload_n 0, 1) := by decide +kernel
theorem dX10_markWrong_15 : decode cX10_markWrong 15 = .ok (.getfield 15, 3) := by decide +kernel
theorem dX10_markWrong_18 : decode cX10_markWrong 18 = .ok (.putfield 19, 3) := by decide +kernel
theorem dX10_markWrong_21 : decode cX10_markWrong 21 = .ok (.aload_n 0, 1) := by decide +kernel
theorem dX10_markWrong_22 : decode cX10_markWrong 22 = .ok (.iconst 0, 1) := by decide +kernel
theorem dX10_markWrong_23 : decode cX10_markWrong 23 = .ok (.putfield 22, 3) := by decide +kernel
theorem dX10_markWrong_26 : decode cX10_markWrong 26 = .ok (.return_, 1) := by decide +kernel
def fX10_markWrong (h : eg_H) (l0 : Nat) (l1 : Int32) : Option (eg_H) :=
  if eg_isO h 10 l0 then (
    (eg_gI h 10 4 l0).bind fun v1 =>
    if v1 = (-1 : Int32) then
      ((eg_pI h 10 4 l0 l1).bind fun h4 =>
      (eg_gI h4 10 1 l0).bind fun v6 =>
      (eg_pI h4 10 2 l0 v6).bind fun h8 =>
      (eg_pI h8 10 3 l0 (0 : Int32)).bind fun h10 =>
      some h10)
    else
      (eg_gI h 10 1 l0).bind fun v12 =>
      (eg_pI h 10 2 l0 v12).bind fun h14 =>
      (eg_pI h14 10 3 l0 (0 : Int32)).bind fun h16 =>
      some h16) else none
theorem fX10_markWrong_O {h : eg_H} {l0 : Nat} {l1 : Int32} {hE : eg_H} (hF : fX10_markWrong h l0 l1 = some hE) : eg_isO h 10 l0 := (eg_ifn hF).1
set_option maxRecDepth 20000 in
theorem mX10_markWrong {h : eg_H} {l0 : Nat} {l1 : Int32} {hE : eg_H} (hF : fX10_markWrong h l0 l1 = some hE) : eg_Met yX10_markWrong cX10_markWrong 2 none 1 [.ref l0, .int l1] h none hE := by
  refine eg_enter rfl (Nat.le_of_ble_eq_true rfl) ?_
  show eg_AW (RX10, cX10_markWrong, 2, 1, none, "markWrong", none) (eg_Zm none hE h) (eg_nc hE) (eg_ns hE) h 0 [(0, .ref l0), (1, .int l1)] [] h
  replace hF := (eg_ifn hF).2
  refine eg_aload_n (i := 0) 0 dX10_markWrong_0 rfl rfl ?_
  replace hF := eg_bind hF; obtain ⟨v1, e2, hF⟩ := hF
  refine eg_getI dX10_markWrong_1 e2 (Nat.le_of_ble_eq_true rfl) (Nat.le_of_ble_eq_true rfl) rfl ew_144 ?_
  refine eg_iconst (v := (-1 : Int32)) dX10_markWrong_4 (by decide) ?_
  refine eg_ic_ne 13 dX10_markWrong_5 rfl (fun c3 => ?_) (fun c3 => ?_)
  · replace hF := eg_it c3 hF
    refine eg_aload_n (i := 0) 0 dX10_markWrong_8 rfl rfl ?_
    refine eg_iload_n (i := 1) 1 dX10_markWrong_9 rfl rfl ?_
    replace hF := eg_bind hF; obtain ⟨h4, e5, hF⟩ := hF
    refine eg_putI dX10_markWrong_10 e5 (Nat.le_of_ble_eq_true rfl) (Nat.le_of_ble_eq_true rfl) rfl ew_144 (Or.inl rfl) ?_
    refine eg_aload_n (i := 0) 0 dX10_markWrong_13 rfl rfl ?_
    refine eg_aload_n (i := 0) 0 dX10_markWrong_14 rfl rfl ?_
    replace hF := eg_bind hF; obtain ⟨v6, e7, hF⟩ := hF
    refine eg_getI dX10_markWrong_15 e7 (Nat.le_of_ble_eq_true rfl) (Nat.le_of_ble_eq_true rfl) rfl ew_141 ?_
    replace hF := eg_bind hF; obtain ⟨h8, e9, hF⟩ := hF
    refine eg_putI dX10_markWrong_18 e9 (Nat.le_of_ble_eq_true rfl) (Nat.le_of_ble_eq_true rfl) rfl ew_142 (Or.inl rfl) ?_
    refine eg_aload_n (i := 0) 0 dX10_markWrong_21 rfl rfl ?_
    refine eg_iconst (v := (0 : Int32)) dX10_markWrong_22 (by decide) ?_
    replace hF := eg_bind hF; obtain ⟨h10, e11, hF⟩ := hF
    refine eg_putI dX10_markWrong_23 e11 (Nat.le_of_ble_eq_true rfl) (Nat.le_of_ble_eq_true rfl) rfl ew_143 (Or.inl rfl) ?_
    exact eg_vretE dX10_markWrong_26 hF
  · replace hF := eg_if c3 hF
    refine eg_aload_n (i := 0) 0 dX10_markWrong_13 rfl rfl ?_
    refine eg_aload_n (i := 0) 0 dX10_markWrong_14 rfl rfl ?_
    replace hF := eg_bind hF; obtain ⟨v12, e13, hF⟩ := hF
    refine eg_getI dX10_markWrong_15 e13 (Nat.le_of_ble_eq_true rfl) (Nat.le_of_ble_eq_true rfl) rfl ew_141 ?_
    replace hF := eg_bind hF; obtain ⟨h14, e15, hF⟩ := hF
    refine eg_putI dX10_markWrong_18 e15 (Nat.le_of_ble_eq_true rfl) (Nat.le_of_ble_eq_true rfl) rfl ew_142 (Or.inl rfl) ?_
    refine eg_aload_n (i := 0) 0 dX10_markWrong_21 rfl rfl ?_
    refine eg_iconst (v := (0 : Int32)) dX10_markWrong_22 (by decide) ?_
    replace hF := eg_bind hF; obtain ⟨h16, e17, hF⟩ := hF
    refine eg_putI dX10_markWrong_23 e17 (Nat.le_of_ble_eq_true rfl) (Nat.le_of_ble_eq_true rfl) rfl ew_143 (Or.inl rfl) ?_
    exact eg_vretE dX10_markWrong_26 hF
theorem dX10_need_0 : decode cX10_need 0 = .ok (.aload_n 0, 1) := by decide +kernel
theorem dX10_need_1 : decode cX10_need 1 = .ok (.getfield 22, 3) := by decide +kernel
theorem dX10_need_4 : decode cX10_need 4 = .ok (.iload_n 1, 1) := by decide +kernel
theorem dX10_need_5 : decode cX10_need 5 = .ok (.if_icmp .ne 20, 3) := by decide +kernel
theorem dX10_need_8 : decode cX10_need 8 = .ok (.aload_n 0, 1) := by decide +kernel
theorem dX10_need_9 : decode cX10_need 9 = .ok (.dup, 1) := by decide +kernel
theorem dX10_need_10 : decode cX10_need 10 = .ok (.getfield 19, 3) := by decide +kernel
theorem dX10_need_13 : decode cX10_need 13 = .ok (.iconst 1, 1) := by decide +kernel
theorem dX10_need_14 : decode cX10_need 14 = .ok (.iadd, 1) := by decide +kernel
theorem dX10_need_15 : decode cX10_need 15 = .ok (.putfield 19, 3) := by decide +kernel
theorem dX10_need_18 : decode cX10_need 18 = .ok (.aload_n 0, 1) := by decide +kernel
theorem dX10_need_19 : decode cX10_need 19 = .ok (.invokevirtual 28, 3) := by decide +kernel
theorem dX10_need_22 : decode cX10_need 22 = .ok (.goto 11, 3) := by decide +kernel
theorem dX10_need_25 : decode cX10_need 25 = .ok (.aload_n 0, 1) := by decide +kernel
theorem dX10_need_26 : decode cX10_need 26 = .ok (.aload_n 0, 1) := by decide +kernel
theorem dX10_need_27 : decode cX10_need 27 = .ok (.getfield 19, 3) := by decide +kernel
theorem dX10_need_30 : decode cX10_need 30 = .ok (.invokevirtual 31, 3) := by decide +kernel
theorem dX10_need_33 : decode cX10_need 33 = .ok (.return_, 1) := by decide +kernel
def fX10_need (h : eg_H) (l0 : Nat) (l1 : Int32) : Option (eg_H) :=
  if eg_isO h 10 l0 then (
    (eg_gI h 10 3 l0).bind fun v1 =>
    if v1 = l1 then
      ((eg_gI h 10 2 l0).bind fun v4 =>
      (eg_pI h 10 2 l0 (v4 + (1 : Int32))).bind fun h6 =>
      (fX10_settle h6 l0).bind fun h8 =>
      some h8)
    else
      (eg_gI h 10 2 l0).bind fun v10 =>
      (fX10_markWrong h l0 v10).bind fun h12 =>
      some h12) else none
theorem fX10_need_O {h : eg_H} {l0 : Nat} {l1 : Int32} {hE : eg_H} (hF : fX10_need h l0 l1 = some hE) : eg_isO h 10 l0 := (eg_ifn hF).1
set_option maxRecDepth 20000 in
theorem mX10_need {h : eg_H} {l0 : Nat} {l1 : Int32} {hE : eg_H} (hF : fX10_need h l0 l1 = some hE) : eg_Met yX10_need cX10_need 2 none 2 [.ref l0, .int l1] h none hE := by
  refine eg_enter rfl (Nat.le_of_ble_eq_true rfl) ?_
  show eg_AW (RX10, cX10_need, 2, 2, none, "need", none) (eg_Zm none hE h) (eg_nc hE) (eg_ns hE) h 0 [(0, .ref l0), (1, .int l1)] [] h
  replace hF := (eg_ifn hF).2
  refine eg_aload_n (i := 0) 0 dX10_need_0 rfl rfl ?_
  replace hF := eg_bind hF; obtain ⟨v1, e2, hF⟩ := hF
  refine eg_getI dX10_need_1 e2 (Nat.le_of_ble_eq_true rfl) (Nat.le_of_ble_eq_true rfl) rfl ew_143 ?_
  refine eg_iload_n (i := 1) 1 dX10_need_4 rfl rfl ?_
  refine eg_ic_ne 25 dX10_need_5 rfl (fun c3 => ?_) (fun c3 => ?_)
  · replace hF := eg_it c3 hF
    refine eg_aload_n (i := 0) 0 dX10_need_8 rfl rfl ?_
    refine eg_dup dX10_need_9 rfl ?_
    replace hF := eg_bind hF; obtain ⟨v4, e5, hF⟩ := hF
    refine eg_getI dX10_need_10 e5 (Nat.le_of_ble_eq_true rfl) (Nat.le_of_ble_eq_true rfl) rfl ew_142 ?_
    refine eg_iconst (v := (1 : Int32)) dX10_need_13 (by decide) ?_
    refine eg_iadd dX10_need_14 ?_
    replace hF := eg_bind hF; obtain ⟨h6, e7, hF⟩ := hF
    refine eg_putI dX10_need_15 e7 (Nat.le_of_ble_eq_true rfl) (Nat.le_of_ble_eq_true rfl) rfl ew_142 (Or.inl rfl) ?_
    refine eg_aload_n (i := 0) 0 dX10_need_18 rfl rfl ?_
    replace hF := eg_bind hF; obtain ⟨h8, e9, hF⟩ := hF
    refine eg_callV (c := 10) (n := 0) [] dX10_need_19 (mX10_settle e9) rfl (fX10_settle_O e9) (Nat.le_of_ble_eq_true rfl) rfl ew_460 ew_462 ew_2 ew_101 ew_463 hy_X10_settle rfl (Nat.le_of_ble_eq_true rfl) (Nat.le_of_ble_eq_true rfl) (Nat.le_of_ble_eq_true rfl) ?_
    refine eg_goto 33 dX10_need_22 rfl ?_
    exact eg_vretE dX10_need_33 hF
  · replace hF := eg_if c3 hF
    refine eg_aload_n (i := 0) 0 dX10_need_25 rfl rfl ?_
    refine eg_aload_n (i := 0) 0 dX10_need_26 rfl rfl ?_
    replace hF := eg_bind hF; obtain ⟨v10, e11, hF⟩ := hF
    refine eg_getI dX10_need_27 e11 (Nat.le_of_ble_eq_true rfl) (Nat.le_of_ble_eq_true rfl) rfl ew_142 ?_
    replace hF := eg_bind hF; obtain ⟨h12, e13, hF⟩ := hF
    refine eg_callV (c := 10) (n := 1) [.int v10] dX10_need_30 (mX10_markWrong e13) rfl (fX10_markWrong_O e13) (Nat.le_of_ble_eq_true rfl) rfl ew_498 ew_500 ew_6 ew_101 ew_501 hy_X10_markWrong rfl (Nat.le_of_ble_eq_true rfl) (Nat.le_of_ble_eq_true rfl) (Nat.le_of_ble_eq_true rfl) ?_
    exact eg_vretE dX10_need_33 hF
theorem dX10_sign_0 : decode cX10_sign 0 = .ok (.aload_n 0, 1) := by decide +kernel
theorem dX10_sign_1 : decode cX10_sign 1 = .ok (.getfield 22, 3) := by decide +kernel
theorem dX10_sign_4 : decode cX10_sign 4 = .ok (.ireturn, 1) := by decide +kernel
def fX10_sign (h : eg_H) (l0 : Nat) : Option (Int32 × eg_H) :=
  if eg_isO h 10 l0 then (
    (eg_gI h 10 3 l0).bind fun v1 =>
    some (v1, h)) else none
theorem fX10_sign_O {h : eg_H} {l0 : Nat} {rE : Int32} {hE : eg_H} (hF : fX10_sign h l0 = some (rE, hE)) : eg_isO h 10 l0 := (eg_ifn hF).1
set_option maxRecDepth 20000 in
theorem mX10_sign {h : eg_H} {l0 : Nat} {rE : Int32} {hE : eg_H} (hF : fX10_sign h l0 = some (rE, hE)) : eg_Met yX10_sign cX10_sign 1 (some .int) 1 [.ref l0] h (some (.int rE)) hE := by
  refine eg_enter rfl (Nat.le_of_ble_eq_true rfl) ?_
  show eg_AW (RX10, cX10_sign, 1, 1, none, "sign", (some .int)) (eg_Zm (some (.int rE)) hE h) (eg_nc hE) (eg_ns hE) h 0 [(0, .ref l0)] [] h
  replace hF := (eg_ifn hF).2
  refine eg_aload_n (i := 0) 0 dX10_sign_0 rfl rfl ?_
  replace hF := eg_bind hF; obtain ⟨v1, e2, hF⟩ := hF
  refine eg_getI dX10_sign_1 e2 (Nat.le_of_ble_eq_true rfl) (Nat.le_of_ble_eq_true rfl) rfl ew_143 ?_
  exact eg_iretE dX10_sign_4 hF
theorem dX10_isDigit_0 : decode cX10_isDigit 0 = .ok (.aload_n 0, 1) := by decide +kernel
theorem dX10_isDigit_1 : decode cX10_isDigit 1 = .ok (.getfield 22, 3) := by decide +kernel
theorem dX10_isDigit_4 : decode cX10_isDigit 4 = .ok (.bipush 48, 2) := by decide +kernel
theorem dX10_isDigit_6 : decode cX10_isDigit 6 = .ok (.if_icmp .lt 16, 3) := by decide +kernel
theorem dX10_isDigit_9 : decode cX10_isDigit 9 = .ok (.aload_n 0, 1) := by decide +kernel
theorem dX10_isDigit_10 : decode cX10_isDigit 10 = .ok (.getfield 22, 3) := by decide +kernel
theorem dX10_isDigit_13 : decode cX10_isDigit 13 = .ok (.bipush 57, 2) := by decide +kernel
theorem dX10_isDigit_15 : decode cX10_isDigit 15 = .ok (.if_icmp .gt 7, 3) := by decide +kernel
theorem dX10_isDigit_18 : decode cX10_isDigit 18 = .ok (.iconst 1, 1) := by decide +kernel
theorem dX10_isDigit_19 : decode cX10_isDigit 19 = .ok (.goto 4, 3) := by decide +kernel
theorem dX10_isDigit_22 : decode cX10_isDigit 22 = .ok (.iconst 0, 1) := by decide +kernel
theorem dX10_isDigit_23 : decode cX10_isDigit 23 = .ok (.ireturn, 1) := by decide +kernel
def fX10_isDigit (h : eg_H) (l0 : Nat) : Option (Int32 × eg_H) :=
  if eg_isO h 10 l0 then (
    (eg_gI h 10 3 l0).bind fun v1 =>
    if v1 < (48 : Int32) then
      (some ((0 : Int32), h))
    else
      (eg_gI h 10 3 l0).bind fun v4 =>
      if (57 : Int32) < v4 then
        (some ((0 : Int32), h))
      else
        some ((1 : Int32), h)) else none
theorem fX10_isDigit_O {h : eg_H} {l0 : Nat} {rE : Int32} {hE : eg_H} (hF : fX10_isDigit h l0 = some (rE, hE)) : eg_isO h 10 l0 := (eg_ifn hF).1
set_option maxRecDepth 20000 in
theorem mX10_isDigit {h : eg_H} {l0 : Nat} {rE : Int32} {hE : eg_H} (hF : fX10_isDigit h l0 = some (rE, hE)) : eg_Met yX10_isDigit cX10_isDigit 1 (some .boolean) 1 [.ref l0] h (some (.int rE)) hE := by
  refine eg_enter rfl (Nat.le_of_ble_eq_true rfl) ?_
  show eg_AW (RX10, cX10_isDigit, 1, 1, none, "isDigit", (some .boolean)) (eg_Zm (some (.int rE)) hE h) (eg_nc hE) (eg_ns hE) h 0 [(0, .ref l0)] [] h
  replace hF := (eg_ifn hF).2
  refine eg_aload_n (i := 0) 0 dX10_isDigit_0 rfl rfl ?_
  replace hF := eg_bind hF; obtain ⟨v1, e2, hF⟩ := hF
  refine eg_getI dX10_isDigit_1 e2 (Nat.le_of_ble_eq_true rfl) (Nat.le_of_ble_eq_true rfl) rfl ew_143 ?_
  refine eg_bipush (v := (48 : Int32)) dX10_isDigit_4 (by decide) ?_
  refine eg_ic_lt 22 dX10_isDigit_6 rfl (fun c3 => ?_) (fun c3 => ?_)
  · replace hF := eg_it c3 hF
    refine eg_iconst (v := (0 : Int32)) dX10_isDigit_22 (by decide) ?_
    exact eg_zretE dX10_isDigit_23 (Or.inl rfl) hF
  · replace hF := eg_if c3 hF
    refine eg_aload_n (i := 0) 0 dX10_isDigit_9 rfl rfl ?_
    replace hF := eg_bind hF; obtain ⟨v4, e5, hF⟩ := hF
    refine eg_getI dX10_isDigit_10 e5 (Nat.le_of_ble_eq_true rfl) (Nat.le_of_ble_eq_true rfl) rfl ew_143 ?_
    refine eg_bipush (v := (57 : Int32)) dX10_isDigit_13 (by decide) ?_
    refine eg_ic_gt 22 dX10_isDigit_15 rfl (fun c6 => ?_) (fun c6 => ?_)
    · replace hF := eg_it c6 hF
      refine eg_iconst (v := (0 : Int32)) dX10_isDigit_22 (by decide) ?_
      exact eg_zretE dX10_isDigit_23 (Or.inl rfl) hF
    · replace hF := eg_if c6 hF
      refine eg_iconst (v := (1 : Int32)) dX10_isDigit_18 (by decide) ?_
      refine eg_goto 23 dX10_isDigit_19 rfl ?_
      exact eg_zretE dX10_isDigit_23 (Or.inr rfl) hF
theorem dX10_number_0 : decode cX10_number 0 = .ok (.iconst 0, 1) := by decide +kernel
theorem dX10_number_1 : decode cX10_number 1 = .ok (.istore 4, 2) := by decide +kernel
theorem dX10_number_3 : decode cX10_number 3 = .ok (.iconst 0, 1) := by decide +kernel
theorem dX10_number_4 : decode cX10_number 4 = .ok (.istore 5, 2) := by decide +kernel
theorem dX10_number_6 : decode cX10_number 6 = .ok (.aload_n 0, 1) := by decide +kernel
theorem dX10_number_7 : decode cX10_number 7 = .ok (.aload_n 0, 1) := by decide +kernel
theorem dX10_number_8 : decode cX10_number 8 = .ok (.getfield 19, 3) := by decide +kernel
theorem dX10_number_11 : decode cX10_number 11 = .ok (.invokevirtual 35, 3) := by decide +kernel
theorem dX10_number_14 : decode cX10_number 14 = .ok (.istore 6, 2) := by decide +kernel
theorem dX10_number_16 : decode cX10_number 16 = .ok (.iload 5, 2) := by decide +kernel
theorem dX10_number_18 : decode cX10_number 18 = .ok (.iload_n 1, 1) := by decide +kernel
theorem dX10_number_19 : decode cX10_number 19 = .ok (.if_icmp .ge 56, 3) := by decide +kernel
theorem dX10_number_22 : decode cX10_number 22 = .ok (.iload 6, 2) := by decide +kernel
theorem dX10_number_24 : decode cX10_number 24 = .ok (.bipush 48, 2) := by decide +kernel
theorem dX10_number_26 : decode cX10_number 26 = .ok (.if_icmp .lt 49, 3) := by decide +kernel
theorem dX10_number_29 : decode cX10_number 29 = .ok (.iload 6, 2) := by decide +kernel
theorem dX10_number_31 : decode cX10_number 31 = .ok (.bipush 57, 2) := by decide +kernel
theorem dX10_number_33 : decode cX10_number 33 = .ok (.if_icmp .gt 42, 3) := by decide +kernel
theorem dX10_number_36 : decode cX10_number 36 = .ok (.bipush 10, 2) := by decide +kernel
theorem dX10_number_38 : decode cX10_number 38 = .ok (.iload 4, 2) := by decide +kernel
theorem dX10_number_40 : decode cX10_number 40 = .ok (.imul, 1) := by decide +kernel
theorem dX10_number_41 : decode cX10_number 41 = .ok (.iload 6, 2) := by decide +kernel
theorem dX10_number_43 : decode cX10_number 43 = .ok (.iadd, 1) := by decide +kernel
theorem dX10_number_44 : decode cX10_number 44 = .ok (.bipush 48, 2) := by decide +kernel
theorem dX10_number_46 : decode cX10_number 46 = .ok (.isub, 1) := by decide +kernel
theorem dX10_number_47 : decode cX10_number 47 = .ok (.istore 4, 2) := by decide +kernel
theorem dX10_number_49 : decode cX10_number 49 = .ok (.aload_n 0, 1) := by decide +kernel
theorem dX10_number_50 : decode cX10_number 50 = .ok (.dup, 1) := by decide +kernel
theorem dX10_number_51 : decode cX10_number 51 = .ok (.getfield 19, 3) := by decide +kernel
theorem dX10_number_54 : decode cX10_number 54 = .ok (.iconst 1, 1) := by decide +kernel
theorem dX10_number_55 : decode cX10_number 55 = .ok (.iadd, 1) := by decide +kernel
theorem dX10_number_56 : decode cX10_number 56 = .ok (.putfield 19, 3) := by decide +kernel
theorem dX10_number_59 : decode cX10_number 59 = .ok (.aload_n 0, 1) := by decide +kernel
theorem dX10_number_60 : decode cX10_number 60 = .ok (.aload_n 0, 1) := by decide +kernel
theorem dX10_number_61 : decode cX10_number 61 = .ok (.getfield 19, 3) := by decide +kernel
theorem dX10_number_64 : decode cX10_number 64 = .ok (.invokevirtual 35, 3) := by decide +kernel
theorem dX10_number_67 : decode cX10_number 67 = .ok (.istore 6, 2) := by decide +kernel
theorem dX10_number_69 : decode cX10_number 69 = .ok (.iinc 5 1, 3) := by decide +kernel
theorem dX10_number_72 : decode cX10_number 72 = .ok (.goto (-56), 3) := by decide +kernel
theorem dX10_number_75 : decode cX10_number 75 = .ok (.iload 5, 2) := by decide +kernel
theorem dX10_number_77 : decode cX10_number 77 = .ok (.ifCond .eq 17, 3) := by decide +kernel
theorem dX10_number_80 : decode cX10_number 80 = .ok (.iload 6, 2) := by decide +kernel
theorem dX10_number_82 : decode cX10_number 82 = .ok (.bipush 48, 2) := by decide +kernel
theorem dX10_number_84 : decode cX10_number 84 = .ok (.if_icmp .lt 21, 3) := by decide +kernel
theorem dX10_number_87 : decode cX10_number 87 = .ok (.iload 6, 2) := by decide +kernel
theorem dX10_number_89 : decode cX10_number 89 = .ok (.bipush 57, 2) := by decide +kernel
theorem dX10_number_91 : decode cX10_number 91 = .ok (.if_icmp .gt 14, 3) := by decide +kernel
theorem dX10_number_94 : decode cX10_number 94 = .ok (.aload_n 0, 1) := by decide +kernel
theorem dX10_number_95 : decode cX10_number 95 = .ok (.aload_n 0, 1) := by decide +kernel
theorem dX10_number_96 : decode cX10_number 96 = .ok (.getfield 19, 3) := by decide +kernel
theorem dX10_number_99 : decode cX10_number 99 = .ok (.invokevirtual 31, 3) := by decide +kernel
theorem dX10_number_102 : decode cX10_number 102 = .ok (.goto 32, 3) := by decide +kernel
theorem dX10_number_105 : decode cX10_number 105 = .ok (.iload 4, 2) := by decide +kernel
theorem dX10_number_107 : decode cX10_number 107 = .ok (.iload_n 2, 1) := by decide +kernel
theorem dX10_number_108 : decode cX10_number 108 = .ok (.if_icmp .lt 9, 3) := by decide +kernel
theorem dX10_number_111 : decode cX10_number 111 = .ok (.iload 4, 2) := by decide +kernel
theorem dX10_number_113 : decode cX10_number 113 = .ok (.iload_n 3, 1) := by decide +kernel
theorem dX10_number_114 : decode cX10_number 114 = .ok (.if_icmp .le 16, 3) := by decide +kernel
theorem dX10_number_117 : decode cX10_number 117 = .ok (.aload_n 0, 1) := by decide +kernel
theorem dX10_number_118 : decode cX10_number 118 = .ok (.aload_n 0, 1) := by decide +kernel
theorem dX10_number_119 : decode cX10_number 119 = .ok (.getfield 19, 3) := by decide +kernel
theorem dX10_number_122 : decode cX10_number 122 = .ok (.iconst 1, 1) := by decide +kernel
theorem dX10_number_123 : decode cX10_number 123 = .ok (.isub, 1) := by decide +kernel
theorem dX10_number_124 : decode cX10_number 124 = .ok (.invokevirtual 31, 3) := by decide +kernel
theorem dX10_number_127 : decode cX10_number 127 = .ok (.goto 7, 3) := by decide +kernel
theorem dX10_number_130 : decode cX10_number 130 = .ok (.aload_n 0, 1) := by decide +kernel
theorem dX10_number_131 : decode cX10_number 131 = .ok (.invokevirtual 28, 3) := by decide +kernel
theorem dX10_number_134 : decode cX10_number 134 = .ok (.iload 4, 2) := by decide +kernel
theorem dX10_number_136 : decode cX10_number 136 = .ok (.ireturn, 1) := by decide +kernel
def fX10_number_L16 : Nat → eg_H → Nat → Int32 → Int32 → Int32 → Int32 → Int32 → Int32 → Option (Nat × Int32 × Int32 × Int32 × Int32 × Int32 × eg_H)
  | 0, _, _, _, _, _, _, _, _ => none
  | n + 1, h, l0, l1, l2, l3, l4, l5, l6 =>
    if l1 ≤ l5 then
      (some (l0, l2, l3, l4, l5, l6, h))
    else
      if l6 < (48 : Int32) then
        (some (l0, l2, l3, l4, l5, l6, h))
      else
        if (57 : Int32) < l6 then
          (some (l0, l2, l3, l4, l5, l6, h))
        else
          (some (((((10 : Int32) * l4) + l6) - (48 : Int32)))).bind fun v4 =>
          (eg_gI h 10 2 l0).bind fun v6 =>
          (eg_pI h 10 2 l0 (v6 + (1 : Int32))).bind fun h8 =>
          (eg_gI h8 10 2 l0).bind fun v10 =>
          (fX10_byteAt h8 l0 v10).bind fun ⟨v13, h12⟩ =>
          fX10_number_L16 n h12 l0 l1 l2 l3 v4 (l5 + (1 : Int32)) v13
set_option maxRecDepth 20000 in
theorem fX10_number_L16_ok {h0 : eg_H} {Z : eg_C → State → Prop} {N S : Nat} : ∀ (n : Nat) (h : eg_H) (l0 : Nat) (l1 : Int32) (l2 : Int32) (l3 : Int32) (l4 : Int32) (l5 : Int32) (l6 : Int32) (eE : Nat × Int32 × Int32 × Int32 × Int32 × Int32 × eg_H), fX10_number_L16 n h l0 l1 l2 l3 l4 l5 l6 = some eE → (hk0 : ∀ (l0 : Nat) (l2 : Int32) (l3 : Int32) (l4 : Int32) (l5 : Int32) (l6 : Int32) (h : eg_H), eE = (l0, l2, l3, l4, l5, l6, h) → eg_AW (RX10, cX10_number, 7, 2, none, "number", (some .int)) Z N S h0 75 [(0, .ref l0), (2, .int l2), (3, .int l3), (4, .int l4), (5, .int l5), (6, .int l6)] [] h) → eg_AW (RX10, cX10_number, 7, 2, none, "number", (some .int)) Z N S h0 16 [(0, .ref l0), (1, .int l1), (2, .int l2), (3, .int l3), (4, .int l4), (5, .int l5), (6, .int l6)] [] h := by
  intro n
  induction n with
  | zero => intro h l0 l1 l2 l3 l4 l5 l6 eE hF; exact absurd hF (by intro q; cases q)
  | succ n ih =>
    intro h l0 l1 l2 l3 l4 l5 l6 eE hF hk0
    have hrec := fun (h' : eg_H) (l0 : Nat) (l1 : Int32) (l2 : Int32) (l3 : Int32) (l4 : Int32) (l5 : Int32) (l6 : Int32) hq => ih h' l0 l1 l2 l3 l4 l5 l6 eE hq hk0
    refine eg_iload (i := 5) 5 dX10_number_16 rfl ?_
    refine eg_iload_n (i := 1) 1 dX10_number_18 rfl rfl ?_
    refine eg_ic_ge 75 dX10_number_19 rfl (fun c1 => ?_) (fun c1 => ?_)
    · replace hF := eg_it c1 hF
      exact eg_sub [0, 2, 3, 4, 5, 6] [(0, .ref l0), (2, .int l2), (3, .int l3), (4, .int l4), (5, .int l5), (6, .int l6)] rfl (hk0 l0 l2 l3 l4 l5 l6 h (Option.some.inj hF).symm)
    · replace hF := eg_if c1 hF
      refine eg_iload (i := 6) 6 dX10_number_22 rfl ?_
      refine eg_bipush (v := (48 : Int32)) dX10_number_24 (by decide) ?_
      refine eg_ic_lt 75 dX10_number_26 rfl (fun c2 => ?_) (fun c2 => ?_)
      · replace hF := eg_it c2 hF
        exact eg_sub [0, 2, 3, 4, 5, 6] [(0, .ref l0), (2, .int l2), (3, .int l3), (4, .int l4), (5, .int l5), (6, .int l6)] rfl (hk0 l0 l2 l3 l4 l5 l6 h (Option.some.inj hF).symm)
      · replace hF := eg_if c2 hF
        refine eg_iload (i := 6) 6 dX10_number_29 rfl ?_
        refine eg_bipush (v := (57 : Int32)) dX10_number_31 (by decide) ?_
        refine eg_ic_gt 75 dX10_number_33 rfl (fun c3 => ?_) (fun c3 => ?_)
        · replace hF := eg_it c3 hF
          exact eg_sub [0, 2, 3, 4, 5, 6] [(0, .ref l0), (2, .int l2), (3, .int l3), (4, .int l4), (5, .int l5), (6, .int l6)] rfl (hk0 l0 l2 l3 l4 l5 l6 h (Option.some.inj hF).symm)
        · replace hF := eg_if c3 hF
          refine eg_bipush (v := (10 : Int32)) dX10_number_36 (by decide) ?_
          refine eg_iload (i := 4) 4 dX10_number_38 rfl ?_
          refine eg_imul dX10_number_40 ?_
          refine eg_iload (i := 6) 6 dX10_number_41 rfl ?_
          refine eg_iadd dX10_number_43 ?_
          refine eg_bipush (v := (48 : Int32)) dX10_number_44 (by decide) ?_
          refine eg_isub dX10_number_46 ?_
          replace hF := eg_bind hF; obtain ⟨v4, e5, hF⟩ := hF
          replace e5 := Option.some.inj e5
          rw [e5]
          refine eg_istore (i := 4) [(4, .int v4), (0, .ref l0), (1, .int l1), (2, .int l2), (3, .int l3), (5, .int l5), (6, .int l6)] dX10_number_47 (Nat.le_of_ble_eq_true rfl) rfl ?_
          refine eg_aload_n (i := 0) 1 dX10_number_49 rfl rfl ?_
          refine eg_dup dX10_number_50 rfl ?_
          replace hF := eg_bind hF; obtain ⟨v6, e7, hF⟩ := hF
          refine eg_getI dX10_number_51 e7 (Nat.le_of_ble_eq_true rfl) (Nat.le_of_ble_eq_true rfl) rfl ew_142 ?_
          refine eg_iconst (v := (1 : Int32)) dX10_number_54 (by decide) ?_
          refine eg_iadd dX10_number_55 ?_
          replace hF := eg_bind hF; obtain ⟨h8, e9, hF⟩ := hF
          refine eg_putI dX10_number_56 e9 (Nat.le_of_ble_eq_true rfl) (Nat.le_of_ble_eq_true rfl) rfl ew_142 (Or.inl rfl) ?_
          refine eg_aload_n (i := 0) 1 dX10_number_59 rfl rfl ?_
          refine eg_aload_n (i := 0) 1 dX10_number_60 rfl rfl ?_
          replace hF := eg_bind hF; obtain ⟨v10, e11, hF⟩ := hF
          refine eg_getI dX10_number_61 e11 (Nat.le_of_ble_eq_true rfl) (Nat.le_of_ble_eq_true rfl) rfl ew_142 ?_
          replace hF := eg_bind hF; obtain ⟨⟨v13, h12⟩, e14, hF⟩ := hF
          refine eg_callV (c := 10) (n := 1) [.int v10] dX10_number_64 (mX10_byteAt e14) rfl (fX10_byteAt_O e14) (Nat.le_of_ble_eq_true rfl) rfl ew_494 ew_495 ew_496 ew_101 ew_497 hy_X10_byteAt rfl (Nat.le_of_ble_eq_true rfl) (Nat.le_of_ble_eq_true rfl) (Nat.le_of_ble_eq_true rfl) ?_
          refine eg_istore (i := 6) [(6, .int v13), (4, .int v4), (0, .ref l0), (1, .int l1), (2, .int l2), (3, .int l3), (5, .int l5)] dX10_number_67 (Nat.le_of_ble_eq_true rfl) rfl ?_
          refine eg_iinc (i := 5) (v := (l5 + (1 : Int32))) 6 [(5, .int (l5 + (1 : Int32))), (6, .int v13), (4, .int v4), (0, .ref l0), (1, .int l1), (2, .int l2), (3, .int l3)] dX10_number_69 rfl rfl (Nat.le_of_ble_eq_true rfl) rfl ?_
          refine eg_goto 16 dX10_number_72 rfl ?_
          exact eg_sub [3, 4, 5, 6, 2, 0, 1] [(0, .ref l0), (1, .int l1), (2, .int l2), (3, .int l3), (4, .int v4), (5, .int (l5 + (1 : Int32))), (6, .int v13)] rfl (hrec h12 l0 l1 l2 l3 v4 (l5 + (1 : Int32)) v13 hF)
def fX10_number_j105 (h : eg_H) (l0 : Nat) (l2 : Int32) (l3 : Int32) (l4 : Int32) : Option (Int32 × eg_H) :=
  if l4 < l2 then
    ((eg_gI h 10 2 l0).bind fun v2 =>
    (fX10_markWrong h l0 (v2 - (1 : Int32))).bind fun h4 =>
    some (l4, h4))
  else
    if l4 ≤ l3 then
      ((fX10_settle h l0).bind fun h7 =>
      some (l4, h7))
    else
      (eg_gI h 10 2 l0).bind fun v9 =>
      (fX10_markWrong h l0 (v9 - (1 : Int32))).bind fun h11 =>
      some (l4, h11)
set_option maxRecDepth 20000 in
theorem fX10_number_j105_ok {h0 : eg_H} (h : eg_H) (l0 : Nat) (l2 : Int32) (l3 : Int32) (l4 : Int32) {rE : Int32} {hE : eg_H} (hF : fX10_number_j105 h l0 l2 l3 l4 = some (rE, hE)) : eg_AW (RX10, cX10_number, 7, 2, none, "number", (some .int)) (eg_Zm (some (.int rE)) hE h0) (eg_nc hE) (eg_ns hE) h0 105 [(0, .ref l0), (2, .int l2), (3, .int l3), (4, .int l4)] [] h := by
  refine eg_iload (i := 4) 3 dX10_number_105 rfl ?_
  refine eg_iload_n (i := 2) 1 dX10_number_107 rfl rfl ?_
  refine eg_ic_lt 117 dX10_number_108 rfl (fun c1 => ?_) (fun c1 => ?_)
  · replace hF := eg_it c1 hF
    refine eg_aload_n (i := 0) 0 dX10_number_117 rfl rfl ?_
    refine eg_aload_n (i := 0) 0 dX10_number_118 rfl rfl ?_
    replace hF := eg_bind hF; obtain ⟨v2, e3, hF⟩ := hF
    refine eg_getI dX10_number_119 e3 (Nat.le_of_ble_eq_true rfl) (Nat.le_of_ble_eq_true rfl) rfl ew_142 ?_
    refine eg_iconst (v := (1 : Int32)) dX10_number_122 (by decide) ?_
    refine eg_isub dX10_number_123 ?_
    replace hF := eg_bind hF; obtain ⟨h4, e5, hF⟩ := hF
    refine eg_callV (c := 10) (n := 1) [.int (v2 - (1 : Int32))] dX10_number_124 (mX10_markWrong e5) rfl (fX10_markWrong_O e5) (Nat.le_of_ble_eq_true rfl) rfl ew_498 ew_500 ew_6 ew_101 ew_501 hy_X10_markWrong rfl (Nat.le_of_ble_eq_true rfl) (Nat.le_of_ble_eq_true rfl) (Nat.le_of_ble_eq_true rfl) ?_
    refine eg_goto 134 dX10_number_127 rfl ?_
    refine eg_iload (i := 4) 3 dX10_number_134 rfl ?_
    exact eg_iretE dX10_number_136 hF
  · replace hF := eg_if c1 hF
    refine eg_iload (i := 4) 3 dX10_number_111 rfl ?_
    refine eg_iload_n (i := 3) 2 dX10_number_113 rfl rfl ?_
    refine eg_ic_le 130 dX10_number_114 rfl (fun c6 => ?_) (fun c6 => ?_)
    · replace hF := eg_it c6 hF
      refine eg_aload_n (i := 0) 0 dX10_number_130 rfl rfl ?_
      replace hF := eg_bind hF; obtain ⟨h7, e8, hF⟩ := hF
      refine eg_callV (c := 10) (n := 0) [] dX10_number_131 (mX10_settle e8) rfl (fX10_settle_O e8) (Nat.le_of_ble_eq_true rfl) rfl ew_460 ew_462 ew_2 ew_101 ew_463 hy_X10_settle rfl (Nat.le_of_ble_eq_true rfl) (Nat.le_of_ble_eq_true rfl) (Nat.le_of_ble_eq_true rfl) ?_
      refine eg_iload (i := 4) 3 dX10_number_134 rfl ?_
      exact eg_iretE dX10_number_136 hF
    · replace hF := eg_if c6 hF
      refine eg_aload_n (i := 0) 0 dX10_number_117 rfl rfl ?_
      refine eg_aload_n (i := 0) 0 dX10_number_118 rfl rfl ?_
      replace hF := eg_bind hF; obtain ⟨v9, e10, hF⟩ := hF
      refine eg_getI dX10_number_119 e10 (Nat.le_of_ble_eq_true rfl) (Nat.le_of_ble_eq_true rfl) rfl ew_142 ?_
      refine eg_iconst (v := (1 : Int32)) dX10_number_122 (by decide) ?_
      refine eg_isub dX10_number_123 ?_
      replace hF := eg_bind hF; obtain ⟨h11, e12, hF⟩ := hF
      refine eg_callV (c := 10) (n := 1) [.int (v9 - (1 : Int32))] dX10_number_124 (mX10_markWrong e12) rfl (fX10_markWrong_O e12) (Nat.le_of_ble_eq_true rfl) rfl ew_498 ew_500 ew_6 ew_101 ew_501 hy_X10_markWrong rfl (Nat.le_of_ble_eq_true rfl) (Nat.le_of_ble_eq_true rfl) (Nat.le_of_ble_eq_true rfl) ?_
      refine eg_goto 134 dX10_number_127 rfl ?_
      refine eg_iload (i := 4) 3 dX10_number_134 rfl ?_
      exact eg_iretE dX10_number_136 hF
def fX10_number_j75 (h : eg_H) (l0 : Nat) (l2 : Int32) (l3 : Int32) (l4 : Int32) (l5 : Int32) (l6 : Int32) : Option (Int32 × eg_H) :=
  if l5 = 0 then
    ((eg_gI h 10 2 l0).bind fun v2 =>
    (fX10_markWrong h l0 v2).bind fun h4 =>
    some (l4, h4))
  else
    if l6 < (48 : Int32) then
      (fX10_number_j105 h l0 l2 l3 l4)
    else
      if (57 : Int32) < l6 then
        (fX10_number_j105 h l0 l2 l3 l4)
      else
        (eg_gI h 10 2 l0).bind fun v8 =>
        (fX10_markWrong h l0 v8).bind fun h10 =>
        some (l4, h10)
set_option maxRecDepth 20000 in
theorem fX10_number_j75_ok {h0 : eg_H} (h : eg_H) (l0 : Nat) (l2 : Int32) (l3 : Int32) (l4 : Int32) (l5 : Int32) (l6 : Int32) {rE : Int32} {hE : eg_H} (hF : fX10_number_j75 h l0 l2 l3 l4 l5 l6 = some (rE, hE)) : eg_AW (RX10, cX10_number, 7, 2, none, "number", (some .int)) (eg_Zm (some (.int rE)) hE h0) (eg_nc hE) (eg_ns hE) h0 75 [(0, .ref l0), (2, .int l2), (3, .int l3), (4, .int l4), (5, .int l5), (6, .int l6)] [] h := by
  refine eg_iload (i := 5) 4 dX10_number_75 rfl ?_
  refine eg_if_eq 94 dX10_number_77 rfl (fun c1 => ?_) (fun c1 => ?_)
  · replace hF := eg_it c1 hF
    refine eg_aload_n (i := 0) 0 dX10_number_94 rfl rfl ?_
    refine eg_aload_n (i := 0) 0 dX10_number_95 rfl rfl ?_
    replace hF := eg_bind hF; obtain ⟨v2, e3, hF⟩ := hF
    refine eg_getI dX10_number_96 e3 (Nat.le_of_ble_eq_true rfl) (Nat.le_of_ble_eq_true rfl) rfl ew_142 ?_
    replace hF := eg_bind hF; obtain ⟨h4, e5, hF⟩ := hF
    refine eg_callV (c := 10) (n := 1) [.int v2] dX10_number_99 (mX10_markWrong e5) rfl (fX10_markWrong_O e5) (Nat.le_of_ble_eq_true rfl) rfl ew_498 ew_500 ew_6 ew_101 ew_501 hy_X10_markWrong rfl (Nat.le_of_ble_eq_true rfl) (Nat.le_of_ble_eq_true rfl) (Nat.le_of_ble_eq_true rfl) ?_
    refine eg_goto 134 dX10_number_102 rfl ?_
    refine eg_iload (i := 4) 3 dX10_number_134 rfl ?_
    exact eg_iretE dX10_number_136 hF
  · replace hF := eg_if c1 hF
    refine eg_iload (i := 6) 5 dX10_number_80 rfl ?_
    refine eg_bipush (v := (48 : Int32)) dX10_number_82 (by decide) ?_
    refine eg_ic_lt 105 dX10_number_84 rfl (fun c6 => ?_) (fun c6 => ?_)
    · replace hF := eg_it c6 hF
      exact eg_sub [0, 1, 2, 3] [(0, .ref l0), (2, .int l2), (3, .int l3), (4, .int l4)] rfl (fX10_number_j105_ok h l0 l2 l3 l4 hF)
    · replace hF := eg_if c6 hF
      refine eg_iload (i := 6) 5 dX10_number_87 rfl ?_
      refine eg_bipush (v := (57 : Int32)) dX10_number_89 (by decide) ?_
      refine eg_ic_gt 105 dX10_number_91 rfl (fun c7 => ?_) (fun c7 => ?_)
      · replace hF := eg_it c7 hF
        exact eg_sub [0, 1, 2, 3] [(0, .ref l0), (2, .int l2), (3, .int l3), (4, .int l4)] rfl (fX10_number_j105_ok h l0 l2 l3 l4 hF)
      · replace hF := eg_if c7 hF
        refine eg_aload_n (i := 0) 0 dX10_number_94 rfl rfl ?_
        refine eg_aload_n (i := 0) 0 dX10_number_95 rfl rfl ?_
        replace hF := eg_bind hF; obtain ⟨v8, e9, hF⟩ := hF
        refine eg_getI dX10_number_96 e9 (Nat.le_of_ble_eq_true rfl) (Nat.le_of_ble_eq_true rfl) rfl ew_142 ?_
        replace hF := eg_bind hF; obtain ⟨h10, e11, hF⟩ := hF
        refine eg_callV (c := 10) (n := 1) [.int v8] dX10_number_99 (mX10_markWrong e11) rfl (fX10_markWrong_O e11) (Nat.le_of_ble_eq_true rfl) rfl ew_498 ew_500 ew_6 ew_101 ew_501 hy_X10_markWrong rfl (Nat.le_of_ble_eq_true rfl) (Nat.le_of_ble_eq_true rfl) (Nat.le_of_ble_eq_true rfl) ?_
        refine eg_goto 134 dX10_number_102 rfl ?_
        refine eg_iload (i := 4) 3 dX10_number_134 rfl ?_
        exact eg_iretE dX10_number_136 hF
def fX10_number (h : eg_H) (l0 : Nat) (l1 : Int32) (l2 : Int32) (l3 : Int32) : Option (Int32 × eg_H) :=
  if eg_isO h 10 l0 then (
    (eg_gI h 10 2 l0).bind fun v1 =>
    (fX10_byteAt h l0 v1).bind fun ⟨v4, h3⟩ =>
    (fX10_number_L16 eg_F h3 l0 l1 l2 l3 (0 : Int32) (0 : Int32) v4).bind fun e =>
    match e with
    | (p8, v9, v10, v11, v12, v13, h14) =>
      fX10_number_j75 h14 p8 v9 v10 v11 v12 v13) else none
theorem fX10_number_O {h : eg_H} {l0 : Nat} {l1 : Int32} {l2 : Int32} {l3 : Int32} {rE : Int32} {hE : eg_H} (hF : fX10_number h l0 l1 l2 l3 = some (rE, hE)) : eg_isO h 10 l0 := (eg_ifn hF).1
set_option maxRecDepth 20000 in
theorem mX10_number {h : eg_H} {l0 : Nat} {l1 : Int32} {l2 : Int32} {l3 : Int32} {rE : Int32} {hE : eg_H} (hF : fX10_number h l0 l1 l2 l3 = some (rE, hE)) : eg_Met yX10_number cX10_number 7 (some .int) 2 [.ref l0, .int l1, .int l2, .int l3] h (some (.int rE)) hE := by
  refine eg_enter rfl (Nat.le_of_ble_eq_true rfl) ?_
  show eg_AW (RX10, cX10_number, 7, 2, none, "number", (some .int)) (eg_Zm (some (.int rE)) hE h) (eg_nc hE) (eg_ns hE) h 0 [(0, .ref l0), (1, .int l1), (2, .int l2), (3, .int l3)] [] h
  replace hF := (eg_ifn hF).2
  refine eg_iconst (v := (0 : Int32)) dX10_number_0 (by decide) ?_
  refine eg_istore (i := 4) [(4, .int (0 : Int32)), (0, .ref l0), (1, .int l1), (2, .int l2), (3, .int l3)] dX10_number_1 (Nat.le_of_ble_eq_true rfl) rfl ?_
  refine eg_iconst (v := (0 : Int32)) dX10_number_3 (by decide) ?_
  refine eg_istore (i := 5) [(5, .int (0 : Int32)), (4, .int (0 : Int32)), (0, .ref l0), (1, .int l1), (2, .int l2), (3, .int l3)] dX10_number_4 (Nat.le_of_ble_eq_true rfl) rfl ?_
  refine eg_aload_n (i := 0) 2 dX10_number_6 rfl rfl ?_
  refine eg_aload_n (i := 0) 2 dX10_number_7 rfl rfl ?_
  replace hF := eg_bind hF; obtain ⟨v1, e2, hF⟩ := hF
  refine eg_getI dX10_number_8 e2 (Nat.le_of_ble_eq_true rfl) (Nat.le_of_ble_eq_true rfl) rfl ew_142 ?_
  replace hF := eg_bind hF; obtain ⟨⟨v4, h3⟩, e5, hF⟩ := hF
  refine eg_callV (c := 10) (n := 1) [.int v1] dX10_number_11 (mX10_byteAt e5) rfl (fX10_byteAt_O e5) (Nat.le_of_ble_eq_true rfl) rfl ew_494 ew_495 ew_496 ew_101 ew_497 hy_X10_byteAt rfl (Nat.le_of_ble_eq_true rfl) (Nat.le_of_ble_eq_true rfl) (Nat.le_of_ble_eq_true rfl) ?_
  refine eg_istore (i := 6) [(6, .int v4), (5, .int (0 : Int32)), (4, .int (0 : Int32)), (0, .ref l0), (1, .int l1), (2, .int l2), (3, .int l3)] dX10_number_14 (Nat.le_of_ble_eq_true rfl) rfl ?_
  replace hF := eg_bind hF; obtain ⟨x7, e6, hF⟩ := hF
  refine eg_sub [3, 4, 5, 6, 2, 1, 0] [(0, .ref l0), (1, .int l1), (2, .int l2), (3, .int l3), (4, .int (0 : Int32)), (5, .int (0 : Int32)), (6, .int v4)] rfl (fX10_number_L16_ok eg_F h3 l0 l1 l2 l3 (0 : Int32) (0 : Int32) v4 x7 e6 ?_)
  · intro p8 v9 v10 v11 v12 v13 h14 e15
    subst e15
    exact (fX10_number_j75_ok h14 p8 v9 v10 v11 v12 v13 hF)
theorem dX6_emit_0 : decode cX6_emit 0 = .ok (.aload_n 0, 1) := by decide +kernel
theorem dX6_emit_1 : decode cX6_emit 1 = .ok (.getfield 15, 3) := by decide +kernel
theorem dX6_emit_4 : decode cX6_emit 4 = .ok (.aload_n 0, 1) := by decide +kernel
theorem dX6_emit_5 : decode cX6_emit 5 = .ok (.getfield 9, 3) := by decide +kernel
theorem dX6_emit_8 : decode cX6_emit 8 = .ok (.arraylength, 1) := by decide +kernel
theorem dX6_emit_9 : decode cX6_emit 9 = .ok (.if_icmp .ge 23, 3) := by decide +kernel
theorem dX6_emit_12 : decode cX6_emit 12 = .ok (.aload_n 0, 1) := by decide +kernel
theorem dX6_emit_13 : decode cX6_emit 13 = .ok (.getfield 9, 3) := by decide +kernel
theorem dX6_emit_16 : decode cX6_emit 16 = .ok (.aload_n 0, 1) := by decide +kernel
theorem dX6_emit_17 : decode cX6_emit 17 = .ok (.getfield 15, 3) := by decide +kernel
theorem dX6_emit_20 : decode cX6_emit 20 = .ok (.iload_n 1, 1) := by decide +kernel
theorem dX6_emit_21 : decode cX6_emit 21 = .ok (.iastore, 1) := by decide +kernel
theorem dX6_emit_22 : decode cX6_emit 22 = .ok (.aload_n 0, 1) := by decide +kernel
theorem dX6_emit_23 : decode cX6_emit 23 = .ok (.dup, 1) := by decide +kernel
theorem dX6_emit_24 : decode cX6_emit 24 = .ok (.getfield 15, 3) := by decide +kernel
theorem dX6_emit_27 : decode cX6_emit 27 = .ok (.iconst 1, 1) := by decide +kernel
theorem dX6_emit_28 : decode cX6_emit 28 = .ok (.iadd, 1) := by decide +kernel
theorem dX6_emit_29 : decode cX6_emit 29 = .ok (.putfield 15, 3) := by decide +kernel
theorem dX6_emit_32 : decode cX6_emit 32 = .ok (.return_, 1) := by decide +kernel
def fX6_emit (h : eg_H) (l0 : Nat) (l1 : Int32) : Option (eg_H) :=
  if eg_isO h 6 l0 then (
    (eg_gI h 6 2 l0).bind fun v1 =>
    (eg_gR h 6 1 l0).bind fun p3 =>
    (eg_al h p3).bind fun v5 =>
    if v5 ≤ v1 then
      (some h)
    else
      (eg_gR h 6 1 l0).bind fun p8 =>
      (eg_gI h 6 2 l0).bind fun v10 =>
      (eg_wI h 100 p8 v10 l1).bind fun h12 =>
      (eg_gI h12 6 2 l0).bind fun v14 =>
      (eg_pI h12 6 2 l0 (v14 + (1 : Int32))).bind fun h16 =>
      some h16) else none
theorem fX6_emit_O {h : eg_H} {l0 : Nat} {l1 : Int32} {hE : eg_H} (hF : fX6_emit h l0 l1 = some hE) : eg_isO h 6 l0 := (eg_ifn hF).1
set_option maxRecDepth 20000 in
theorem mX6_emit {h : eg_H} {l0 : Nat} {l1 : Int32} {hE : eg_H} (hF : fX6_emit h l0 l1 = some hE) : eg_Met yX6_emit cX6_emit 2 none 1 [.ref l0, .int l1] h none hE := by
  refine eg_enter rfl (Nat.le_of_ble_eq_true rfl) ?_
  show eg_AW (RX6, cX6_emit, 2, 1, none, "emit", none) (eg_Zm none hE h) (eg_nc hE) (eg_ns hE) h 0 [(0, .ref l0), (1, .int l1)] [] h
  replace hF := (eg_ifn hF).2
  refine eg_aload_n (i := 0) 0 dX6_emit_0 rfl rfl ?_
  replace hF := eg_bind hF; obtain ⟨v1, e2, hF⟩ := hF
  refine eg_getI dX6_emit_1 e2 (Nat.le_of_ble_eq_true rfl) (Nat.le_of_ble_eq_true rfl) rfl ew_187 ?_
  refine eg_aload_n (i := 0) 0 dX6_emit_4 rfl rfl ?_
  replace hF := eg_bind hF; obtain ⟨p3, e4, hF⟩ := hF
  refine eg_getR dX6_emit_5 e4 (Nat.le_of_ble_eq_true rfl) (Nat.le_of_ble_eq_true rfl) rfl ew_186 ?_
  replace hF := eg_bind hF; obtain ⟨v5, e6, hF⟩ := hF
  refine eg_alen dX6_emit_8 e6 ?_
  refine eg_ic_ge 32 dX6_emit_9 rfl (fun c7 => ?_) (fun c7 => ?_)
  · replace hF := eg_it c7 hF
    exact eg_vretE dX6_emit_32 hF
  · replace hF := eg_if c7 hF
    refine eg_aload_n (i := 0) 0 dX6_emit_12 rfl rfl ?_
    replace hF := eg_bind hF; obtain ⟨p8, e9, hF⟩ := hF
    refine eg_getR dX6_emit_13 e9 (Nat.le_of_ble_eq_true rfl) (Nat.le_of_ble_eq_true rfl) rfl ew_186 ?_
    refine eg_aload_n (i := 0) 0 dX6_emit_16 rfl rfl ?_
    replace hF := eg_bind hF; obtain ⟨v10, e11, hF⟩ := hF
    refine eg_getI dX6_emit_17 e11 (Nat.le_of_ble_eq_true rfl) (Nat.le_of_ble_eq_true rfl) rfl ew_187 ?_
    refine eg_iload_n (i := 1) 1 dX6_emit_20 rfl rfl ?_
    replace hF := eg_bind hF; obtain ⟨h12, e13, hF⟩ := hF
    refine eg_iast dX6_emit_21 e13 ?_
    refine eg_aload_n (i := 0) 0 dX6_emit_22 rfl rfl ?_
    refine eg_dup dX6_emit_23 rfl ?_
    replace hF := eg_bind hF; obtain ⟨v14, e15, hF⟩ := hF
    refine eg_getI dX6_emit_24 e15 (Nat.le_of_ble_eq_true rfl) (Nat.le_of_ble_eq_true rfl) rfl ew_187 ?_
    refine eg_iconst (v := (1 : Int32)) dX6_emit_27 (by decide) ?_
    refine eg_iadd dX6_emit_28 ?_
    replace hF := eg_bind hF; obtain ⟨h16, e17, hF⟩ := hF
    refine eg_putI dX6_emit_29 e17 (Nat.le_of_ble_eq_true rfl) (Nat.le_of_ble_eq_true rfl) rfl ew_187 (Or.inl rfl) ?_
    exact eg_vretE dX6_emit_32 hF
theorem dX6_letterUnder_0 : decode cX6_letterUnder 0 = .ok (.aload_n 0, 1) := by decide +kernel
theorem dX6_letterUnder_1 : decode cX6_letterUnder 1 = .ok (.getfield 19, 3) := by decide +kernel
theorem dX6_letterUnder_4 : decode cX6_letterUnder 4 = .ok (.invokevirtual 35, 3) := by decide +kernel
theorem dX6_letterUnder_7 : decode cX6_letterUnder 7 = .ok (.lookupswitch 63 #[(97, 54), (98, 51), (100, 49), (114, 60), (119, 57)], 49) := by decide +kernel
theorem dX6_letterUnder_56 : decode cX6_letterUnder 56 = .ok (.iconst (-1), 1) := by decide +kernel
theorem dX6_letterUnder_57 : decode cX6_letterUnder 57 = .ok (.ireturn, 1) := by decide +kernel
theorem dX6_letterUnder_58 : decode cX6_letterUnder 58 = .ok (.bipush (-2), 2) := by decide +kernel
theorem dX6_letterUnder_60 : decode cX6_letterUnder 60 = .ok (.ireturn, 1) := by decide +kernel
theorem dX6_letterUnder_61 : decode cX6_letterUnder 61 = .ok (.bipush (-3), 2) := by decide +kernel
theorem dX6_letterUnder_63 : decode cX6_letterUnder 63 = .ok (.ireturn, 1) := by decide +kernel
theorem dX6_letterUnder_64 : decode cX6_letterUnder 64 = .ok (.bipush (-4), 2) := by decide +kernel
theorem dX6_letterUnder_66 : decode cX6_letterUnder 66 = .ok (.ireturn, 1) := by decide +kernel
theorem dX6_letterUnder_67 : decode cX6_letterUnder 67 = .ok (.bipush (-5), 2) := by decide +kernel
theorem dX6_letterUnder_69 : decode cX6_letterUnder 69 = .ok (.ireturn, 1) := by decide +kernel
theorem dX6_letterUnder_70 : decode cX6_letterUnder 70 = .ok (.iconst 0, 1) := by decide +kernel
theorem dX6_letterUnder_71 : decode cX6_letterUnder 71 = .ok (.ireturn, 1) := by decide +kernel
def fX6_letterUnder (h : eg_H) (l0 : Nat) : Option (Int32 × eg_H) :=
  if eg_isO h 6 l0 then (
    (eg_gR h 6 0 l0).bind fun p1 =>
    (fX10_sign h p1).bind fun ⟨v4, h3⟩ =>
    if v4 = (97 : Int32) then
      (some ((-3 : Int32), h3))
    else
    if v4 = (98 : Int32) then
      (some ((-2 : Int32), h3))
    else
    if v4 = (100 : Int32) then
      (some ((-1 : Int32), h3))
    else
    if v4 = (114 : Int32) then
      (some ((-5 : Int32), h3))
    else
    if v4 = (119 : Int32) then
      (some ((-4 : Int32), h3))
    else
    some ((0 : Int32), h3)) else none
theorem fX6_letterUnder_O {h : eg_H} {l0 : Nat} {rE : Int32} {hE : eg_H} (hF : fX6_letterUnder h l0 = some (rE, hE)) : eg_isO h 6 l0 := (eg_ifn hF).1
set_option maxRecDepth 20000 in
theorem mX6_letterUnder {h : eg_H} {l0 : Nat} {rE : Int32} {hE : eg_H} (hF : fX6_letterUnder h l0 = some (rE, hE)) : eg_Met yX6_letterUnder cX6_letterUnder 1 (some .int) 2 [.ref l0] h (some (.int rE)) hE := by
  refine eg_enter rfl (Nat.le_of_ble_eq_true rfl) ?_
  show eg_AW (RX6, cX6_letterUnder, 1, 2, none, "letterUnder", (some .int)) (eg_Zm (some (.int rE)) hE h) (eg_nc hE) (eg_ns hE) h 0 [(0, .ref l0)] [] h
  replace hF := (eg_ifn hF).2
  refine eg_aload_n (i := 0) 0 dX6_letterUnder_0 rfl rfl ?_
  replace hF := eg_bind hF; obtain ⟨p1, e2, hF⟩ := hF
  refine eg_getR dX6_letterUnder_1 e2 (Nat.le_of_ble_eq_true rfl) (Nat.le_of_ble_eq_true rfl) rfl ew_185 ?_
  replace hF := eg_bind hF; obtain ⟨⟨v4, h3⟩, e5, hF⟩ := hF
  refine eg_callV (c := 10) (n := 0) [] dX6_letterUnder_4 (mX10_sign e5) rfl (fX10_sign_O e5) (Nat.le_of_ble_eq_true rfl) rfl ew_527 ew_469 ew_470 ew_101 ew_471 hy_X10_sign rfl (Nat.le_of_ble_eq_true rfl) (Nat.le_of_ble_eq_true rfl) (Nat.le_of_ble_eq_true rfl) ?_
  by_cases c6 : v4 = (97 : Int32)
  · replace hF := eg_it c6 hF
    refine eg_lsw (off := 54) 61 dX6_letterUnder_7 (by decide) (by rw [c6]; rfl) rfl ?_
    refine eg_bipush (v := (-3 : Int32)) dX6_letterUnder_61 (by decide) ?_
    exact eg_iretE dX6_letterUnder_63 hF
  replace hF := eg_if c6 hF
  by_cases c7 : v4 = (98 : Int32)
  · replace hF := eg_it c7 hF
    refine eg_lsw (off := 51) 58 dX6_letterUnder_7 (by decide) (by rw [c7]; rfl) rfl ?_
    refine eg_bipush (v := (-2 : Int32)) dX6_letterUnder_58 (by decide) ?_
    exact eg_iretE dX6_letterUnder_60 hF
  replace hF := eg_if c7 hF
  by_cases c8 : v4 = (100 : Int32)
  · replace hF := eg_it c8 hF
    refine eg_lsw (off := 49) 56 dX6_letterUnder_7 (by decide) (by rw [c8]; rfl) rfl ?_
    refine eg_iconst (v := (-1 : Int32)) dX6_letterUnder_56 (by decide) ?_
    exact eg_iretE dX6_letterUnder_57 hF
  replace hF := eg_if c8 hF
  by_cases c9 : v4 = (114 : Int32)
  · replace hF := eg_it c9 hF
    refine eg_lsw (off := 60) 67 dX6_letterUnder_7 (by decide) (by rw [c9]; rfl) rfl ?_
    refine eg_bipush (v := (-5 : Int32)) dX6_letterUnder_67 (by decide) ?_
    exact eg_iretE dX6_letterUnder_69 hF
  replace hF := eg_if c9 hF
  by_cases c10 : v4 = (119 : Int32)
  · replace hF := eg_it c10 hF
    refine eg_lsw (off := 57) 64 dX6_letterUnder_7 (by decide) (by rw [c10]; rfl) rfl ?_
    refine eg_bipush (v := (-4 : Int32)) dX6_letterUnder_64 (by decide) ?_
    exact eg_iretE dX6_letterUnder_66 hF
  replace hF := eg_if c10 hF
  refine eg_lsw (off := 63) 70 dX6_letterUnder_7 (by decide) (by show Op.lookupswitch.offset [(97, 54), (98, 51), (100, 49), (114, 60), (119, 57)] 63 _ = _; rw [lv_osw (a := 97) c6 rfl]; rw [lv_osw (a := 98) c7 rfl]; rw [lv_osw (a := 100) c8 rfl]; rw [lv_osw (a := 114) c9 rfl]; rw [lv_osw (a := 119) c10 rfl]; rfl) rfl ?_
  refine eg_iconst (v := (0 : Int32)) dX6_letterUnder_70 (by decide) ?_
  exact eg_iretE dX6_letterUnder_71 hF
theorem dX10_step_0 : decode cX10_step 0 = .ok (.aload_n 0, 1) := by decide +kernel
theorem dX10_step_1 : decode cX10_step 1 = .ok (.dup, 1) := by decide +kernel
theorem dX10_step_2 : decode cX10_step 2 = .ok (.getfield 19, 3) := by decide +kernel
theorem dX10_step_5 : decode cX10_step 5 = .ok (.iconst 1, 1) := by decide +kernel
theorem dX10_step_6 : decode cX10_step 6 = .ok (.iadd, 1) := by decide +kernel
theorem dX10_step_7 : decode cX10_step 7 = .ok (.putfield 19, 3) := by decide +kernel
theorem dX10_step_10 : decode cX10_step 10 = .ok (.aload_n 0, 1) := by decide +kernel
theorem dX10_step_11 : decode cX10_step 11 = .ok (.invokevirtual 28, 3) := by decide +kernel
theorem dX10_step_14 : decode cX10_step 14 = .ok (.return_, 1) := by decide +kernel
def fX10_step (h : eg_H) (l0 : Nat) : Option (eg_H) :=
  if eg_isO h 10 l0 then (
    (eg_gI h 10 2 l0).bind fun v1 =>
    (eg_pI h 10 2 l0 (v1 + (1 : Int32))).bind fun h3 =>
    (fX10_settle h3 l0).bind fun h5 =>
    some h5) else none
theorem fX10_step_O {h : eg_H} {l0 : Nat} {hE : eg_H} (hF : fX10_step h l0 = some hE) : eg_isO h 10 l0 := (eg_ifn hF).1
set_option maxRecDepth 20000 in
theorem mX10_step {h : eg_H} {l0 : Nat} {hE : eg_H} (hF : fX10_step h l0 = some hE) : eg_Met yX10_step cX10_step 1 none 2 [.ref l0] h none hE := by
  refine eg_enter rfl (Nat.le_of_ble_eq_true rfl) ?_
  show eg_AW (RX10, cX10_step, 1, 2, none, "step", none) (eg_Zm none hE h) (eg_nc hE) (eg_ns hE) h 0 [(0, .ref l0)] [] h
  replace hF := (eg_ifn hF).2
  refine eg_aload_n (i := 0) 0 dX10_step_0 rfl rfl ?_
  refine eg_dup dX10_step_1 rfl ?_
  replace hF := eg_bind hF; obtain ⟨v1, e2, hF⟩ := hF
  refine eg_getI dX10_step_2 e2 (Nat.le_of_ble_eq_true rfl) (Nat.le_of_ble_eq_true rfl) rfl ew_142 ?_
  refine eg_iconst (v := (1 : Int32)) dX10_step_5 (by decide) ?_
  refine eg_iadd dX10_step_6 ?_
  replace hF := eg_bind hF; obtain ⟨h3, e4, hF⟩ := hF
  refine eg_putI dX10_step_7 e4 (Nat.le_of_ble_eq_true rfl) (Nat.le_of_ble_eq_true rfl) rfl ew_142 (Or.inl rfl) ?_
  refine eg_aload_n (i := 0) 0 dX10_step_10 rfl rfl ?_
  replace hF := eg_bind hF; obtain ⟨h5, e6, hF⟩ := hF
  refine eg_callV (c := 10) (n := 0) [] dX10_step_11 (mX10_settle e6) rfl (fX10_settle_O e6) (Nat.le_of_ble_eq_true rfl) rfl ew_460 ew_462 ew_2 ew_101 ew_463 hy_X10_settle rfl (Nat.le_of_ble_eq_true rfl) (Nat.le_of_ble_eq_true rfl) (Nat.le_of_ble_eq_true rfl) ?_
  exact eg_vretE dX10_step_14 hF
theorem dX10_markWrongHere_0 : decode cX10_markWrongHere 0 = .ok (.aload_n 0, 1) := by decide +kernel
theorem dX10_markWrongHere_1 : decode cX10_markWrongHere 1 = .ok (.aload_n 0, 1) := by decide +kernel
theorem dX10_markWrongHere_2 : decode cX10_markWrongHere 2 = .ok (.getfield 19, 3) := by decide +kernel
theorem dX10_markWrongHere_5 : decode cX10_markWrongHere 5 = .ok (.invokevirtual 31, 3) := by decide +kernel
theorem dX10_markWrongHere_8 : decode cX10_markWrongHere 8 = .ok (.return_, 1) := by decide +kernel
def fX10_markWrongHere (h : eg_H) (l0 : Nat) : Option (eg_H) :=
  if eg_isO h 10 l0 then (
    (eg_gI h 10 2 l0).bind fun v1 =>
    (fX10_markWrong h l0 v1).bind fun h3 =>
    some h3) else none
theorem fX10_markWrongHere_O {h : eg_H} {l0 : Nat} {hE : eg_H} (hF : fX10_markWrongHere h l0 = some hE) : eg_isO h 10 l0 := (eg_ifn hF).1
set_option maxRecDepth 20000 in
theorem mX10_markWrongHere {h : eg_H} {l0 : Nat} {hE : eg_H} (hF : fX10_markWrongHere h l0 = some hE) : eg_Met yX10_markWrongHere cX10_markWrongHere 1 none 2 [.ref l0] h none hE := by
  refine eg_enter rfl (Nat.le_of_ble_eq_true rfl) ?_
  show eg_AW (RX10, cX10_markWrongHere, 1, 2, none, "markWrongHere", none) (eg_Zm none hE h) (eg_nc hE) (eg_ns hE) h 0 [(0, .ref l0)] [] h
  replace hF := (eg_ifn hF).2
  refine eg_aload_n (i := 0) 0 dX10_markWrongHere_0 rfl rfl ?_
  refine eg_aload_n (i := 0) 0 dX10_markWrongHere_1 rfl rfl ?_
  replace hF := eg_bind hF; obtain ⟨v1, e2, hF⟩ := hF
  refine eg_getI dX10_markWrongHere_2 e2 (Nat.le_of_ble_eq_true rfl) (Nat.le_of_ble_eq_true rfl) rfl ew_142 ?_
  replace hF := eg_bind hF; obtain ⟨h3, e4, hF⟩ := hF
  refine eg_callV (c := 10) (n := 1) [.int v1] dX10_markWrongHere_5 (mX10_markWrong e4) rfl (fX10_markWrong_O e4) (Nat.le_of_ble_eq_true rfl) rfl ew_498 ew_500 ew_6 ew_101 ew_501 hy_X10_markWrong rfl (Nat.le_of_ble_eq_true rfl) (Nat.le_of_ble_eq_true rfl) (Nat.le_of_ble_eq_true rfl) ?_
  exact eg_vretE dX10_markWrongHere_8 hF
theorem dX6_readAtom_0 : decode cX6_readAtom 0 = .ok (.aload_n 0, 1) := by decide +kernel
theorem dX6_readAtom_1 : decode cX6_readAtom 1 = .ok (.getfield 19, 3) := by decide +kernel
theorem dX6_readAtom_4 : decode cX6_readAtom 4 = .ok (.invokevirtual 86, 3) := by decide +kernel
theorem dX6_readAtom_7 : decode cX6_readAtom 7 = .ok (.ifCond .eq 19, 3) := by decide +kernel
theorem dX6_readAtom_10 : decode cX6_readAtom 10 = .ok (.aload_n 0, 1) := by decide +kernel
theorem dX6_readAtom_11 : decode cX6_readAtom 11 = .ok (.aload_n 0, 1) := by decide +kernel
theorem dX6_readAtom_12 : decode cX6_readAtom 12 = .ok (.getfield 19, 3) := by decide +kernel
theorem dX6_readAtom_15 : decode cX6_readAtom 15 = .ok (.iconst 4, 1) := by decide +kernel
theorem dX6_readAtom_16 : decode cX6_readAtom 16 = .ok (.iconst 0, 1) := by decide +kernel
theorem dX6_readAtom_17 : decode cX6_readAtom 17 = .ok (.ldc 90, 2) := by decide +kernel
theorem dX6_readAtom_19 : decode cX6_readAtom 19 = .ok (.invokevirtual 91, 3) := by decide +kernel
theorem dX6_readAtom_22 : decode cX6_readAtom 22 = .ok (.invokevirtual 64, 3) := by decide +kernel
theorem dX6_readAtom_25 : decode cX6_readAtom 25 = .ok (.return_, 1) := by decide +kernel
theorem dX6_readAtom_26 : decode cX6_readAtom 26 = .ok (.aload_n 0, 1) := by decide +kernel
theorem dX6_readAtom_27 : decode cX6_readAtom 27 = .ok (.invokevirtual 95, 3) := by decide +kernel
theorem dX6_readAtom_30 : decode cX6_readAtom 30 = .ok (.istore_n 2, 1) := by decide +kernel
theorem dX6_readAtom_31 : decode cX6_readAtom 31 = .ok (.iload_n 2, 1) := by decide +kernel
theorem dX6_readAtom_32 : decode cX6_readAtom 32 = .ok (.ifCond .eq 16, 3) := by decide +kernel
theorem dX6_readAtom_35 : decode cX6_readAtom 35 = .ok (.aload_n 0, 1) := by decide +kernel
theorem dX6_readAtom_36 : decode cX6_readAtom 36 = .ok (.getfield 19, 3) := by decide +kernel
theorem dX6_readAtom_39 : decode cX6_readAtom 39 = .ok (.invokevirtual 77, 3) := by decide +kernel
theorem dX6_readAtom_42 : decode cX6_readAtom 42 = .ok (.aload_n 0, 1) := by decide +kernel
theorem dX6_readAtom_43 : decode cX6_readAtom 43 = .ok (.iload_n 2, 1) := by decide +kernel
theorem dX6_readAtom_44 : decode cX6_readAtom 44 = .ok (.invokevirtual 64, 3) := by decide +kernel
theorem dX6_readAtom_47 : decode cX6_readAtom 47 = .ok (.return_, 1) := by decide +kernel
theorem dX6_readAtom_48 : decode cX6_readAtom 48 = .ok (.aload_n 0, 1) := by decide +kernel
theorem dX6_readAtom_49 : decode cX6_readAtom 49 = .ok (.getfield 19, 3) := by decide +kernel
theorem dX6_readAtom_52 : decode cX6_readAtom 52 = .ok (.invokevirtual 35, 3) := by decide +kernel
theorem dX6_readAtom_55 : decode cX6_readAtom 55 = .ok (.bipush 91, 2) := by decide +kernel
theorem dX6_readAtom_57 : decode cX6_readAtom 57 = .ok (.if_icmp .ne 9, 3) := by decide +kernel
theorem dX6_readAtom_60 : decode cX6_readAtom 60 = .ok (.iload_n 1, 1) := by decide +kernel
theorem dX6_readAtom_61 : decode cX6_readAtom 61 = .ok (.bipush 6, 2) := by decide +kernel
theorem dX6_readAtom_63 : decode cX6_readAtom 63 = .ok (.if_icmp .lt 11, 3) := by decide +kernel
theorem dX6_readAtom_66 : decode cX6_readAtom 66 = .ok (.aload_n 0, 1) := by decide +kernel
theorem dX6_readAtom_67 : decode cX6_readAtom 67 = .ok (.getfield 19, 3) := by decide +kernel
theorem dX6_readAtom_70 : decode cX6_readAtom 70 = .ok (.invokevirtual 39, 3) := by decide +kernel
theorem dX6_readAtom_73 : decode cX6_readAtom 73 = .ok (.return_, 1) := by decide +kernel
theorem dX6_readAtom_74 : decode cX6_readAtom 74 = .ok (.aload_n 0, 1) := by decide +kernel
theorem dX6_readAtom_75 : decode cX6_readAtom 75 = .ok (.getfield 19, 3) := by decide +kernel
theorem dX6_readAtom_78 : decode cX6_readAtom 78 = .ok (.invokevirtual 77, 3) := by decide +kernel
theorem dX6_readAtom_81 : decode cX6_readAtom 81 = .ok (.aload_n 0, 1) := by decide +kernel
theorem dX6_readAtom_82 : decode cX6_readAtom 82 = .ok (.iload_n 1, 1) := by decide +kernel
theorem dX6_readAtom_83 : decode cX6_readAtom 83 = .ok (.iconst 1, 1) := by decide +kernel
theorem dX6_readAtom_84 : decode cX6_readAtom 84 = .ok (.iadd, 1) := by decide +kernel
theorem dX6_readAtom_85 : decode cX6_readAtom 85 = .ok (.invokevirtual 54, 3) := by decide +kernel
theorem dX6_readAtom_88 : decode cX6_readAtom 88 = .ok (.aload_n 0, 1) := by decide +kernel
theorem dX6_readAtom_89 : decode cX6_readAtom 89 = .ok (.getfield 19, 3) := by decide +kernel
theorem dX6_readAtom_92 : decode cX6_readAtom 92 = .ok (.bipush 93, 2) := by decide +kernel
theorem dX6_readAtom_94 : decode cX6_readAtom 94 = .ok (.invokevirtual 50, 3) := by decide +kernel
theorem dX6_readAtom_97 : decode cX6_readAtom 97 = .ok (.return_, 1) := by decide +kernel
def fX6_readAtom (rc : eg_H → Nat → Int32 → Option (eg_H)) (h : eg_H) (l0 : Nat) (l1 : Int32) : Option (eg_H) :=
  if eg_isO h 6 l0 then (
    (eg_gR h 6 0 l0).bind fun p1 =>
    (fX10_isDigit h p1).bind fun ⟨v4, h3⟩ =>
    if v4 = 0 then
      ((fX6_letterUnder h3 l0).bind fun ⟨v8, h7⟩ =>
      if v8 = 0 then
        ((eg_gR h7 6 0 l0).bind fun p11 =>
        (fX10_sign h7 p11).bind fun ⟨v14, h13⟩ =>
        if v14 = (91 : Int32) then
          (if l1 < (6 : Int32) then
            ((eg_gR h13 6 0 l0).bind fun p18 =>
            (fX10_step h13 p18).bind fun h20 =>
            if eg_isO h20 6 l0 then (
            (rc h20 l0 (l1 + (1 : Int32))).bind fun h22 =>
            (eg_gR h22 6 0 l0).bind fun p25 =>
            (fX10_need h22 p25 (93 : Int32)).bind fun h27 =>
            some h27) else none)
          else
            (eg_gR h13 6 0 l0).bind fun p29 =>
            (fX10_markWrongHere h13 p29).bind fun h31 =>
            some h31)
        else
          (eg_gR h13 6 0 l0).bind fun p33 =>
          (fX10_markWrongHere h13 p33).bind fun h35 =>
          some h35)
      else
        (eg_gR h7 6 0 l0).bind fun p37 =>
        (fX10_step h7 p37).bind fun h39 =>
        (fX6_emit h39 l0 v8).bind fun h41 =>
        some h41)
    else
      (eg_gR h3 6 0 l0).bind fun p43 =>
      (fX10_number h3 p43 (4 : Int32) (0 : Int32) (1000000 : Int32)).bind fun ⟨v46, h45⟩ =>
      (fX6_emit h45 l0 v46).bind fun h48 =>
      some h48) else none
theorem fX6_readAtom_O {rc : eg_H → Nat → Int32 → Option (eg_H)} {h : eg_H} {l0 : Nat} {l1 : Int32} {hE : eg_H} (hF : fX6_readAtom rc h l0 l1 = some hE) : eg_isO h 6 l0 := (eg_ifn hF).1
set_option maxRecDepth 20000 in
theorem mX6_readAtom {rc : eg_H → Nat → Int32 → Option (eg_H)} {dr : Nat} (hdr : 2 ≤ dr) (hrc : ∀ (h : eg_H) (a0 : Nat) (a1 : Int32) (hE : eg_H), rc h a0 a1 = some hE → eg_Met yX6_readSum cX6_readSum 4 none dr [.ref a0, .int a1] h none hE) {h : eg_H} {l0 : Nat} {l1 : Int32} {hE : eg_H} (hF : fX6_readAtom rc h l0 l1 = some hE) : eg_Met yX6_readAtom cX6_readAtom 3 none (dr + 1) [.ref l0, .int l1] h none hE := by
  refine eg_enter rfl (Nat.le_of_ble_eq_true rfl) ?_
  show eg_AW (RX6, cX6_readAtom, 3, dr + 1, none, "readAtom", none) (eg_Zm none hE h) (eg_nc hE) (eg_ns hE) h 0 [(0, .ref l0), (1, .int l1)] [] h
  replace hF := (eg_ifn hF).2
  refine eg_aload_n (i := 0) 0 dX6_readAtom_0 rfl rfl ?_
  replace hF := eg_bind hF; obtain ⟨p1, e2, hF⟩ := hF
  refine eg_getR dX6_readAtom_1 e2 (Nat.le_of_ble_eq_true rfl) (Nat.le_of_ble_eq_true rfl) rfl ew_185 ?_
  replace hF := eg_bind hF; obtain ⟨⟨v4, h3⟩, e5, hF⟩ := hF
  refine eg_callV (c := 10) (n := 0) [] dX6_readAtom_4 (mX10_isDigit e5) rfl (fX10_isDigit_O e5) (Nat.le_of_ble_eq_true rfl) rfl ew_540 ew_541 ew_542 ew_101 ew_543 hy_X10_isDigit rfl (by have := eg_D_eq; omega) (Nat.le_of_ble_eq_true rfl) (Nat.le_of_ble_eq_true rfl) ?_
  refine eg_if_eq 26 dX6_readAtom_7 rfl (fun c6 => ?_) (fun c6 => ?_)
  · replace hF := eg_it c6 hF
    refine eg_aload_n (i := 0) 0 dX6_readAtom_26 rfl rfl ?_
    replace hF := eg_bind hF; obtain ⟨⟨v8, h7⟩, e9, hF⟩ := hF
    refine eg_callV (c := 6) (n := 0) [] dX6_readAtom_27 (mX6_letterUnder e9) rfl (fX6_letterUnder_O e9) (Nat.le_of_ble_eq_true rfl) rfl ew_550 ew_552 ew_12 ew_103 ew_553 hy_X6_letterUnder rfl (by have := eg_D_eq; omega) (Nat.le_of_ble_eq_true rfl) (Nat.le_of_ble_eq_true rfl) ?_
    refine eg_istore_n (i := 2) [(2, .int v8), (0, .ref l0), (1, .int l1)] dX6_readAtom_30 rfl (Nat.le_of_ble_eq_true rfl) rfl ?_
    refine eg_iload_n (i := 2) 0 dX6_readAtom_31 rfl rfl ?_
    refine eg_if_eq 48 dX6_readAtom_32 rfl (fun c10 => ?_) (fun c10 => ?_)
    · replace hF := eg_it c10 hF
      refine eg_aload_n (i := 0) 1 dX6_readAtom_48 rfl rfl ?_
      replace hF := eg_bind hF; obtain ⟨p11, e12, hF⟩ := hF
      refine eg_getR dX6_readAtom_49 e12 (Nat.le_of_ble_eq_true rfl) (Nat.le_of_ble_eq_true rfl) rfl ew_185 ?_
      replace hF := eg_bind hF; obtain ⟨⟨v14, h13⟩, e15, hF⟩ := hF
      refine eg_callV (c := 10) (n := 0) [] dX6_readAtom_52 (mX10_sign e15) rfl (fX10_sign_O e15) (Nat.le_of_ble_eq_true rfl) rfl ew_527 ew_469 ew_470 ew_101 ew_471 hy_X10_sign rfl (by have := eg_D_eq; omega) (Nat.le_of_ble_eq_true rfl) (Nat.le_of_ble_eq_true rfl) ?_
      refine eg_bipush (v := (91 : Int32)) dX6_readAtom_55 (by decide) ?_
      refine eg_ic_ne 66 dX6_readAtom_57 rfl (fun c16 => ?_) (fun c16 => ?_)
      · replace hF := eg_it c16 hF
        refine eg_iload_n (i := 1) 2 dX6_readAtom_60 rfl rfl ?_
        refine eg_bipush (v := (6 : Int32)) dX6_readAtom_61 (by decide) ?_
        refine eg_ic_lt 74 dX6_readAtom_63 rfl (fun c17 => ?_) (fun c17 => ?_)
        · replace hF := eg_it c17 hF
          refine eg_aload_n (i := 0) 1 dX6_readAtom_74 rfl rfl ?_
          replace hF := eg_bind hF; obtain ⟨p18, e19, hF⟩ := hF
          refine eg_getR dX6_readAtom_75 e19 (Nat.le_of_ble_eq_true rfl) (Nat.le_of_ble_eq_true rfl) rfl ew_185 ?_
          replace hF := eg_bind hF; obtain ⟨h20, e21, hF⟩ := hF
          refine eg_callV (c := 10) (n := 0) [] dX6_readAtom_78 (mX10_step e21) rfl (fX10_step_O e21) (Nat.le_of_ble_eq_true rfl) rfl ew_554 ew_477 ew_478 ew_101 ew_479 hy_X10_step rfl (by have := eg_D_eq; omega) (Nat.le_of_ble_eq_true rfl) (Nat.le_of_ble_eq_true rfl) ?_
          refine eg_aload_n (i := 0) 1 dX6_readAtom_81 rfl rfl ?_
          refine eg_iload_n (i := 1) 2 dX6_readAtom_82 rfl rfl ?_
          refine eg_iconst (v := (1 : Int32)) dX6_readAtom_83 (by decide) ?_
          refine eg_iadd dX6_readAtom_84 ?_
          replace hF := eg_ifn hF; obtain ⟨c24, hF⟩ := hF
          replace hF := eg_bind hF; obtain ⟨h22, e23, hF⟩ := hF
          refine eg_callV (c := 6) (n := 1) [.int (l1 + (1 : Int32))] dX6_readAtom_85 (hrc _ _ _ _ e23) rfl c24 (Nat.le_of_ble_eq_true rfl) rfl ew_528 ew_530 ew_8 ew_103 ew_531 hy_X6_readSum rfl (by have := eg_D_eq; omega) (Nat.le_of_ble_eq_true rfl) (Nat.le_of_ble_eq_true rfl) ?_
          refine eg_aload_n (i := 0) 1 dX6_readAtom_88 rfl rfl ?_
          replace hF := eg_bind hF; obtain ⟨p25, e26, hF⟩ := hF
          refine eg_getR dX6_readAtom_89 e26 (Nat.le_of_ble_eq_true rfl) (Nat.le_of_ble_eq_true rfl) rfl ew_185 ?_
          refine eg_bipush (v := (93 : Int32)) dX6_readAtom_92 (by decide) ?_
          replace hF := eg_bind hF; obtain ⟨h27, e28, hF⟩ := hF
          refine eg_callV (c := 10) (n := 1) [.int (93 : Int32)] dX6_readAtom_94 (mX10_need e28) rfl (fX10_need_O e28) (Nat.le_of_ble_eq_true rfl) rfl ew_523 ew_524 ew_525 ew_101 ew_526 hy_X10_need rfl (by have := eg_D_eq; omega) (Nat.le_of_ble_eq_true rfl) (Nat.le_of_ble_eq_true rfl) ?_
          exact eg_vretE dX6_readAtom_97 hF
        · replace hF := eg_if c17 hF
          refine eg_aload_n (i := 0) 1 dX6_readAtom_66 rfl rfl ?_
          replace hF := eg_bind hF; obtain ⟨p29, e30, hF⟩ := hF
          refine eg_getR dX6_readAtom_67 e30 (Nat.le_of_ble_eq_true rfl) (Nat.le_of_ble_eq_true rfl) rfl ew_185 ?_
          replace hF := eg_bind hF; obtain ⟨h31, e32, hF⟩ := hF
          refine eg_callV (c := 10) (n := 0) [] dX6_readAtom_70 (mX10_markWrongHere e32) rfl (fX10_markWrongHere_O e32) (Nat.le_of_ble_eq_true rfl) rfl ew_555 ew_503 ew_504 ew_101 ew_505 hy_X10_markWrongHere rfl (by have := eg_D_eq; omega) (Nat.le_of_ble_eq_true rfl) (Nat.le_of_ble_eq_true rfl) ?_
          exact eg_vretE dX6_readAtom_73 hF
      · replace hF := eg_if c16 hF
        refine eg_aload_n (i := 0) 1 dX6_readAtom_66 rfl rfl ?_
        replace hF := eg_bind hF; obtain ⟨p33, e34, hF⟩ := hF
        refine eg_getR dX6_readAtom_67 e34 (Nat.le_of_ble_eq_true rfl) (Nat.le_of_ble_eq_true rfl) rfl ew_185 ?_
        replace hF := eg_bind hF; obtain ⟨h35, e36, hF⟩ := hF
        refine eg_callV (c := 10) (n := 0) [] dX6_readAtom_70 (mX10_markWrongHere e36) rfl (fX10_markWrongHere_O e36) (Nat.le_of_ble_eq_true rfl) rfl ew_555 ew_503 ew_504 ew_101 ew_505 hy_X10_markWrongHere rfl (by have := eg_D_eq; omega) (Nat.le_of_ble_eq_true rfl) (Nat.le_of_ble_eq_true rfl) ?_
        exact eg_vretE dX6_readAtom_73 hF
    · replace hF := eg_if c10 hF
      refine eg_aload_n (i := 0) 1 dX6_readAtom_35 rfl rfl ?_
      replace hF := eg_bind hF; obtain ⟨p37, e38, hF⟩ := hF
      refine eg_getR dX6_readAtom_36 e38 (Nat.le_of_ble_eq_true rfl) (Nat.le_of_ble_eq_true rfl) rfl ew_185 ?_
      replace hF := eg_bind hF; obtain ⟨h39, e40, hF⟩ := hF
      refine eg_callV (c := 10) (n := 0) [] dX6_readAtom_39 (mX10_step e40) rfl (fX10_step_O e40) (Nat.le_of_ble_eq_true rfl) rfl ew_554 ew_477 ew_478 ew_101 ew_479 hy_X10_step rfl (by have := eg_D_eq; omega) (Nat.le_of_ble_eq_true rfl) (Nat.le_of_ble_eq_true rfl) ?_
      refine eg_aload_n (i := 0) 1 dX6_readAtom_42 rfl rfl ?_
      refine eg_iload_n (i := 2) 0 dX6_readAtom_43 rfl rfl ?_
      replace hF := eg_bind hF; obtain ⟨h41, e42, hF⟩ := hF
      refine eg_callV (c := 6) (n := 1) [.int v8] dX6_readAtom_44 (mX6_emit e42) rfl (fX6_emit_O e42) (Nat.le_of_ble_eq_true rfl) rfl ew_546 ew_548 ew_11 ew_103 ew_549 hy_X6_emit rfl (by have := eg_D_eq; omega) (Nat.le_of_ble_eq_true rfl) (Nat.le_of_ble_eq_true rfl) ?_
      exact eg_vretE dX6_readAtom_47 hF
  · replace hF := eg_if c6 hF
    refine eg_aload_n (i := 0) 0 dX6_readAtom_10 rfl rfl ?_
    refine eg_aload_n (i := 0) 0 dX6_readAtom_11 rfl rfl ?_
    replace hF := eg_bind hF; obtain ⟨p43, e44, hF⟩ := hF
    refine eg_getR dX6_readAtom_12 e44 (Nat.le_of_ble_eq_true rfl) (Nat.le_of_ble_eq_true rfl) rfl ew_185 ?_
    refine eg_iconst (v := (4 : Int32)) dX6_readAtom_15 (by decide) ?_
    refine eg_iconst (v := (0 : Int32)) dX6_readAtom_16 (by decide) ?_
    refine eg_ldc (v := (1000000 : Int32)) dX6_readAtom_17 ew_544 ?_
    replace hF := eg_bind hF; obtain ⟨⟨v46, h45⟩, e47, hF⟩ := hF
    refine eg_callV (c := 10) (n := 3) [.int (4 : Int32), .int (0 : Int32), .int (1000000 : Int32)] dX6_readAtom_19 (mX10_number e47) rfl (fX10_number_O e47) (Nat.le_of_ble_eq_true rfl) rfl ew_545 ew_491 ew_492 ew_101 ew_493 hy_X10_number rfl (by have := eg_D_eq; omega) (Nat.le_of_ble_eq_true rfl) (Nat.le_of_ble_eq_true rfl) ?_
    replace hF := eg_bind hF; obtain ⟨h48, e49, hF⟩ := hF
    refine eg_callV (c := 6) (n := 1) [.int v46] dX6_readAtom_22 (mX6_emit e49) rfl (fX6_emit_O e49) (Nat.le_of_ble_eq_true rfl) rfl ew_546 ew_548 ew_11 ew_103 ew_549 hy_X6_emit rfl (by have := eg_D_eq; omega) (Nat.le_of_ble_eq_true rfl) (Nat.le_of_ble_eq_true rfl) ?_
    exact eg_vretE dX6_readAtom_25 hF
theorem dX6_readTerm_0 : decode cX6_readTerm 0 = .ok (.aload_n 0, 1) := by decide +kernel
theorem dX6_readTerm_1 : decode cX6_readTerm 1 = .ok (.iload_n 1, 1) := by decide +kernel
theorem dX6_readTerm_2 : decode cX6_readTerm 2 = .ok (.invokevirtual 83, 3) := by decide +kernel
theorem dX6_readTerm_5 : decode cX6_readTerm 5 = .ok (.iconst 0, 1) := by decide +kernel
theorem dX6_readTerm_6 : decode cX6_readTerm 6 = .ok (.istore_n 2, 1) := by decide +kernel
theorem dX6_readTerm_7 : decode cX6_readTerm 7 = .ok (.iload_n 2, 1) := by decide +kernel
theorem dX6_readTerm_8 : decode cX6_readTerm 8 = .ok (.sipush 160, 3) := by decide +kernel
theorem dX6_readTerm_11 : decode cX6_readTerm 11 = .ok (.if_icmp .ge 59, 3) := by decide +kernel
theorem dX6_readTerm_14 : decode cX6_readTerm 14 = .ok (.aload_n 0, 1) := by decide +kernel
theorem dX6_readTerm_15 : decode cX6_readTerm 15 = .ok (.getfield 19, 3) := by decide +kernel
theorem dX6_readTerm_18 : decode cX6_readTerm 18 = .ok (.invokevirtual 35, 3) := by decide +kernel
theorem dX6_readTerm_21 : decode cX6_readTerm 21 = .ok (.istore_n 3, 1) := by decide +kernel
theorem dX6_readTerm_22 : decode cX6_readTerm 22 = .ok (.iload_n 3, 1) := by decide +kernel
theorem dX6_readTerm_23 : decode cX6_readTerm 23 = .ok (.bipush 42, 2) := by decide +kernel
theorem dX6_readTerm_25 : decode cX6_readTerm 25 = .ok (.if_icmp .eq 10, 3) := by decide +kernel
theorem dX6_readTerm_28 : decode cX6_readTerm 28 = .ok (.iload_n 3, 1) := by decide +kernel
theorem dX6_readTerm_29 : decode cX6_readTerm 29 = .ok (.bipush 47, 2) := by decide +kernel
theorem dX6_readTerm_31 : decode cX6_readTerm 31 = .ok (.if_icmp .eq 4, 3) := by decide +kernel
theorem dX6_readTerm_34 : decode cX6_readTerm 34 = .ok (.return_, 1) := by decide +kernel
theorem dX6_readTerm_35 : decode cX6_readTerm 35 = .ok (.aload_n 0, 1) := by decide +kernel
theorem dX6_readTerm_36 : decode cX6_readTerm 36 = .ok (.getfield 19, 3) := by decide +kernel
theorem dX6_readTerm_39 : decode cX6_readTerm 39 = .ok (.invokevirtual 77, 3) := by decide +kernel
theorem dX6_readTerm_42 : decode cX6_readTerm 42 = .ok (.aload_n 0, 1) := by decide +kernel
theorem dX6_readTerm_43 : decode cX6_readTerm 43 = .ok (.iload_n 1, 1) := by decide +kernel
theorem dX6_readTerm_44 : decode cX6_readTerm 44 = .ok (.invokevirtual 83, 3) := by decide +kernel
theorem dX6_readTerm_47 : decode cX6_readTerm 47 = .ok (.aload_n 0, 1) := by decide +kernel
theorem dX6_readTerm_48 : decode cX6_readTerm 48 = .ok (.iload_n 3, 1) := by decide +kernel
theorem dX6_readTerm_49 : decode cX6_readTerm 49 = .ok (.bipush 42, 2) := by decide +kernel
theorem dX6_readTerm_51 : decode cX6_readTerm 51 = .ok (.if_icmp .ne 8, 3) := by decide +kernel
theorem dX6_readTerm_54 : decode cX6_readTerm 54 = .ok (.bipush (-8), 2) := by decide +kernel
theorem dX6_readTerm_56 : decode cX6_readTerm 56 = .ok (.goto 5, 3) := by decide +kernel
theorem dX6_readTerm_59 : decode cX6_readTerm 59 = .ok (.bipush (-9), 2) := by decide +kernel
theorem dX6_readTerm_61 : decode cX6_readTerm 61 = .ok (.invokevirtual 64, 3) := by decide +kernel
theorem dX6_readTerm_64 : decode cX6_readTerm 64 = .ok (.iinc 2 1, 3) := by decide +kernel
theorem dX6_readTerm_67 : decode cX6_readTerm 67 = .ok (.goto (-60), 3) := by decide +kernel
theorem dX6_readTerm_70 : decode cX6_readTerm 70 = .ok (.return_, 1) := by decide +kernel
def fX6_readTerm_j35 (rc : eg_H → Nat → Int32 → Option (eg_H)) (rec : eg_H → Nat → Int32 → Int32 → Option ((eg_H) ⊕ (eg_H))) (h : eg_H) (l0 : Nat) (l1 : Int32) (l2 : Int32) (l3 : Int32) : Option ((eg_H) ⊕ (eg_H)) :=
  (eg_gR h 6 0 l0).bind fun p1 =>
  (fX10_step h p1).bind fun h3 =>
  (fX6_readAtom rc h3 l0 l1).bind fun h5 =>
  if l3 = (42 : Int32) then
    ((fX6_emit h5 l0 (-8 : Int32)).bind fun h8 =>
    rec h8 l0 l1 (l2 + (1 : Int32)))
  else
    (fX6_emit h5 l0 (-9 : Int32)).bind fun h10 =>
    rec h10 l0 l1 (l2 + (1 : Int32))
set_option maxRecDepth 20000 in
theorem fX6_readTerm_j35_ok {rc : eg_H → Nat → Int32 → Option (eg_H)} {dr : Nat} (hdr : 2 ≤ dr) (hrc : ∀ (h : eg_H) (a0 : Nat) (a1 : Int32) (hE : eg_H), rc h a0 a1 = some hE → eg_Met yX6_readSum cX6_readSum 4 none dr [.ref a0, .int a1] h none hE) {rec : eg_H → Nat → Int32 → Int32 → Option ((eg_H) ⊕ (eg_H))} {h0 : eg_H} {Z : eg_C → State → Prop} {N S : Nat} (h : eg_H) (l0 : Nat) (l1 : Int32) (l2 : Int32) (l3 : Int32) (eE : (eg_H) ⊕ (eg_H)) (hF : fX6_readTerm_j35 rc rec h l0 l1 l2 l3 = some eE) (hrec : ∀ (h : eg_H) (l0 : Nat) (l1 : Int32) (l2 : Int32), rec h l0 l1 l2 = some eE → eg_AW (RX6, cX6_readTerm, 4, dr + 2, none, "readTerm", none) Z N S h0 7 [(0, .ref l0), (1, .int l1), (2, .int l2)] [] h) (hk0 : ∀  (h : eg_H), eE = (.inl h) → eg_AW (RX6, cX6_readTerm, 4, dr + 2, none, "readTerm", none) Z N S h0 70 [] [] h) (hk1 : ∀  (h : eg_H), eE = (.inr (h)) → eg_AW (RX6, cX6_readTerm, 4, dr + 2, none, "readTerm", none) Z N S h0 34 [] [] h) : eg_AW (RX6, cX6_readTerm, 4, dr + 2, none, "readTerm", none) Z N S h0 35 [(0, .ref l0), (1, .int l1), (2, .int l2), (3, .int l3)] [] h := by
  refine eg_aload_n (i := 0) 0 dX6_readTerm_35 rfl rfl ?_
  replace hF := eg_bind hF; obtain ⟨p1, e2, hF⟩ := hF
  refine eg_getR dX6_readTerm_36 e2 (Nat.le_of_ble_eq_true rfl) (Nat.le_of_ble_eq_true rfl) rfl ew_185 ?_
  replace hF := eg_bind hF; obtain ⟨h3, e4, hF⟩ := hF
  refine eg_callV (c := 10) (n := 0) [] dX6_readTerm_39 (mX10_step e4) rfl (fX10_step_O e4) (Nat.le_of_ble_eq_true rfl) rfl ew_554 ew_477 ew_478 ew_101 ew_479 hy_X10_step rfl (by have := eg_D_eq; omega) (Nat.le_of_ble_eq_true rfl) (Nat.le_of_ble_eq_true rfl) ?_
  refine eg_aload_n (i := 0) 0 dX6_readTerm_42 rfl rfl ?_
  refine eg_iload_n (i := 1) 1 dX6_readTerm_43 rfl rfl ?_
  replace hF := eg_bind hF; obtain ⟨h5, e6, hF⟩ := hF
  refine eg_callV (c := 6) (n := 1) [.int l1] dX6_readTerm_44 (mX6_readAtom hdr hrc e6) rfl (fX6_readAtom_O e6) (Nat.le_of_ble_eq_true rfl) rfl ew_536 ew_538 ew_10 ew_103 ew_539 hy_X6_readAtom rfl (by have := eg_D_eq; omega) (Nat.le_of_ble_eq_true rfl) (Nat.le_of_ble_eq_true rfl) ?_
  refine eg_aload_n (i := 0) 0 dX6_readTerm_47 rfl rfl ?_
  refine eg_iload_n (i := 3) 3 dX6_readTerm_48 rfl rfl ?_
  refine eg_bipush (v := (42 : Int32)) dX6_readTerm_49 (by decide) ?_
  refine eg_ic_ne 59 dX6_readTerm_51 rfl (fun c7 => ?_) (fun c7 => ?_)
  · replace hF := eg_it c7 hF
    refine eg_bipush (v := (-8 : Int32)) dX6_readTerm_54 (by decide) ?_
    refine eg_goto 61 dX6_readTerm_56 rfl ?_
    replace hF := eg_bind hF; obtain ⟨h8, e9, hF⟩ := hF
    refine eg_callV (c := 6) (n := 1) [.int (-8 : Int32)] dX6_readTerm_61 (mX6_emit e9) rfl (fX6_emit_O e9) (Nat.le_of_ble_eq_true rfl) rfl ew_546 ew_548 ew_11 ew_103 ew_549 hy_X6_emit rfl (by have := eg_D_eq; omega) (Nat.le_of_ble_eq_true rfl) (Nat.le_of_ble_eq_true rfl) ?_
    refine eg_iinc (i := 2) (v := (l2 + (1 : Int32))) 2 [(2, .int (l2 + (1 : Int32))), (0, .ref l0), (1, .int l1), (3, .int l3)] dX6_readTerm_64 rfl rfl (Nat.le_of_ble_eq_true rfl) rfl ?_
    refine eg_goto 7 dX6_readTerm_67 rfl ?_
    exact eg_sub [1, 2, 0] [(0, .ref l0), (1, .int l1), (2, .int (l2 + (1 : Int32)))] rfl (hrec h8 l0 l1 (l2 + (1 : Int32)) hF)
  · replace hF := eg_if c7 hF
    refine eg_bipush (v := (-9 : Int32)) dX6_readTerm_59 (by decide) ?_
    replace hF := eg_bind hF; obtain ⟨h10, e11, hF⟩ := hF
    refine eg_callV (c := 6) (n := 1) [.int (-9 : Int32)] dX6_readTerm_61 (mX6_emit e11) rfl (fX6_emit_O e11) (Nat.le_of_ble_eq_true rfl) rfl ew_546 ew_548 ew_11 ew_103 ew_549 hy_X6_emit rfl (by have := eg_D_eq; omega) (Nat.le_of_ble_eq_true rfl) (Nat.le_of_ble_eq_true rfl) ?_
    refine eg_iinc (i := 2) (v := (l2 + (1 : Int32))) 2 [(2, .int (l2 + (1 : Int32))), (0, .ref l0), (1, .int l1), (3, .int l3)] dX6_readTerm_64 rfl rfl (Nat.le_of_ble_eq_true rfl) rfl ?_
    refine eg_goto 7 dX6_readTerm_67 rfl ?_
    exact eg_sub [1, 2, 0] [(0, .ref l0), (1, .int l1), (2, .int (l2 + (1 : Int32)))] rfl (hrec h10 l0 l1 (l2 + (1 : Int32)) hF)
def fX6_readTerm_L7 (rc : eg_H → Nat → Int32 → Option (eg_H)) : Nat → eg_H → Nat → Int32 → Int32 → Option ((eg_H) ⊕ (eg_H))
  | 0, _, _, _, _ => none
  | n + 1, h, l0, l1, l2 =>
    if (160 : Int32) ≤ l2 then
      (some (.inl h))
    else
      (eg_gR h 6 0 l0).bind fun p2 =>
      (fX10_sign h p2).bind fun ⟨v5, h4⟩ =>
      if v5 = (42 : Int32) then
        (fX6_readTerm_j35 rc (fX6_readTerm_L7 rc n) h4 l0 l1 l2 v5)
      else
        if v5 = (47 : Int32) then
          (fX6_readTerm_j35 rc (fX6_readTerm_L7 rc n) h4 l0 l1 l2 v5)
        else
          some (.inr (h4))
set_option maxRecDepth 20000 in
theorem fX6_readTerm_L7_ok {rc : eg_H → Nat → Int32 → Option (eg_H)} {dr : Nat} (hdr : 2 ≤ dr) (hrc : ∀ (h : eg_H) (a0 : Nat) (a1 : Int32) (hE : eg_H), rc h a0 a1 = some hE → eg_Met yX6_readSum cX6_readSum 4 none dr [.ref a0, .int a1] h none hE) {h0 : eg_H} {Z : eg_C → State → Prop} {N S : Nat} : ∀ (n : Nat) (h : eg_H) (l0 : Nat) (l1 : Int32) (l2 : Int32) (eE : (eg_H) ⊕ (eg_H)), fX6_readTerm_L7 rc n h l0 l1 l2 = some eE → (hk0 : ∀  (h : eg_H), eE = (.inl h) → eg_AW (RX6, cX6_readTerm, 4, dr + 2, none, "readTerm", none) Z N S h0 70 [] [] h) → (hk1 : ∀  (h : eg_H), eE = (.inr (h)) → eg_AW (RX6, cX6_readTerm, 4, dr + 2, none, "readTerm", none) Z N S h0 34 [] [] h) → eg_AW (RX6, cX6_readTerm, 4, dr + 2, none, "readTerm", none) Z N S h0 7 [(0, .ref l0), (1, .int l1), (2, .int l2)] [] h := by
  intro n
  induction n with
  | zero => intro h l0 l1 l2 eE hF; exact absurd hF (by intro q; cases q)
  | succ n ih =>
    intro h l0 l1 l2 eE hF hk0 hk1
    have hrec := fun (h' : eg_H) (l0 : Nat) (l1 : Int32) (l2 : Int32) hq => ih h' l0 l1 l2 eE hq hk0 hk1
    refine eg_iload_n (i := 2) 2 dX6_readTerm_7 rfl rfl ?_
    refine eg_sipush (v := (160 : Int32)) dX6_readTerm_8 (by decide) ?_
    refine eg_ic_ge 70 dX6_readTerm_11 rfl (fun c1 => ?_) (fun c1 => ?_)
    · replace hF := eg_it c1 hF
      exact eg_sub [] [] rfl (hk0 h (Option.some.inj hF).symm)
    · replace hF := eg_if c1 hF
      refine eg_aload_n (i := 0) 0 dX6_readTerm_14 rfl rfl ?_
      replace hF := eg_bind hF; obtain ⟨p2, e3, hF⟩ := hF
      refine eg_getR dX6_readTerm_15 e3 (Nat.le_of_ble_eq_true rfl) (Nat.le_of_ble_eq_true rfl) rfl ew_185 ?_
      replace hF := eg_bind hF; obtain ⟨⟨v5, h4⟩, e6, hF⟩ := hF
      refine eg_callV (c := 10) (n := 0) [] dX6_readTerm_18 (mX10_sign e6) rfl (fX10_sign_O e6) (Nat.le_of_ble_eq_true rfl) rfl ew_527 ew_469 ew_470 ew_101 ew_471 hy_X10_sign rfl (by have := eg_D_eq; omega) (Nat.le_of_ble_eq_true rfl) (Nat.le_of_ble_eq_true rfl) ?_
      refine eg_istore_n (i := 3) [(3, .int v5), (0, .ref l0), (1, .int l1), (2, .int l2)] dX6_readTerm_21 rfl (Nat.le_of_ble_eq_true rfl) rfl ?_
      refine eg_iload_n (i := 3) 0 dX6_readTerm_22 rfl rfl ?_
      refine eg_bipush (v := (42 : Int32)) dX6_readTerm_23 (by decide) ?_
      refine eg_ic_eq 35 dX6_readTerm_25 rfl (fun c7 => ?_) (fun c7 => ?_)
      · replace hF := eg_it c7 hF
        exact eg_sub [1, 2, 3, 0] [(0, .ref l0), (1, .int l1), (2, .int l2), (3, .int v5)] rfl (fX6_readTerm_j35_ok hdr hrc h4 l0 l1 l2 v5 eE hF hrec hk0 hk1)
      · replace hF := eg_if c7 hF
        refine eg_iload_n (i := 3) 0 dX6_readTerm_28 rfl rfl ?_
        refine eg_bipush (v := (47 : Int32)) dX6_readTerm_29 (by decide) ?_
        refine eg_ic_eq 35 dX6_readTerm_31 rfl (fun c8 => ?_) (fun c8 => ?_)
        · replace hF := eg_it c8 hF
          exact eg_sub [1, 2, 3, 0] [(0, .ref l0), (1, .int l1), (2, .int l2), (3, .int v5)] rfl (fX6_readTerm_j35_ok hdr hrc h4 l0 l1 l2 v5 eE hF hrec hk0 hk1)
        · replace hF := eg_if c8 hF
          exact eg_sub [] [] rfl (hk1 h4 (Option.some.inj hF).symm)
def fX6_readTerm (rc : eg_H → Nat → Int32 → Option (eg_H)) (h : eg_H) (l0 : Nat) (l1 : Int32) : Option (eg_H) :=
  if eg_isO h 6 l0 then (
    (fX6_readAtom rc h l0 l1).bind fun h1 =>
    (fX6_readTerm_L7 rc eg_F h1 l0 l1 (0 : Int32)).bind fun e =>
    match e with
    | .inl h5 =>
      some h5
    | .inr (h7) =>
      some h7) else none
theorem fX6_readTerm_O {rc : eg_H → Nat → Int32 → Option (eg_H)} {h : eg_H} {l0 : Nat} {l1 : Int32} {hE : eg_H} (hF : fX6_readTerm rc h l0 l1 = some hE) : eg_isO h 6 l0 := (eg_ifn hF).1
set_option maxRecDepth 20000 in
theorem mX6_readTerm {rc : eg_H → Nat → Int32 → Option (eg_H)} {dr : Nat} (hdr : 2 ≤ dr) (hrc : ∀ (h : eg_H) (a0 : Nat) (a1 : Int32) (hE : eg_H), rc h a0 a1 = some hE → eg_Met yX6_readSum cX6_readSum 4 none dr [.ref a0, .int a1] h none hE) {h : eg_H} {l0 : Nat} {l1 : Int32} {hE : eg_H} (hF : fX6_readTerm rc h l0 l1 = some hE) : eg_Met yX6_readTerm cX6_readTerm 4 none (dr + 2) [.ref l0, .int l1] h none hE := by
  refine eg_enter rfl (Nat.le_of_ble_eq_true rfl) ?_
  show eg_AW (RX6, cX6_readTerm, 4, dr + 2, none, "readTerm", none) (eg_Zm none hE h) (eg_nc hE) (eg_ns hE) h 0 [(0, .ref l0), (1, .int l1)] [] h
  replace hF := (eg_ifn hF).2
  refine eg_aload_n (i := 0) 0 dX6_readTerm_0 rfl rfl ?_
  refine eg_iload_n (i := 1) 1 dX6_readTerm_1 rfl rfl ?_
  replace hF := eg_bind hF; obtain ⟨h1, e2, hF⟩ := hF
  refine eg_callV (c := 6) (n := 1) [.int l1] dX6_readTerm_2 (mX6_readAtom hdr hrc e2) rfl (fX6_readAtom_O e2) (Nat.le_of_ble_eq_true rfl) rfl ew_536 ew_538 ew_10 ew_103 ew_539 hy_X6_readAtom rfl (by have := eg_D_eq; omega) (Nat.le_of_ble_eq_true rfl) (Nat.le_of_ble_eq_true rfl) ?_
  refine eg_iconst (v := (0 : Int32)) dX6_readTerm_5 (by decide) ?_
  refine eg_istore_n (i := 2) [(2, .int (0 : Int32)), (0, .ref l0), (1, .int l1)] dX6_readTerm_6 rfl (Nat.le_of_ble_eq_true rfl) rfl ?_
  replace hF := eg_bind hF; obtain ⟨x4, e3, hF⟩ := hF
  refine eg_sub [1, 2, 0] [(0, .ref l0), (1, .int l1), (2, .int (0 : Int32))] rfl (fX6_readTerm_L7_ok hdr hrc eg_F h1 l0 l1 (0 : Int32) x4 e3 ?_ ?_)
  · intro h5 e6
    subst e6
    exact eg_vretE dX6_readTerm_70 hF
  · intro h7 e8
    subst e8
    exact eg_vretE dX6_readTerm_34 hF
theorem dX6_readSum_0 : decode cX6_readSum 0 = .ok (.aload_n 0, 1) := by decide +kernel
theorem dX6_readSum_1 : decode cX6_readSum 1 = .ok (.iload_n 1, 1) := by decide +kernel
theorem dX6_readSum_2 : decode cX6_readSum 2 = .ok (.invokevirtual 80, 3) := by decide +kernel
theorem dX6_readSum_5 : decode cX6_readSum 5 = .ok (.iconst 0, 1) := by decide +kernel
theorem dX6_readSum_6 : decode cX6_readSum 6 = .ok (.istore_n 2, 1) := by decide +kernel
theorem dX6_readSum_7 : decode cX6_readSum 7 = .ok (.iload_n 2, 1) := by decide +kernel
theorem dX6_readSum_8 : decode cX6_readSum 8 = .ok (.sipush 160, 3) := by decide +kernel
theorem dX6_readSum_11 : decode cX6_readSum 11 = .ok (.if_icmp .ge 59, 3) := by decide +kernel
theorem dX6_readSum_14 : decode cX6_readSum 14 = .ok (.aload_n 0, 1) := by decide +kernel
theorem dX6_readSum_15 : decode cX6_readSum 15 = .ok (.getfield 19, 3) := by decide +kernel
theorem dX6_readSum_18 : decode cX6_readSum 18 = .ok (.invokevirtual 35, 3) := by decide +kernel
theorem dX6_readSum_21 : decode cX6_readSum 21 = .ok (.istore_n 3, 1) := by decide +kernel
theorem dX6_readSum_22 : decode cX6_readSum 22 = .ok (.iload_n 3, 1) := by decide +kernel
theorem dX6_readSum_23 : decode cX6_readSum 23 = .ok (.bipush 43, 2) := by decide +kernel
theorem dX6_readSum_25 : decode cX6_readSum 25 = .ok (.if_icmp .eq 10, 3) := by decide +kernel
theorem dX6_readSum_28 : decode cX6_readSum 28 = .ok (.iload_n 3, 1) := by decide +kernel
theorem dX6_readSum_29 : decode cX6_readSum 29 = .ok (.bipush 45, 2) := by decide +kernel
theorem dX6_readSum_31 : decode cX6_readSum 31 = .ok (.if_icmp .eq 4, 3) := by decide +kernel
theorem dX6_readSum_34 : decode cX6_readSum 34 = .ok (.return_, 1) := by decide +kernel
theorem dX6_readSum_35 : decode cX6_readSum 35 = .ok (.aload_n 0, 1) := by decide +kernel
theorem dX6_readSum_36 : decode cX6_readSum 36 = .ok (.getfield 19, 3) := by decide +kernel
theorem dX6_readSum_39 : decode cX6_readSum 39 = .ok (.invokevirtual 77, 3) := by decide +kernel
theorem dX6_readSum_42 : decode cX6_readSum 42 = .ok (.aload_n 0, 1) := by decide +kernel
theorem dX6_readSum_43 : decode cX6_readSum 43 = .ok (.iload_n 1, 1) := by decide +kernel
theorem dX6_readSum_44 : decode cX6_readSum 44 = .ok (.invokevirtual 80, 3) := by decide +kernel
theorem dX6_readSum_47 : decode cX6_readSum 47 = .ok (.aload_n 0, 1) := by decide +kernel
theorem dX6_readSum_48 : decode cX6_readSum 48 = .ok (.iload_n 3, 1) := by decide +kernel
theorem dX6_readSum_49 : decode cX6_readSum 49 = .ok (.bipush 43, 2) := by decide +kernel
theorem dX6_readSum_51 : decode cX6_readSum 51 = .ok (.if_icmp .ne 8, 3) := by decide +kernel
theorem dX6_readSum_54 : decode cX6_readSum 54 = .ok (.bipush (-6), 2) := by decide +kernel
theorem dX6_readSum_56 : decode cX6_readSum 56 = .ok (.goto 5, 3) := by decide +kernel
theorem dX6_readSum_59 : decode cX6_readSum 59 = .ok (.bipush (-7), 2) := by decide +kernel
theorem dX6_readSum_61 : decode cX6_readSum 61 = .ok (.invokevirtual 64, 3) := by decide +kernel
theorem dX6_readSum_64 : decode cX6_readSum 64 = .ok (.iinc 2 1, 3) := by decide +kernel
theorem dX6_readSum_67 : decode cX6_readSum 67 = .ok (.goto (-60), 3) := by decide +kernel
theorem dX6_readSum_70 : decode cX6_readSum 70 = .ok (.return_, 1) := by decide +kernel
def fX6_readSum_j35 (rc : eg_H → Nat → Int32 → Option (eg_H)) (rec : eg_H → Nat → Int32 → Int32 → Option ((eg_H) ⊕ (eg_H))) (h : eg_H) (l0 : Nat) (l1 : Int32) (l2 : Int32) (l3 : Int32) : Option ((eg_H) ⊕ (eg_H)) :=
  (eg_gR h 6 0 l0).bind fun p1 =>
  (fX10_step h p1).bind fun h3 =>
  (fX6_readTerm rc h3 l0 l1).bind fun h5 =>
  if l3 = (43 : Int32) then
    ((fX6_emit h5 l0 (-6 : Int32)).bind fun h8 =>
    rec h8 l0 l1 (l2 + (1 : Int32)))
  else
    (fX6_emit h5 l0 (-7 : Int32)).bind fun h10 =>
    rec h10 l0 l1 (l2 + (1 : Int32))
set_option maxRecDepth 20000 in
theorem fX6_readSum_j35_ok {rc : eg_H → Nat → Int32 → Option (eg_H)} {dr : Nat} (hdr : 2 ≤ dr) (hrc : ∀ (h : eg_H) (a0 : Nat) (a1 : Int32) (hE : eg_H), rc h a0 a1 = some hE → eg_Met yX6_readSum cX6_readSum 4 none dr [.ref a0, .int a1] h none hE) {rec : eg_H → Nat → Int32 → Int32 → Option ((eg_H) ⊕ (eg_H))} {h0 : eg_H} {Z : eg_C → State → Prop} {N S : Nat} (h : eg_H) (l0 : Nat) (l1 : Int32) (l2 : Int32) (l3 : Int32) (eE : (eg_H) ⊕ (eg_H)) (hF : fX6_readSum_j35 rc rec h l0 l1 l2 l3 = some eE) (hrec : ∀ (h : eg_H) (l0 : Nat) (l1 : Int32) (l2 : Int32), rec h l0 l1 l2 = some eE → eg_AW (RX6, cX6_readSum, 4, dr + 3, none, "readSum", none) Z N S h0 7 [(0, .ref l0), (1, .int l1), (2, .int l2)] [] h) (hk0 : ∀  (h : eg_H), eE = (.inl h) → eg_AW (RX6, cX6_readSum, 4, dr + 3, none, "readSum", none) Z N S h0 70 [] [] h) (hk1 : ∀  (h : eg_H), eE = (.inr (h)) → eg_AW (RX6, cX6_readSum, 4, dr + 3, none, "readSum", none) Z N S h0 34 [] [] h) : eg_AW (RX6, cX6_readSum, 4, dr + 3, none, "readSum", none) Z N S h0 35 [(0, .ref l0), (1, .int l1), (2, .int l2), (3, .int l3)] [] h := by
  refine eg_aload_n (i := 0) 0 dX6_readSum_35 rfl rfl ?_
  replace hF := eg_bind hF; obtain ⟨p1, e2, hF⟩ := hF
  refine eg_getR dX6_readSum_36 e2 (Nat.le_of_ble_eq_true rfl) (Nat.le_of_ble_eq_true rfl) rfl ew_185 ?_
  replace hF := eg_bind hF; obtain ⟨h3, e4, hF⟩ := hF
  refine eg_callV (c := 10) (n := 0) [] dX6_readSum_39 (mX10_step e4) rfl (fX10_step_O e4) (Nat.le_of_ble_eq_true rfl) rfl ew_554 ew_477 ew_478 ew_101 ew_479 hy_X10_step rfl (by have := eg_D_eq; omega) (Nat.le_of_ble_eq_true rfl) (Nat.le_of_ble_eq_true rfl) ?_
  refine eg_aload_n (i := 0) 0 dX6_readSum_42 rfl rfl ?_
  refine eg_iload_n (i := 1) 1 dX6_readSum_43 rfl rfl ?_
  replace hF := eg_bind hF; obtain ⟨h5, e6, hF⟩ := hF
  refine eg_callV (c := 6) (n := 1) [.int l1] dX6_readSum_44 (mX6_readTerm hdr hrc e6) rfl (fX6_readTerm_O e6) (Nat.le_of_ble_eq_true rfl) rfl ew_532 ew_534 ew_9 ew_103 ew_535 hy_X6_readTerm rfl (by have := eg_D_eq; omega) (Nat.le_of_ble_eq_true rfl) (Nat.le_of_ble_eq_true rfl) ?_
  refine eg_aload_n (i := 0) 0 dX6_readSum_47 rfl rfl ?_
  refine eg_iload_n (i := 3) 3 dX6_readSum_48 rfl rfl ?_
  refine eg_bipush (v := (43 : Int32)) dX6_readSum_49 (by decide) ?_
  refine eg_ic_ne 59 dX6_readSum_51 rfl (fun c7 => ?_) (fun c7 => ?_)
  · replace hF := eg_it c7 hF
    refine eg_bipush (v := (-6 : Int32)) dX6_readSum_54 (by decide) ?_
    refine eg_goto 61 dX6_readSum_56 rfl ?_
    replace hF := eg_bind hF; obtain ⟨h8, e9, hF⟩ := hF
    refine eg_callV (c := 6) (n := 1) [.int (-6 : Int32)] dX6_readSum_61 (mX6_emit e9) rfl (fX6_emit_O e9) (Nat.le_of_ble_eq_true rfl) rfl ew_546 ew_548 ew_11 ew_103 ew_549 hy_X6_emit rfl (by have := eg_D_eq; omega) (Nat.le_of_ble_eq_true rfl) (Nat.le_of_ble_eq_true rfl) ?_
    refine eg_iinc (i := 2) (v := (l2 + (1 : Int32))) 2 [(2, .int (l2 + (1 : Int32))), (0, .ref l0), (1, .int l1), (3, .int l3)] dX6_readSum_64 rfl rfl (Nat.le_of_ble_eq_true rfl) rfl ?_
    refine eg_goto 7 dX6_readSum_67 rfl ?_
    exact eg_sub [1, 2, 0] [(0, .ref l0), (1, .int l1), (2, .int (l2 + (1 : Int32)))] rfl (hrec h8 l0 l1 (l2 + (1 : Int32)) hF)
  · replace hF := eg_if c7 hF
    refine eg_bipush (v := (-7 : Int32)) dX6_readSum_59 (by decide) ?_
    replace hF := eg_bind hF; obtain ⟨h10, e11, hF⟩ := hF
    refine eg_callV (c := 6) (n := 1) [.int (-7 : Int32)] dX6_readSum_61 (mX6_emit e11) rfl (fX6_emit_O e11) (Nat.le_of_ble_eq_true rfl) rfl ew_546 ew_548 ew_11 ew_103 ew_549 hy_X6_emit rfl (by have := eg_D_eq; omega) (Nat.le_of_ble_eq_true rfl) (Nat.le_of_ble_eq_true rfl) ?_
    refine eg_iinc (i := 2) (v := (l2 + (1 : Int32))) 2 [(2, .int (l2 + (1 : Int32))), (0, .ref l0), (1, .int l1), (3, .int l3)] dX6_readSum_64 rfl rfl (Nat.le_of_ble_eq_true rfl) rfl ?_
    refine eg_goto 7 dX6_readSum_67 rfl ?_
    exact eg_sub [1, 2, 0] [(0, .ref l0), (1, .int l1), (2, .int (l2 + (1 : Int32)))] rfl (hrec h10 l0 l1 (l2 + (1 : Int32)) hF)
def fX6_readSum_L7 (rc : eg_H → Nat → Int32 → Option (eg_H)) : Nat → eg_H → Nat → Int32 → Int32 → Option ((eg_H) ⊕ (eg_H))
  | 0, _, _, _, _ => none
  | n + 1, h, l0, l1, l2 =>
    if (160 : Int32) ≤ l2 then
      (some (.inl h))
    else
      (eg_gR h 6 0 l0).bind fun p2 =>
      (fX10_sign h p2).bind fun ⟨v5, h4⟩ =>
      if v5 = (43 : Int32) then
        (fX6_readSum_j35 rc (fX6_readSum_L7 rc n) h4 l0 l1 l2 v5)
      else
        if v5 = (45 : Int32) then
          (fX6_readSum_j35 rc (fX6_readSum_L7 rc n) h4 l0 l1 l2 v5)
        else
          some (.inr (h4))
set_option maxRecDepth 20000 in
theorem fX6_readSum_L7_ok {rc : eg_H → Nat → Int32 → Option (eg_H)} {dr : Nat} (hdr : 2 ≤ dr) (hrc : ∀ (h : eg_H) (a0 : Nat) (a1 : Int32) (hE : eg_H), rc h a0 a1 = some hE → eg_Met yX6_readSum cX6_readSum 4 none dr [.ref a0, .int a1] h none hE) {h0 : eg_H} {Z : eg_C → State → Prop} {N S : Nat} : ∀ (n : Nat) (h : eg_H) (l0 : Nat) (l1 : Int32) (l2 : Int32) (eE : (eg_H) ⊕ (eg_H)), fX6_readSum_L7 rc n h l0 l1 l2 = some eE → (hk0 : ∀  (h : eg_H), eE = (.inl h) → eg_AW (RX6, cX6_readSum, 4, dr + 3, none, "readSum", none) Z N S h0 70 [] [] h) → (hk1 : ∀  (h : eg_H), eE = (.inr (h)) → eg_AW (RX6, cX6_readSum, 4, dr + 3, none, "readSum", none) Z N S h0 34 [] [] h) → eg_AW (RX6, cX6_readSum, 4, dr + 3, none, "readSum", none) Z N S h0 7 [(0, .ref l0), (1, .int l1), (2, .int l2)] [] h := by
  intro n
  induction n with
  | zero => intro h l0 l1 l2 eE hF; exact absurd hF (by intro q; cases q)
  | succ n ih =>
    intro h l0 l1 l2 eE hF hk0 hk1
    have hrec := fun (h' : eg_H) (l0 : Nat) (l1 : Int32) (l2 : Int32) hq => ih h' l0 l1 l2 eE hq hk0 hk1
    refine eg_iload_n (i := 2) 2 dX6_readSum_7 rfl rfl ?_
    refine eg_sipush (v := (160 : Int32)) dX6_readSum_8 (by decide) ?_
    refine eg_ic_ge 70 dX6_readSum_11 rfl (fun c1 => ?_) (fun c1 => ?_)
    · replace hF := eg_it c1 hF
      exact eg_sub [] [] rfl (hk0 h (Option.some.inj hF).symm)
    · replace hF := eg_if c1 hF
      refine eg_aload_n (i := 0) 0 dX6_readSum_14 rfl rfl ?_
      replace hF := eg_bind hF; obtain ⟨p2, e3, hF⟩ := hF
      refine eg_getR dX6_readSum_15 e3 (Nat.le_of_ble_eq_true rfl) (Nat.le_of_ble_eq_true rfl) rfl ew_185 ?_
      replace hF := eg_bind hF; obtain ⟨⟨v5, h4⟩, e6, hF⟩ := hF
      refine eg_callV (c := 10) (n := 0) [] dX6_readSum_18 (mX10_sign e6) rfl (fX10_sign_O e6) (Nat.le_of_ble_eq_true rfl) rfl ew_527 ew_469 ew_470 ew_101 ew_471 hy_X10_sign rfl (by have := eg_D_eq; omega) (Nat.le_of_ble_eq_true rfl) (Nat.le_of_ble_eq_true rfl) ?_
      refine eg_istore_n (i := 3) [(3, .int v5), (0, .ref l0), (1, .int l1), (2, .int l2)] dX6_readSum_21 rfl (Nat.le_of_ble_eq_true rfl) rfl ?_
      refine eg_iload_n (i := 3) 0 dX6_readSum_22 rfl rfl ?_
      refine eg_bipush (v := (43 : Int32)) dX6_readSum_23 (by decide) ?_
      refine eg_ic_eq 35 dX6_readSum_25 rfl (fun c7 => ?_) (fun c7 => ?_)
      · replace hF := eg_it c7 hF
        exact eg_sub [1, 2, 3, 0] [(0, .ref l0), (1, .int l1), (2, .int l2), (3, .int v5)] rfl (fX6_readSum_j35_ok hdr hrc h4 l0 l1 l2 v5 eE hF hrec hk0 hk1)
      · replace hF := eg_if c7 hF
        refine eg_iload_n (i := 3) 0 dX6_readSum_28 rfl rfl ?_
        refine eg_bipush (v := (45 : Int32)) dX6_readSum_29 (by decide) ?_
        refine eg_ic_eq 35 dX6_readSum_31 rfl (fun c8 => ?_) (fun c8 => ?_)
        · replace hF := eg_it c8 hF
          exact eg_sub [1, 2, 3, 0] [(0, .ref l0), (1, .int l1), (2, .int l2), (3, .int v5)] rfl (fX6_readSum_j35_ok hdr hrc h4 l0 l1 l2 v5 eE hF hrec hk0 hk1)
        · replace hF := eg_if c8 hF
          exact eg_sub [] [] rfl (hk1 h4 (Option.some.inj hF).symm)
def fX6_readSumB (rc : eg_H → Nat → Int32 → Option (eg_H)) (h : eg_H) (l0 : Nat) (l1 : Int32) : Option (eg_H) :=
  if eg_isO h 6 l0 then (
    (fX6_readTerm rc h l0 l1).bind fun h1 =>
    (fX6_readSum_L7 rc eg_F h1 l0 l1 (0 : Int32)).bind fun e =>
    match e with
    | .inl h5 =>
      some h5
    | .inr (h7) =>
      some h7) else none
theorem fX6_readSumB_O {rc : eg_H → Nat → Int32 → Option (eg_H)} {h : eg_H} {l0 : Nat} {l1 : Int32} {hE : eg_H} (hF : fX6_readSumB rc h l0 l1 = some hE) : eg_isO h 6 l0 := (eg_ifn hF).1
set_option maxRecDepth 20000 in
theorem mX6_readSumB {rc : eg_H → Nat → Int32 → Option (eg_H)} {dr : Nat} (hdr : 2 ≤ dr) (hrc : ∀ (h : eg_H) (a0 : Nat) (a1 : Int32) (hE : eg_H), rc h a0 a1 = some hE → eg_Met yX6_readSum cX6_readSum 4 none dr [.ref a0, .int a1] h none hE) {h : eg_H} {l0 : Nat} {l1 : Int32} {hE : eg_H} (hF : fX6_readSumB rc h l0 l1 = some hE) : eg_Met yX6_readSum cX6_readSum 4 none (dr + 3) [.ref l0, .int l1] h none hE := by
  refine eg_enter rfl (Nat.le_of_ble_eq_true rfl) ?_
  show eg_AW (RX6, cX6_readSum, 4, dr + 3, none, "readSum", none) (eg_Zm none hE h) (eg_nc hE) (eg_ns hE) h 0 [(0, .ref l0), (1, .int l1)] [] h
  replace hF := (eg_ifn hF).2
  refine eg_aload_n (i := 0) 0 dX6_readSum_0 rfl rfl ?_
  refine eg_iload_n (i := 1) 1 dX6_readSum_1 rfl rfl ?_
  replace hF := eg_bind hF; obtain ⟨h1, e2, hF⟩ := hF
  refine eg_callV (c := 6) (n := 1) [.int l1] dX6_readSum_2 (mX6_readTerm hdr hrc e2) rfl (fX6_readTerm_O e2) (Nat.le_of_ble_eq_true rfl) rfl ew_532 ew_534 ew_9 ew_103 ew_535 hy_X6_readTerm rfl (by have := eg_D_eq; omega) (Nat.le_of_ble_eq_true rfl) (Nat.le_of_ble_eq_true rfl) ?_
  refine eg_iconst (v := (0 : Int32)) dX6_readSum_5 (by decide) ?_
  refine eg_istore_n (i := 2) [(2, .int (0 : Int32)), (0, .ref l0), (1, .int l1)] dX6_readSum_6 rfl (Nat.le_of_ble_eq_true rfl) rfl ?_
  replace hF := eg_bind hF; obtain ⟨x4, e3, hF⟩ := hF
  refine eg_sub [1, 2, 0] [(0, .ref l0), (1, .int l1), (2, .int (0 : Int32))] rfl (fX6_readSum_L7_ok hdr hrc eg_F h1 l0 l1 (0 : Int32) x4 e3 ?_ ?_)
  · intro h5 e6
    subst e6
    exact eg_vretE dX6_readSum_70 hF
  · intro h7 e8
    subst e8
    exact eg_vretE dX6_readSum_34 hF
def fX6_readSum : Nat → eg_H → Nat → Int32 → Option (eg_H)
  | 0 => fun _ _ _ => none
  | n + 1 => fX6_readSumB (fX6_readSum n)
theorem fX6_readSum_O {n : Nat} {h : eg_H} {l0 : Nat} {l1 : Int32} {hE : eg_H} (hF : fX6_readSum n h l0 l1 = some hE) : eg_isO h 6 l0 := by
  cases n with
  | zero => cases hF
  | succ n => exact fX6_readSumB_O (rc := fX6_readSum n) hF
theorem mX6_readSum_x : ∀ (n : Nat) (h : eg_H) (l0 : Nat) (l1 : Int32) (hE : eg_H), fX6_readSum n h l0 l1 = some hE → eg_Met yX6_readSum cX6_readSum 4 none (2 + 3 * n) [.ref l0, .int l1] h none hE := by
  intro n
  induction n with
  | zero => intro h l0 l1 hE hF; cases hF
  | succ n ih =>
    intro h l0 l1 hE hF
    exact mX6_readSumB (rc := fX6_readSum n) (dr := 2 + 3 * n) (by omega) ih hF
theorem mX6_readSum (n : Nat) {h : eg_H} {l0 : Nat} {l1 : Int32} {hE : eg_H} (hF : fX6_readSum n h l0 l1 = some hE) : eg_Met yX6_readSum cX6_readSum 4 none (2 + 3 * n) [.ref l0, .int l1] h none hE := mX6_readSum_x n h l0 l1 hE hF
theorem dX6_comparison_0 : decode cX6_comparison 0 = .ok (.aload_n 0, 1) := by decide +kernel
theorem dX6_comparison_1 : decode cX6_comparison 1 = .ok (.getfield 19, 3) := by decide +kernel
theorem dX6_comparison_4 : decode cX6_comparison 4 = .ok (.invokevirtual 35, 3) := by decide +kernel
theorem dX6_comparison_7 : decode cX6_comparison 7 = .ok (.tableswitch 34 60 62 #[28, 25, 31], 25) := by decide +kernel
theorem dX6_comparison_32 : decode cX6_comparison 32 = .ok (.bipush (-10), 2) := by decide +kernel
theorem dX6_comparison_34 : decode cX6_comparison 34 = .ok (.ireturn, 1) := by decide +kernel
theorem dX6_comparison_35 : decode cX6_comparison 35 = .ok (.bipush (-11), 2) := by decide +kernel
theorem dX6_comparison_37 : decode cX6_comparison 37 = .ok (.ireturn, 1) := by decide +kernel
theorem dX6_comparison_38 : decode cX6_comparison 38 = .ok (.bipush (-12), 2) := by decide +kernel
theorem dX6_comparison_40 : decode cX6_comparison 40 = .ok (.ireturn, 1) := by decide +kernel
theorem dX6_comparison_41 : decode cX6_comparison 41 = .ok (.iconst 0, 1) := by decide +kernel
theorem dX6_comparison_42 : decode cX6_comparison 42 = .ok (.ireturn, 1) := by decide +kernel
def fX6_comparison (h : eg_H) (l0 : Nat) : Option (Int32 × eg_H) :=
  if eg_isO h 6 l0 then (
    (eg_gR h 6 0 l0).bind fun p1 =>
    (fX10_sign h p1).bind fun ⟨v4, h3⟩ =>
    if v4 = (60 : Int32) then
      (some ((-11 : Int32), h3))
    else
    if v4 = (61 : Int32) then
      (some ((-10 : Int32), h3))
    else
    if v4 = (62 : Int32) then
      (some ((-12 : Int32), h3))
    else
    some ((0 : Int32), h3)) else none
theorem fX6_comparison_O {h : eg_H} {l0 : Nat} {rE : Int32} {hE : eg_H} (hF : fX6_comparison h l0 = some (rE, hE)) : eg_isO h 6 l0 := (eg_ifn hF).1
set_option maxRecDepth 20000 in
theorem mX6_comparison {h : eg_H} {l0 : Nat} {rE : Int32} {hE : eg_H} (hF : fX6_comparison h l0 = some (rE, hE)) : eg_Met yX6_comparison cX6_comparison 1 (some .int) 2 [.ref l0] h (some (.int rE)) hE := by
  refine eg_enter rfl (Nat.le_of_ble_eq_true rfl) ?_
  show eg_AW (RX6, cX6_comparison, 1, 2, none, "comparison", (some .int)) (eg_Zm (some (.int rE)) hE h) (eg_nc hE) (eg_ns hE) h 0 [(0, .ref l0)] [] h
  replace hF := (eg_ifn hF).2
  refine eg_aload_n (i := 0) 0 dX6_comparison_0 rfl rfl ?_
  replace hF := eg_bind hF; obtain ⟨p1, e2, hF⟩ := hF
  refine eg_getR dX6_comparison_1 e2 (Nat.le_of_ble_eq_true rfl) (Nat.le_of_ble_eq_true rfl) rfl ew_185 ?_
  replace hF := eg_bind hF; obtain ⟨⟨v4, h3⟩, e5, hF⟩ := hF
  refine eg_callV (c := 10) (n := 0) [] dX6_comparison_4 (mX10_sign e5) rfl (fX10_sign_O e5) (Nat.le_of_ble_eq_true rfl) rfl ew_527 ew_469 ew_470 ew_101 ew_471 hy_X10_sign rfl (Nat.le_of_ble_eq_true rfl) (Nat.le_of_ble_eq_true rfl) (Nat.le_of_ble_eq_true rfl) ?_
  by_cases c6 : v4 = (60 : Int32)
  · replace hF := eg_it c6 hF
    refine eg_tIn 35 c6 dX6_comparison_7 (by decide) (by decide) rfl rfl ?_
    refine eg_bipush (v := (-11 : Int32)) dX6_comparison_35 (by decide) ?_
    exact eg_iretE dX6_comparison_37 hF
  replace hF := eg_if c6 hF
  by_cases c7 : v4 = (61 : Int32)
  · replace hF := eg_it c7 hF
    refine eg_tIn 32 c7 dX6_comparison_7 (by decide) (by decide) rfl rfl ?_
    refine eg_bipush (v := (-10 : Int32)) dX6_comparison_32 (by decide) ?_
    exact eg_iretE dX6_comparison_34 hF
  replace hF := eg_if c7 hF
  by_cases c8 : v4 = (62 : Int32)
  · replace hF := eg_it c8 hF
    refine eg_tIn 38 c8 dX6_comparison_7 (by decide) (by decide) rfl rfl ?_
    refine eg_bipush (v := (-12 : Int32)) dX6_comparison_38 (by decide) ?_
    exact eg_iretE dX6_comparison_40 hF
  replace hF := eg_if c8 hF
  refine eg_tOut 41 dX6_comparison_7 (by
    have z0 := lv_neT c6 (show ((60 : Int32)).toInt = 60 from rfl)
    have z1 := lv_neT c7 (show ((61 : Int32)).toInt = 61 from rfl)
    have z2 := lv_neT c8 (show ((62 : Int32)).toInt = 62 from rfl)
    omega) rfl ?_
  refine eg_iconst (v := (0 : Int32)) dX6_comparison_41 (by decide) ?_
  exact eg_iretE dX6_comparison_42 hF
theorem dX10_takes_0 : decode cX10_takes 0 = .ok (.aload_n 0, 1) := by decide +kernel
theorem dX10_takes_1 : decode cX10_takes 1 = .ok (.getfield 22, 3) := by decide +kernel
theorem dX10_takes_4 : decode cX10_takes 4 = .ok (.iload_n 1, 1) := by decide +kernel
theorem dX10_takes_5 : decode cX10_takes 5 = .ok (.if_icmp .eq 5, 3) := by decide +kernel
theorem dX10_takes_8 : decode cX10_takes 8 = .ok (.iconst 0, 1) := by decide +kernel
theorem dX10_takes_9 : decode cX10_takes 9 = .ok (.ireturn, 1) := by decide +kernel
theorem dX10_takes_10 : decode cX10_takes 10 = .ok (.aload_n 0, 1) := by decide +kernel
theorem dX10_takes_11 : decode cX10_takes 11 = .ok (.dup, 1) := by decide +kernel
theorem dX10_takes_12 : decode cX10_takes 12 = .ok (.getfield 19, 3) := by decide +kernel
theorem dX10_takes_15 : decode cX10_takes 15 = .ok (.iconst 1, 1) := by decide +kernel
theorem dX10_takes_16 : decode cX10_takes 16 = .ok (.iadd, 1) := by decide +kernel
theorem dX10_takes_17 : decode cX10_takes 17 = .ok (.putfield 19, 3) := by decide +kernel
theorem dX10_takes_20 : decode cX10_takes 20 = .ok (.aload_n 0, 1) := by decide +kernel
theorem dX10_takes_21 : decode cX10_takes 21 = .ok (.invokevirtual 28, 3) := by decide +kernel
theorem dX10_takes_24 : decode cX10_takes 24 = .ok (.iconst 1, 1) := by decide +kernel
theorem dX10_takes_25 : decode cX10_takes 25 = .ok (.ireturn, 1) := by decide +kernel
def fX10_takes (h : eg_H) (l0 : Nat) (l1 : Int32) : Option (Int32 × eg_H) :=
  if eg_isO h 10 l0 then (
    (eg_gI h 10 3 l0).bind fun v1 =>
    if v1 = l1 then
      ((eg_gI h 10 2 l0).bind fun v4 =>
      (eg_pI h 10 2 l0 (v4 + (1 : Int32))).bind fun h6 =>
      (fX10_settle h6 l0).bind fun h8 =>
      some ((1 : Int32), h8))
    else
      some ((0 : Int32), h)) else none
theorem fX10_takes_O {h : eg_H} {l0 : Nat} {l1 : Int32} {rE : Int32} {hE : eg_H} (hF : fX10_takes h l0 l1 = some (rE, hE)) : eg_isO h 10 l0 := (eg_ifn hF).1
set_option maxRecDepth 20000 in
theorem mX10_takes {h : eg_H} {l0 : Nat} {l1 : Int32} {rE : Int32} {hE : eg_H} (hF : fX10_takes h l0 l1 = some (rE, hE)) : eg_Met yX10_takes cX10_takes 2 (some .boolean) 2 [.ref l0, .int l1] h (some (.int rE)) hE := by
  refine eg_enter rfl (Nat.le_of_ble_eq_true rfl) ?_
  show eg_AW (RX10, cX10_takes, 2, 2, none, "takes", (some .boolean)) (eg_Zm (some (.int rE)) hE h) (eg_nc hE) (eg_ns hE) h 0 [(0, .ref l0), (1, .int l1)] [] h
  replace hF := (eg_ifn hF).2
  refine eg_aload_n (i := 0) 0 dX10_takes_0 rfl rfl ?_
  replace hF := eg_bind hF; obtain ⟨v1, e2, hF⟩ := hF
  refine eg_getI dX10_takes_1 e2 (Nat.le_of_ble_eq_true rfl) (Nat.le_of_ble_eq_true rfl) rfl ew_143 ?_
  refine eg_iload_n (i := 1) 1 dX10_takes_4 rfl rfl ?_
  refine eg_ic_eq 10 dX10_takes_5 rfl (fun c3 => ?_) (fun c3 => ?_)
  · replace hF := eg_it c3 hF
    refine eg_aload_n (i := 0) 0 dX10_takes_10 rfl rfl ?_
    refine eg_dup dX10_takes_11 rfl ?_
    replace hF := eg_bind hF; obtain ⟨v4, e5, hF⟩ := hF
    refine eg_getI dX10_takes_12 e5 (Nat.le_of_ble_eq_true rfl) (Nat.le_of_ble_eq_true rfl) rfl ew_142 ?_
    refine eg_iconst (v := (1 : Int32)) dX10_takes_15 (by decide) ?_
    refine eg_iadd dX10_takes_16 ?_
    replace hF := eg_bind hF; obtain ⟨h6, e7, hF⟩ := hF
    refine eg_putI dX10_takes_17 e7 (Nat.le_of_ble_eq_true rfl) (Nat.le_of_ble_eq_true rfl) rfl ew_142 (Or.inl rfl) ?_
    refine eg_aload_n (i := 0) 0 dX10_takes_20 rfl rfl ?_
    replace hF := eg_bind hF; obtain ⟨h8, e9, hF⟩ := hF
    refine eg_callV (c := 10) (n := 0) [] dX10_takes_21 (mX10_settle e9) rfl (fX10_settle_O e9) (Nat.le_of_ble_eq_true rfl) rfl ew_460 ew_462 ew_2 ew_101 ew_463 hy_X10_settle rfl (Nat.le_of_ble_eq_true rfl) (Nat.le_of_ble_eq_true rfl) (Nat.le_of_ble_eq_true rfl) ?_
    refine eg_iconst (v := (1 : Int32)) dX10_takes_24 (by decide) ?_
    exact eg_zretE dX10_takes_25 (Or.inr rfl) hF
  · replace hF := eg_if c3 hF
    refine eg_iconst (v := (0 : Int32)) dX10_takes_8 (by decide) ?_
    exact eg_zretE dX10_takes_9 (Or.inl rfl) hF
theorem dX6_readTruth_0 : decode cX6_readTruth 0 = .ok (.aload_n 0, 1) := by decide +kernel
theorem dX6_readTruth_1 : decode cX6_readTruth 1 = .ok (.iload_n 1, 1) := by decide +kernel
theorem dX6_readTruth_2 : decode cX6_readTruth 2 = .ok (.iload_n 2, 1) := by decide +kernel
theorem dX6_readTruth_3 : decode cX6_readTruth 3 = .ok (.invokevirtual 70, 3) := by decide +kernel
theorem dX6_readTruth_6 : decode cX6_readTruth 6 = .ok (.iconst 0, 1) := by decide +kernel
theorem dX6_readTruth_7 : decode cX6_readTruth 7 = .ok (.istore_n 3, 1) := by decide +kernel
theorem dX6_readTruth_8 : decode cX6_readTruth 8 = .ok (.iload_n 3, 1) := by decide +kernel
theorem dX6_readTruth_9 : decode cX6_readTruth 9 = .ok (.sipush 160, 3) := by decide +kernel
theorem dX6_readTruth_12 : decode cX6_readTruth 12 = .ok (.if_icmp .ge 33, 3) := by decide +kernel
theorem dX6_readTruth_15 : decode cX6_readTruth 15 = .ok (.aload_n 0, 1) := by decide +kernel
theorem dX6_readTruth_16 : decode cX6_readTruth 16 = .ok (.getfield 19, 3) := by decide +kernel
theorem dX6_readTruth_19 : decode cX6_readTruth 19 = .ok (.bipush 38, 2) := by decide +kernel
theorem dX6_readTruth_21 : decode cX6_readTruth 21 = .ok (.invokevirtual 31, 3) := by decide +kernel
theorem dX6_readTruth_24 : decode cX6_readTruth 24 = .ok (.ifCond .eq 21, 3) := by decide +kernel
theorem dX6_readTruth_27 : decode cX6_readTruth 27 = .ok (.aload_n 0, 1) := by decide +kernel
theorem dX6_readTruth_28 : decode cX6_readTruth 28 = .ok (.iload_n 1, 1) := by decide +kernel
theorem dX6_readTruth_29 : decode cX6_readTruth 29 = .ok (.iconst 0, 1) := by decide +kernel
theorem dX6_readTruth_30 : decode cX6_readTruth 30 = .ok (.invokevirtual 70, 3) := by decide +kernel
theorem dX6_readTruth_33 : decode cX6_readTruth 33 = .ok (.aload_n 0, 1) := by decide +kernel
theorem dX6_readTruth_34 : decode cX6_readTruth 34 = .ok (.bipush (-13), 2) := by decide +kernel
theorem dX6_readTruth_36 : decode cX6_readTruth 36 = .ok (.invokevirtual 64, 3) := by decide +kernel
theorem dX6_readTruth_39 : decode cX6_readTruth 39 = .ok (.iinc 3 1, 3) := by decide +kernel
theorem dX6_readTruth_42 : decode cX6_readTruth 42 = .ok (.goto (-34), 3) := by decide +kernel
theorem dX6_readTruth_45 : decode cX6_readTruth 45 = .ok (.return_, 1) := by decide +kernel
def fX6_readTruth_L8 (rc : eg_H → Nat → Int32 → Int32 → Option (eg_H)) : Nat → eg_H → Nat → Int32 → Int32 → Option (eg_H)
  | 0, _, _, _, _ => none
  | n + 1, h, l0, l1, l3 =>
    if (160 : Int32) ≤ l3 then
      (some h)
    else
      (eg_gR h 6 0 l0).bind fun p2 =>
      (fX10_takes h p2 (38 : Int32)).bind fun ⟨v5, h4⟩ =>
      if v5 = 0 then
        (some h4)
      else
        if eg_isO h4 6 l0 then (
        (rc h4 l0 l1 (0 : Int32)).bind fun h8 =>
        (fX6_emit h8 l0 (-13 : Int32)).bind fun h11 =>
        fX6_readTruth_L8 rc n h11 l0 l1 (l3 + (1 : Int32))) else none
set_option maxRecDepth 20000 in
theorem fX6_readTruth_L8_ok {rc : eg_H → Nat → Int32 → Int32 → Option (eg_H)} {dr : Nat} (hdr : 194 ≤ dr) (hrc : ∀ (h : eg_H) (a0 : Nat) (a1 : Int32) (a2 : Int32) (hE : eg_H), rc h a0 a1 a2 = some hE → eg_Met yX6_readUnit cX6_readUnit 5 none dr [.ref a0, .int a1, .int a2] h none hE) {h0 : eg_H} {Z : eg_C → State → Prop} {N S : Nat} : ∀ (n : Nat) (h : eg_H) (l0 : Nat) (l1 : Int32) (l3 : Int32) (eE : eg_H), fX6_readTruth_L8 rc n h l0 l1 l3 = some eE → (hk0 : ∀  (h : eg_H), eE = h → eg_AW (RX6, cX6_readTruth, 4, dr + 1, none, "readTruth", none) Z N S h0 45 [] [] h) → eg_AW (RX6, cX6_readTruth, 4, dr + 1, none, "readTruth", none) Z N S h0 8 [(0, .ref l0), (1, .int l1), (3, .int l3)] [] h := by
  intro n
  induction n with
  | zero => intro h l0 l1 l3 eE hF; exact absurd hF (by intro q; cases q)
  | succ n ih =>
    intro h l0 l1 l3 eE hF hk0
    have hrec := fun (h' : eg_H) (l0 : Nat) (l1 : Int32) (l3 : Int32) hq => ih h' l0 l1 l3 eE hq hk0
    refine eg_iload_n (i := 3) 2 dX6_readTruth_8 rfl rfl ?_
    refine eg_sipush (v := (160 : Int32)) dX6_readTruth_9 (by decide) ?_
    refine eg_ic_ge 45 dX6_readTruth_12 rfl (fun c1 => ?_) (fun c1 => ?_)
    · replace hF := eg_it c1 hF
      exact eg_sub [] [] rfl (hk0 h (Option.some.inj hF).symm)
    · replace hF := eg_if c1 hF
      refine eg_aload_n (i := 0) 0 dX6_readTruth_15 rfl rfl ?_
      replace hF := eg_bind hF; obtain ⟨p2, e3, hF⟩ := hF
      refine eg_getR dX6_readTruth_16 e3 (Nat.le_of_ble_eq_true rfl) (Nat.le_of_ble_eq_true rfl) rfl ew_185 ?_
      refine eg_bipush (v := (38 : Int32)) dX6_readTruth_19 (by decide) ?_
      replace hF := eg_bind hF; obtain ⟨⟨v5, h4⟩, e6, hF⟩ := hF
      refine eg_callV (c := 10) (n := 1) [.int (38 : Int32)] dX6_readTruth_21 (mX10_takes e6) rfl (fX10_takes_O e6) (Nat.le_of_ble_eq_true rfl) rfl ew_576 ew_507 ew_508 ew_101 ew_509 hy_X10_takes rfl (by have := eg_D_eq; omega) (Nat.le_of_ble_eq_true rfl) (Nat.le_of_ble_eq_true rfl) ?_
      refine eg_if_eq 45 dX6_readTruth_24 rfl (fun c7 => ?_) (fun c7 => ?_)
      · replace hF := eg_it c7 hF
        exact eg_sub [] [] rfl (hk0 h4 (Option.some.inj hF).symm)
      · replace hF := eg_if c7 hF
        refine eg_aload_n (i := 0) 0 dX6_readTruth_27 rfl rfl ?_
        refine eg_iload_n (i := 1) 1 dX6_readTruth_28 rfl rfl ?_
        refine eg_iconst (v := (0 : Int32)) dX6_readTruth_29 (by decide) ?_
        replace hF := eg_ifn hF; obtain ⟨c10, hF⟩ := hF
        replace hF := eg_bind hF; obtain ⟨h8, e9, hF⟩ := hF
        refine eg_callV (c := 6) (n := 2) [.int l1, .int (0 : Int32)] dX6_readTruth_30 (hrc _ _ _ _ _ e9) rfl c10 (Nat.le_of_ble_eq_true rfl) rfl ew_568 ew_570 ew_16 ew_103 ew_571 hy_X6_readUnit rfl (by have := eg_D_eq; omega) (Nat.le_of_ble_eq_true rfl) (Nat.le_of_ble_eq_true rfl) ?_
        refine eg_aload_n (i := 0) 0 dX6_readTruth_33 rfl rfl ?_
        refine eg_bipush (v := (-13 : Int32)) dX6_readTruth_34 (by decide) ?_
        replace hF := eg_bind hF; obtain ⟨h11, e12, hF⟩ := hF
        refine eg_callV (c := 6) (n := 1) [.int (-13 : Int32)] dX6_readTruth_36 (mX6_emit e12) rfl (fX6_emit_O e12) (Nat.le_of_ble_eq_true rfl) rfl ew_546 ew_548 ew_11 ew_103 ew_549 hy_X6_emit rfl (by have := eg_D_eq; omega) (Nat.le_of_ble_eq_true rfl) (Nat.le_of_ble_eq_true rfl) ?_
        refine eg_iinc (i := 3) (v := (l3 + (1 : Int32))) 2 [(3, .int (l3 + (1 : Int32))), (0, .ref l0), (1, .int l1)] dX6_readTruth_39 rfl rfl (Nat.le_of_ble_eq_true rfl) rfl ?_
        refine eg_goto 8 dX6_readTruth_42 rfl ?_
        exact eg_sub [1, 2, 0] [(0, .ref l0), (1, .int l1), (3, .int (l3 + (1 : Int32)))] rfl (hrec h11 l0 l1 (l3 + (1 : Int32)) hF)
def fX6_readTruth (rc : eg_H → Nat → Int32 → Int32 → Option (eg_H)) (h : eg_H) (l0 : Nat) (l1 : Int32) (l2 : Int32) : Option (eg_H) :=
  if eg_isO h 6 l0 then (
    if eg_isO h 6 l0 then (
    (rc h l0 l1 l2).bind fun h1 =>
    (fX6_readTruth_L8 rc eg_F h1 l0 l1 (0 : Int32)).bind fun e =>
    match e with
    | h6 =>
      some h6) else none) else none
theorem fX6_readTruth_O {rc : eg_H → Nat → Int32 → Int32 → Option (eg_H)} {h : eg_H} {l0 : Nat} {l1 : Int32} {l2 : Int32} {hE : eg_H} (hF : fX6_readTruth rc h l0 l1 l2 = some hE) : eg_isO h 6 l0 := (eg_ifn hF).1
set_option maxRecDepth 20000 in
theorem mX6_readTruth {rc : eg_H → Nat → Int32 → Int32 → Option (eg_H)} {dr : Nat} (hdr : 194 ≤ dr) (hrc : ∀ (h : eg_H) (a0 : Nat) (a1 : Int32) (a2 : Int32) (hE : eg_H), rc h a0 a1 a2 = some hE → eg_Met yX6_readUnit cX6_readUnit 5 none dr [.ref a0, .int a1, .int a2] h none hE) {h : eg_H} {l0 : Nat} {l1 : Int32} {l2 : Int32} {hE : eg_H} (hF : fX6_readTruth rc h l0 l1 l2 = some hE) : eg_Met yX6_readTruth cX6_readTruth 4 none (dr + 1) [.ref l0, .int l1, .int l2] h none hE := by
  refine eg_enter rfl (Nat.le_of_ble_eq_true rfl) ?_
  show eg_AW (RX6, cX6_readTruth, 4, dr + 1, none, "readTruth", none) (eg_Zm none hE h) (eg_nc hE) (eg_ns hE) h 0 [(0, .ref l0), (1, .int l1), (2, .int l2)] [] h
  replace hF := (eg_ifn hF).2
  refine eg_aload_n (i := 0) 0 dX6_readTruth_0 rfl rfl ?_
  refine eg_iload_n (i := 1) 1 dX6_readTruth_1 rfl rfl ?_
  refine eg_iload_n (i := 2) 2 dX6_readTruth_2 rfl rfl ?_
  replace hF := eg_ifn hF; obtain ⟨c3, hF⟩ := hF
  replace hF := eg_bind hF; obtain ⟨h1, e2, hF⟩ := hF
  refine eg_callV (c := 6) (n := 2) [.int l1, .int l2] dX6_readTruth_3 (hrc _ _ _ _ _ e2) rfl c3 (Nat.le_of_ble_eq_true rfl) rfl ew_568 ew_570 ew_16 ew_103 ew_571 hy_X6_readUnit rfl (by have := eg_D_eq; omega) (Nat.le_of_ble_eq_true rfl) (Nat.le_of_ble_eq_true rfl) ?_
  refine eg_iconst (v := (0 : Int32)) dX6_readTruth_6 (by decide) ?_
  refine eg_istore_n (i := 3) [(3, .int (0 : Int32)), (0, .ref l0), (1, .int l1), (2, .int l2)] dX6_readTruth_7 rfl (Nat.le_of_ble_eq_true rfl) rfl ?_
  replace hF := eg_bind hF; obtain ⟨x5, e4, hF⟩ := hF
  refine eg_sub [1, 2, 0] [(0, .ref l0), (1, .int l1), (3, .int (0 : Int32))] rfl (fX6_readTruth_L8_ok hdr hrc eg_F h1 l0 l1 (0 : Int32) x5 e4 ?_)
  · intro h6 e7
    subst e7
    exact eg_vretE dX6_readTruth_45 hF
theorem dX6_readCondition_0 : decode cX6_readCondition 0 = .ok (.aload_n 0, 1) := by decide +kernel
theorem dX6_readCondition_1 : decode cX6_readCondition 1 = .ok (.iload_n 1, 1) := by decide +kernel
theorem dX6_readCondition_2 : decode cX6_readCondition 2 = .ok (.iload_n 2, 1) := by decide +kernel
theorem dX6_readCondition_3 : decode cX6_readCondition 3 = .ok (.invokevirtual 67, 3) := by decide +kernel
theorem dX6_readCondition_6 : decode cX6_readCondition 6 = .ok (.iconst 0, 1) := by decide +kernel
theorem dX6_readCondition_7 : decode cX6_readCondition 7 = .ok (.istore_n 3, 1) := by decide +kernel
theorem dX6_readCondition_8 : decode cX6_readCondition 8 = .ok (.iload_n 3, 1) := by decide +kernel
theorem dX6_readCondition_9 : decode cX6_readCondition 9 = .ok (.sipush 160, 3) := by decide +kernel
theorem dX6_readCondition_12 : decode cX6_readCondition 12 = .ok (.if_icmp .ge 33, 3) := by decide +kernel
theorem dX6_readCondition_15 : decode cX6_readCondition 15 = .ok (.aload_n 0, 1) := by decide +kernel
theorem dX6_readCondition_16 : decode cX6_readCondition 16 = .ok (.getfield 19, 3) := by decide +kernel
theorem dX6_readCondition_19 : decode cX6_readCondition 19 = .ok (.bipush 124, 2) := by decide +kernel
theorem dX6_readCondition_21 : decode cX6_readCondition 21 = .ok (.invokevirtual 31, 3) := by decide +kernel
theorem dX6_readCondition_24 : decode cX6_readCondition 24 = .ok (.ifCond .eq 21, 3) := by decide +kernel
theorem dX6_readCondition_27 : decode cX6_readCondition 27 = .ok (.aload_n 0, 1) := by decide +kernel
theorem dX6_readCondition_28 : decode cX6_readCondition 28 = .ok (.iload_n 1, 1) := by decide +kernel
theorem dX6_readCondition_29 : decode cX6_readCondition 29 = .ok (.iconst 0, 1) := by decide +kernel
theorem dX6_readCondition_30 : decode cX6_readCondition 30 = .ok (.invokevirtual 67, 3) := by decide +kernel
theorem dX6_readCondition_33 : decode cX6_readCondition 33 = .ok (.aload_n 0, 1) := by decide +kernel
theorem dX6_readCondition_34 : decode cX6_readCondition 34 = .ok (.bipush (-14), 2) := by decide +kernel
theorem dX6_readCondition_36 : decode cX6_readCondition 36 = .ok (.invokevirtual 64, 3) := by decide +kernel
theorem dX6_readCondition_39 : decode cX6_readCondition 39 = .ok (.iinc 3 1, 3) := by decide +kernel
theorem dX6_readCondition_42 : decode cX6_readCondition 42 = .ok (.goto (-34), 3) := by decide +kernel
theorem dX6_readCondition_45 : decode cX6_readCondition 45 = .ok (.return_, 1) := by decide +kernel
def fX6_readCondition_L8 (rc : eg_H → Nat → Int32 → Int32 → Option (eg_H)) : Nat → eg_H → Nat → Int32 → Int32 → Option (eg_H)
  | 0, _, _, _, _ => none
  | n + 1, h, l0, l1, l3 =>
    if (160 : Int32) ≤ l3 then
      (some h)
    else
      (eg_gR h 6 0 l0).bind fun p2 =>
      (fX10_takes h p2 (124 : Int32)).bind fun ⟨v5, h4⟩ =>
      if v5 = 0 then
        (some h4)
      else
        (fX6_readTruth rc h4 l0 l1 (0 : Int32)).bind fun h8 =>
        (fX6_emit h8 l0 (-14 : Int32)).bind fun h10 =>
        fX6_readCondition_L8 rc n h10 l0 l1 (l3 + (1 : Int32))
set_option maxRecDepth 20000 in
theorem fX6_readCondition_L8_ok {rc : eg_H → Nat → Int32 → Int32 → Option (eg_H)} {dr : Nat} (hdr : 194 ≤ dr) (hrc : ∀ (h : eg_H) (a0 : Nat) (a1 : Int32) (a2 : Int32) (hE : eg_H), rc h a0 a1 a2 = some hE → eg_Met yX6_readUnit cX6_readUnit 5 none dr [.ref a0, .int a1, .int a2] h none hE) {h0 : eg_H} {Z : eg_C → State → Prop} {N S : Nat} : ∀ (n : Nat) (h : eg_H) (l0 : Nat) (l1 : Int32) (l3 : Int32) (eE : eg_H), fX6_readCondition_L8 rc n h l0 l1 l3 = some eE → (hk0 : ∀  (h : eg_H), eE = h → eg_AW (RX6, cX6_readCondition, 4, dr + 2, none, "readCondition", none) Z N S h0 45 [] [] h) → eg_AW (RX6, cX6_readCondition, 4, dr + 2, none, "readCondition", none) Z N S h0 8 [(0, .ref l0), (1, .int l1), (3, .int l3)] [] h := by
  intro n
  induction n with
  | zero => intro h l0 l1 l3 eE hF; exact absurd hF (by intro q; cases q)
  | succ n ih =>
    intro h l0 l1 l3 eE hF hk0
    have hrec := fun (h' : eg_H) (l0 : Nat) (l1 : Int32) (l3 : Int32) hq => ih h' l0 l1 l3 eE hq hk0
    refine eg_iload_n (i := 3) 2 dX6_readCondition_8 rfl rfl ?_
    refine eg_sipush (v := (160 : Int32)) dX6_readCondition_9 (by decide) ?_
    refine eg_ic_ge 45 dX6_readCondition_12 rfl (fun c1 => ?_) (fun c1 => ?_)
    · replace hF := eg_it c1 hF
      exact eg_sub [] [] rfl (hk0 h (Option.some.inj hF).symm)
    · replace hF := eg_if c1 hF
      refine eg_aload_n (i := 0) 0 dX6_readCondition_15 rfl rfl ?_
      replace hF := eg_bind hF; obtain ⟨p2, e3, hF⟩ := hF
      refine eg_getR dX6_readCondition_16 e3 (Nat.le_of_ble_eq_true rfl) (Nat.le_of_ble_eq_true rfl) rfl ew_185 ?_
      refine eg_bipush (v := (124 : Int32)) dX6_readCondition_19 (by decide) ?_
      replace hF := eg_bind hF; obtain ⟨⟨v5, h4⟩, e6, hF⟩ := hF
      refine eg_callV (c := 10) (n := 1) [.int (124 : Int32)] dX6_readCondition_21 (mX10_takes e6) rfl (fX10_takes_O e6) (Nat.le_of_ble_eq_true rfl) rfl ew_576 ew_507 ew_508 ew_101 ew_509 hy_X10_takes rfl (by have := eg_D_eq; omega) (Nat.le_of_ble_eq_true rfl) (Nat.le_of_ble_eq_true rfl) ?_
      refine eg_if_eq 45 dX6_readCondition_24 rfl (fun c7 => ?_) (fun c7 => ?_)
      · replace hF := eg_it c7 hF
        exact eg_sub [] [] rfl (hk0 h4 (Option.some.inj hF).symm)
      · replace hF := eg_if c7 hF
        refine eg_aload_n (i := 0) 0 dX6_readCondition_27 rfl rfl ?_
        refine eg_iload_n (i := 1) 1 dX6_readCondition_28 rfl rfl ?_
        refine eg_iconst (v := (0 : Int32)) dX6_readCondition_29 (by decide) ?_
        replace hF := eg_bind hF; obtain ⟨h8, e9, hF⟩ := hF
        refine eg_callV (c := 6) (n := 2) [.int l1, .int (0 : Int32)] dX6_readCondition_30 (mX6_readTruth hdr hrc e9) rfl (fX6_readTruth_O e9) (Nat.le_of_ble_eq_true rfl) rfl ew_564 ew_566 ew_15 ew_103 ew_567 hy_X6_readTruth rfl (by have := eg_D_eq; omega) (Nat.le_of_ble_eq_true rfl) (Nat.le_of_ble_eq_true rfl) ?_
        refine eg_aload_n (i := 0) 0 dX6_readCondition_33 rfl rfl ?_
        refine eg_bipush (v := (-14 : Int32)) dX6_readCondition_34 (by decide) ?_
        replace hF := eg_bind hF; obtain ⟨h10, e11, hF⟩ := hF
        refine eg_callV (c := 6) (n := 1) [.int (-14 : Int32)] dX6_readCondition_36 (mX6_emit e11) rfl (fX6_emit_O e11) (Nat.le_of_ble_eq_true rfl) rfl ew_546 ew_548 ew_11 ew_103 ew_549 hy_X6_emit rfl (by have := eg_D_eq; omega) (Nat.le_of_ble_eq_true rfl) (Nat.le_of_ble_eq_true rfl) ?_
        refine eg_iinc (i := 3) (v := (l3 + (1 : Int32))) 2 [(3, .int (l3 + (1 : Int32))), (0, .ref l0), (1, .int l1)] dX6_readCondition_39 rfl rfl (Nat.le_of_ble_eq_true rfl) rfl ?_
        refine eg_goto 8 dX6_readCondition_42 rfl ?_
        exact eg_sub [1, 2, 0] [(0, .ref l0), (1, .int l1), (3, .int (l3 + (1 : Int32)))] rfl (hrec h10 l0 l1 (l3 + (1 : Int32)) hF)
def fX6_readCondition (rc : eg_H → Nat → Int32 → Int32 → Option (eg_H)) (h : eg_H) (l0 : Nat) (l1 : Int32) (l2 : Int32) : Option (eg_H) :=
  if eg_isO h 6 l0 then (
    (fX6_readTruth rc h l0 l1 l2).bind fun h1 =>
    (fX6_readCondition_L8 rc eg_F h1 l0 l1 (0 : Int32)).bind fun e =>
    match e with
    | h5 =>
      some h5) else none
theorem fX6_readCondition_O {rc : eg_H → Nat → Int32 → Int32 → Option (eg_H)} {h : eg_H} {l0 : Nat} {l1 : Int32} {l2 : Int32} {hE : eg_H} (hF : fX6_readCondition rc h l0 l1 l2 = some hE) : eg_isO h 6 l0 := (eg_ifn hF).1
set_option maxRecDepth 20000 in
theorem mX6_readCondition {rc : eg_H → Nat → Int32 → Int32 → Option (eg_H)} {dr : Nat} (hdr : 194 ≤ dr) (hrc : ∀ (h : eg_H) (a0 : Nat) (a1 : Int32) (a2 : Int32) (hE : eg_H), rc h a0 a1 a2 = some hE → eg_Met yX6_readUnit cX6_readUnit 5 none dr [.ref a0, .int a1, .int a2] h none hE) {h : eg_H} {l0 : Nat} {l1 : Int32} {l2 : Int32} {hE : eg_H} (hF : fX6_readCondition rc h l0 l1 l2 = some hE) : eg_Met yX6_readCondition cX6_readCondition 4 none (dr + 2) [.ref l0, .int l1, .int l2] h none hE := by
  refine eg_enter rfl (Nat.le_of_ble_eq_true rfl) ?_
  show eg_AW (RX6, cX6_readCondition, 4, dr + 2, none, "readCondition", none) (eg_Zm none hE h) (eg_nc hE) (eg_ns hE) h 0 [(0, .ref l0), (1, .int l1), (2, .int l2)] [] h
  replace hF := (eg_ifn hF).2
  refine eg_aload_n (i := 0) 0 dX6_readCondition_0 rfl rfl ?_
  refine eg_iload_n (i := 1) 1 dX6_readCondition_1 rfl rfl ?_
  refine eg_iload_n (i := 2) 2 dX6_readCondition_2 rfl rfl ?_
  replace hF := eg_bind hF; obtain ⟨h1, e2, hF⟩ := hF
  refine eg_callV (c := 6) (n := 2) [.int l1, .int l2] dX6_readCondition_3 (mX6_readTruth hdr hrc e2) rfl (fX6_readTruth_O e2) (Nat.le_of_ble_eq_true rfl) rfl ew_564 ew_566 ew_15 ew_103 ew_567 hy_X6_readTruth rfl (by have := eg_D_eq; omega) (Nat.le_of_ble_eq_true rfl) (Nat.le_of_ble_eq_true rfl) ?_
  refine eg_iconst (v := (0 : Int32)) dX6_readCondition_6 (by decide) ?_
  refine eg_istore_n (i := 3) [(3, .int (0 : Int32)), (0, .ref l0), (1, .int l1), (2, .int l2)] dX6_readCondition_7 rfl (Nat.le_of_ble_eq_true rfl) rfl ?_
  replace hF := eg_bind hF; obtain ⟨x4, e3, hF⟩ := hF
  refine eg_sub [1, 2, 0] [(0, .ref l0), (1, .int l1), (3, .int (0 : Int32))] rfl (fX6_readCondition_L8_ok hdr hrc eg_F h1 l0 l1 (0 : Int32) x4 e3 ?_)
  · intro h5 e6
    subst e6
    exact eg_vretE dX6_readCondition_45 hF
theorem dX6_readNested_0 : decode cX6_readNested 0 = .ok (.iload_n 1, 1) := by decide +kernel
theorem dX6_readNested_1 : decode cX6_readNested 1 = .ok (.bipush 6, 2) := by decide +kernel
theorem dX6_readNested_3 : decode cX6_readNested 3 = .ok (.if_icmp .lt 11, 3) := by decide +kernel
theorem dX6_readNested_6 : decode cX6_readNested 6 = .ok (.aload_n 0, 1) := by decide +kernel
theorem dX6_readNested_7 : decode cX6_readNested 7 = .ok (.getfield 19, 3) := by decide +kernel
theorem dX6_readNested_10 : decode cX6_readNested 10 = .ok (.invokevirtual 39, 3) := by decide +kernel
theorem dX6_readNested_13 : decode cX6_readNested 13 = .ok (.return_, 1) := by decide +kernel
theorem dX6_readNested_14 : decode cX6_readNested 14 = .ok (.aload_n 0, 1) := by decide +kernel
theorem dX6_readNested_15 : decode cX6_readNested 15 = .ok (.getfield 19, 3) := by decide +kernel
theorem dX6_readNested_18 : decode cX6_readNested 18 = .ok (.invokevirtual 77, 3) := by decide +kernel
theorem dX6_readNested_21 : decode cX6_readNested 21 = .ok (.iload_n 2, 1) := by decide +kernel
theorem dX6_readNested_22 : decode cX6_readNested 22 = .ok (.bipush 33, 2) := by decide +kernel
theorem dX6_readNested_24 : decode cX6_readNested 24 = .ok (.if_icmp .ne 20, 3) := by decide +kernel
theorem dX6_readNested_27 : decode cX6_readNested 27 = .ok (.aload_n 0, 1) := by decide +kernel
theorem dX6_readNested_28 : decode cX6_readNested 28 = .ok (.iload_n 1, 1) := by decide +kernel
theorem dX6_readNested_29 : decode cX6_readNested 29 = .ok (.iconst 1, 1) := by decide +kernel
theorem dX6_readNested_30 : decode cX6_readNested 30 = .ok (.iadd, 1) := by decide +kernel
theorem dX6_readNested_31 : decode cX6_readNested 31 = .ok (.iconst 0, 1) := by decide +kernel
theorem dX6_readNested_32 : decode cX6_readNested 32 = .ok (.invokevirtual 70, 3) := by decide +kernel
theorem dX6_readNested_35 : decode cX6_readNested 35 = .ok (.aload_n 0, 1) := by decide +kernel
theorem dX6_readNested_36 : decode cX6_readNested 36 = .ok (.bipush (-15), 2) := by decide +kernel
theorem dX6_readNested_38 : decode cX6_readNested 38 = .ok (.invokevirtual 64, 3) := by decide +kernel
theorem dX6_readNested_41 : decode cX6_readNested 41 = .ok (.goto 20, 3) := by decide +kernel
theorem dX6_readNested_44 : decode cX6_readNested 44 = .ok (.aload_n 0, 1) := by decide +kernel
theorem dX6_readNested_45 : decode cX6_readNested 45 = .ok (.iload_n 1, 1) := by decide +kernel
theorem dX6_readNested_46 : decode cX6_readNested 46 = .ok (.iconst 1, 1) := by decide +kernel
theorem dX6_readNested_47 : decode cX6_readNested 47 = .ok (.iadd, 1) := by decide +kernel
theorem dX6_readNested_48 : decode cX6_readNested 48 = .ok (.iconst 0, 1) := by decide +kernel
theorem dX6_readNested_49 : decode cX6_readNested 49 = .ok (.invokevirtual 60, 3) := by decide +kernel
theorem dX6_readNested_52 : decode cX6_readNested 52 = .ok (.aload_n 0, 1) := by decide +kernel
theorem dX6_readNested_53 : decode cX6_readNested 53 = .ok (.getfield 19, 3) := by decide +kernel
theorem dX6_readNested_56 : decode cX6_readNested 56 = .ok (.bipush 41, 2) := by decide +kernel
theorem dX6_readNested_58 : decode cX6_readNested 58 = .ok (.invokevirtual 50, 3) := by decide +kernel
theorem dX6_readNested_61 : decode cX6_readNested 61 = .ok (.return_, 1) := by decide +kernel
def fX6_readNested (rc : eg_H → Nat → Int32 → Int32 → Option (eg_H)) (h : eg_H) (l0 : Nat) (l1 : Int32) (l2 : Int32) : Option (eg_H) :=
  if eg_isO h 6 l0 then (
    if l1 < (6 : Int32) then
      ((eg_gR h 6 0 l0).bind fun p2 =>
      (fX10_step h p2).bind fun h4 =>
      if l2 = (33 : Int32) then
        (if eg_isO h4 6 l0 then (
        (rc h4 l0 (l1 + (1 : Int32)) (0 : Int32)).bind fun h7 =>
        (fX6_emit h7 l0 (-15 : Int32)).bind fun h10 =>
        some h10) else none)
      else
        (fX6_readCondition rc h4 l0 (l1 + (1 : Int32)) (0 : Int32)).bind fun h12 =>
        (eg_gR h12 6 0 l0).bind fun p14 =>
        (fX10_need h12 p14 (41 : Int32)).bind fun h16 =>
        some h16)
    else
      (eg_gR h 6 0 l0).bind fun p18 =>
      (fX10_markWrongHere h p18).bind fun h20 =>
      some h20) else none
theorem fX6_readNested_O {rc : eg_H → Nat → Int32 → Int32 → Option (eg_H)} {h : eg_H} {l0 : Nat} {l1 : Int32} {l2 : Int32} {hE : eg_H} (hF : fX6_readNested rc h l0 l1 l2 = some hE) : eg_isO h 6 l0 := (eg_ifn hF).1
set_option maxRecDepth 20000 in
theorem mX6_readNested {rc : eg_H → Nat → Int32 → Int32 → Option (eg_H)} {dr : Nat} (hdr : 194 ≤ dr) (hrc : ∀ (h : eg_H) (a0 : Nat) (a1 : Int32) (a2 : Int32) (hE : eg_H), rc h a0 a1 a2 = some hE → eg_Met yX6_readUnit cX6_readUnit 5 none dr [.ref a0, .int a1, .int a2] h none hE) {h : eg_H} {l0 : Nat} {l1 : Int32} {l2 : Int32} {hE : eg_H} (hF : fX6_readNested rc h l0 l1 l2 = some hE) : eg_Met yX6_readNested cX6_readNested 3 none (dr + 3) [.ref l0, .int l1, .int l2] h none hE := by
  refine eg_enter rfl (Nat.le_of_ble_eq_true rfl) ?_
  show eg_AW (RX6, cX6_readNested, 3, dr + 3, none, "readNested", none) (eg_Zm none hE h) (eg_nc hE) (eg_ns hE) h 0 [(0, .ref l0), (1, .int l1), (2, .int l2)] [] h
  replace hF := (eg_ifn hF).2
  refine eg_iload_n (i := 1) 1 dX6_readNested_0 rfl rfl ?_
  refine eg_bipush (v := (6 : Int32)) dX6_readNested_1 (by decide) ?_
  refine eg_ic_lt 14 dX6_readNested_3 rfl (fun c1 => ?_) (fun c1 => ?_)
  · replace hF := eg_it c1 hF
    refine eg_aload_n (i := 0) 0 dX6_readNested_14 rfl rfl ?_
    replace hF := eg_bind hF; obtain ⟨p2, e3, hF⟩ := hF
    refine eg_getR dX6_readNested_15 e3 (Nat.le_of_ble_eq_true rfl) (Nat.le_of_ble_eq_true rfl) rfl ew_185 ?_
    replace hF := eg_bind hF; obtain ⟨h4, e5, hF⟩ := hF
    refine eg_callV (c := 10) (n := 0) [] dX6_readNested_18 (mX10_step e5) rfl (fX10_step_O e5) (Nat.le_of_ble_eq_true rfl) rfl ew_554 ew_477 ew_478 ew_101 ew_479 hy_X10_step rfl (by have := eg_D_eq; omega) (Nat.le_of_ble_eq_true rfl) (Nat.le_of_ble_eq_true rfl) ?_
    refine eg_iload_n (i := 2) 2 dX6_readNested_21 rfl rfl ?_
    refine eg_bipush (v := (33 : Int32)) dX6_readNested_22 (by decide) ?_
    refine eg_ic_ne 44 dX6_readNested_24 rfl (fun c6 => ?_) (fun c6 => ?_)
    · replace hF := eg_it c6 hF
      refine eg_aload_n (i := 0) 0 dX6_readNested_27 rfl rfl ?_
      refine eg_iload_n (i := 1) 1 dX6_readNested_28 rfl rfl ?_
      refine eg_iconst (v := (1 : Int32)) dX6_readNested_29 (by decide) ?_
      refine eg_iadd dX6_readNested_30 ?_
      refine eg_iconst (v := (0 : Int32)) dX6_readNested_31 (by decide) ?_
      replace hF := eg_ifn hF; obtain ⟨c9, hF⟩ := hF
      replace hF := eg_bind hF; obtain ⟨h7, e8, hF⟩ := hF
      refine eg_callV (c := 6) (n := 2) [.int (l1 + (1 : Int32)), .int (0 : Int32)] dX6_readNested_32 (hrc _ _ _ _ _ e8) rfl c9 (Nat.le_of_ble_eq_true rfl) rfl ew_568 ew_570 ew_16 ew_103 ew_571 hy_X6_readUnit rfl (by have := eg_D_eq; omega) (Nat.le_of_ble_eq_true rfl) (Nat.le_of_ble_eq_true rfl) ?_
      refine eg_aload_n (i := 0) 0 dX6_readNested_35 rfl rfl ?_
      refine eg_bipush (v := (-15 : Int32)) dX6_readNested_36 (by decide) ?_
      replace hF := eg_bind hF; obtain ⟨h10, e11, hF⟩ := hF
      refine eg_callV (c := 6) (n := 1) [.int (-15 : Int32)] dX6_readNested_38 (mX6_emit e11) rfl (fX6_emit_O e11) (Nat.le_of_ble_eq_true rfl) rfl ew_546 ew_548 ew_11 ew_103 ew_549 hy_X6_emit rfl (by have := eg_D_eq; omega) (Nat.le_of_ble_eq_true rfl) (Nat.le_of_ble_eq_true rfl) ?_
      refine eg_goto 61 dX6_readNested_41 rfl ?_
      exact eg_vretE dX6_readNested_61 hF
    · replace hF := eg_if c6 hF
      refine eg_aload_n (i := 0) 0 dX6_readNested_44 rfl rfl ?_
      refine eg_iload_n (i := 1) 1 dX6_readNested_45 rfl rfl ?_
      refine eg_iconst (v := (1 : Int32)) dX6_readNested_46 (by decide) ?_
      refine eg_iadd dX6_readNested_47 ?_
      refine eg_iconst (v := (0 : Int32)) dX6_readNested_48 (by decide) ?_
      replace hF := eg_bind hF; obtain ⟨h12, e13, hF⟩ := hF
      refine eg_callV (c := 6) (n := 2) [.int (l1 + (1 : Int32)), .int (0 : Int32)] dX6_readNested_49 (mX6_readCondition hdr hrc e13) rfl (fX6_readCondition_O e13) (Nat.le_of_ble_eq_true rfl) rfl ew_560 ew_562 ew_14 ew_103 ew_563 hy_X6_readCondition rfl (by have := eg_D_eq; omega) (Nat.le_of_ble_eq_true rfl) (Nat.le_of_ble_eq_true rfl) ?_
      refine eg_aload_n (i := 0) 0 dX6_readNested_52 rfl rfl ?_
      replace hF := eg_bind hF; obtain ⟨p14, e15, hF⟩ := hF
      refine eg_getR dX6_readNested_53 e15 (Nat.le_of_ble_eq_true rfl) (Nat.le_of_ble_eq_true rfl) rfl ew_185 ?_
      refine eg_bipush (v := (41 : Int32)) dX6_readNested_56 (by decide) ?_
      replace hF := eg_bind hF; obtain ⟨h16, e17, hF⟩ := hF
      refine eg_callV (c := 10) (n := 1) [.int (41 : Int32)] dX6_readNested_58 (mX10_need e17) rfl (fX10_need_O e17) (Nat.le_of_ble_eq_true rfl) rfl ew_523 ew_524 ew_525 ew_101 ew_526 hy_X10_need rfl (by have := eg_D_eq; omega) (Nat.le_of_ble_eq_true rfl) (Nat.le_of_ble_eq_true rfl) ?_
      exact eg_vretE dX6_readNested_61 hF
  · replace hF := eg_if c1 hF
    refine eg_aload_n (i := 0) 0 dX6_readNested_6 rfl rfl ?_
    replace hF := eg_bind hF; obtain ⟨p18, e19, hF⟩ := hF
    refine eg_getR dX6_readNested_7 e19 (Nat.le_of_ble_eq_true rfl) (Nat.le_of_ble_eq_true rfl) rfl ew_185 ?_
    replace hF := eg_bind hF; obtain ⟨h20, e21, hF⟩ := hF
    refine eg_callV (c := 10) (n := 0) [] dX6_readNested_10 (mX10_markWrongHere e21) rfl (fX10_markWrongHere_O e21) (Nat.le_of_ble_eq_true rfl) rfl ew_555 ew_503 ew_504 ew_101 ew_505 hy_X10_markWrongHere rfl (by have := eg_D_eq; omega) (Nat.le_of_ble_eq_true rfl) (Nat.le_of_ble_eq_true rfl) ?_
    exact eg_vretE dX6_readNested_13 hF
theorem dX6_readUnit_0 : decode cX6_readUnit 0 = .ok (.aload_n 0, 1) := by decide +kernel
theorem dX6_readUnit_1 : decode cX6_readUnit 1 = .ok (.getfield 19, 3) := by decide +kernel
theorem dX6_readUnit_4 : decode cX6_readUnit 4 = .ok (.invokevirtual 35, 3) := by decide +kernel
theorem dX6_readUnit_7 : decode cX6_readUnit 7 = .ok (.istore_n 3, 1) := by decide +kernel
theorem dX6_readUnit_8 : decode cX6_readUnit 8 = .ok (.iload_n 2, 1) := by decide +kernel
theorem dX6_readUnit_9 : decode cX6_readUnit 9 = .ok (.ifCond .ne 22, 3) := by decide +kernel
theorem dX6_readUnit_12 : decode cX6_readUnit 12 = .ok (.iload_n 3, 1) := by decide +kernel
theorem dX6_readUnit_13 : decode cX6_readUnit 13 = .ok (.bipush 33, 2) := by decide +kernel
theorem dX6_readUnit_15 : decode cX6_readUnit 15 = .ok (.if_icmp .eq 9, 3) := by decide +kernel
theorem dX6_readUnit_18 : decode cX6_readUnit 18 = .ok (.iload_n 3, 1) := by decide +kernel
theorem dX6_readUnit_19 : decode cX6_readUnit 19 = .ok (.bipush 40, 2) := by decide +kernel
theorem dX6_readUnit_21 : decode cX6_readUnit 21 = .ok (.if_icmp .ne 10, 3) := by decide +kernel
theorem dX6_readUnit_24 : decode cX6_readUnit 24 = .ok (.aload_n 0, 1) := by decide +kernel
theorem dX6_readUnit_25 : decode cX6_readUnit 25 = .ok (.iload_n 1, 1) := by decide +kernel
theorem dX6_readUnit_26 : decode cX6_readUnit 26 = .ok (.iload_n 3, 1) := by decide +kernel
theorem dX6_readUnit_27 : decode cX6_readUnit 27 = .ok (.invokevirtual 73, 3) := by decide +kernel
theorem dX6_readUnit_30 : decode cX6_readUnit 30 = .ok (.return_, 1) := by decide +kernel
theorem dX6_readUnit_31 : decode cX6_readUnit 31 = .ok (.iload_n 2, 1) := by decide +kernel
theorem dX6_readUnit_32 : decode cX6_readUnit 32 = .ok (.ifCond .ne 8, 3) := by decide +kernel
theorem dX6_readUnit_35 : decode cX6_readUnit 35 = .ok (.aload_n 0, 1) := by decide +kernel
theorem dX6_readUnit_36 : decode cX6_readUnit 36 = .ok (.iload_n 1, 1) := by decide +kernel
theorem dX6_readUnit_37 : decode cX6_readUnit 37 = .ok (.invokevirtual 54, 3) := by decide +kernel
theorem dX6_readUnit_40 : decode cX6_readUnit 40 = .ok (.aload_n 0, 1) := by decide +kernel
theorem dX6_readUnit_41 : decode cX6_readUnit 41 = .ok (.invokevirtual 57, 3) := by decide +kernel
theorem dX6_readUnit_44 : decode cX6_readUnit 44 = .ok (.istore 4, 2) := by decide +kernel
theorem dX6_readUnit_46 : decode cX6_readUnit 46 = .ok (.iload 4, 2) := by decide +kernel
theorem dX6_readUnit_48 : decode cX6_readUnit 48 = .ok (.ifCond .ne 11, 3) := by decide +kernel
theorem dX6_readUnit_51 : decode cX6_readUnit 51 = .ok (.aload_n 0, 1) := by decide +kernel
theorem dX6_readUnit_52 : decode cX6_readUnit 52 = .ok (.getfield 19, 3) := by decide +kernel
theorem dX6_readUnit_55 : decode cX6_readUnit 55 = .ok (.invokevirtual 39, 3) := by decide +kernel
theorem dX6_readUnit_58 : decode cX6_readUnit 58 = .ok (.return_, 1) := by decide +kernel
theorem dX6_readUnit_59 : decode cX6_readUnit 59 = .ok (.aload_n 0, 1) := by decide +kernel
theorem dX6_readUnit_60 : decode cX6_readUnit 60 = .ok (.getfield 19, 3) := by decide +kernel
theorem dX6_readUnit_63 : decode cX6_readUnit 63 = .ok (.invokevirtual 77, 3) := by decide +kernel
theorem dX6_readUnit_66 : decode cX6_readUnit 66 = .ok (.aload_n 0, 1) := by decide +kernel
theorem dX6_readUnit_67 : decode cX6_readUnit 67 = .ok (.iload_n 1, 1) := by decide +kernel
theorem dX6_readUnit_68 : decode cX6_readUnit 68 = .ok (.invokevirtual 54, 3) := by decide +kernel
theorem dX6_readUnit_71 : decode cX6_readUnit 71 = .ok (.aload_n 0, 1) := by decide +kernel
theorem dX6_readUnit_72 : decode cX6_readUnit 72 = .ok (.iload 4, 2) := by decide +kernel
theorem dX6_readUnit_74 : decode cX6_readUnit 74 = .ok (.invokevirtual 64, 3) := by decide +kernel
theorem dX6_readUnit_77 : decode cX6_readUnit 77 = .ok (.return_, 1) := by decide +kernel
def fX6_readUnit_j40 (rc : eg_H → Nat → Int32 → Int32 → Option (eg_H)) (h : eg_H) (l0 : Nat) (l1 : Int32) : Option (eg_H) :=
  (fX6_comparison h l0).bind fun ⟨v2, h1⟩ =>
  if v2 = 0 then
    ((eg_gR h1 6 0 l0).bind fun p5 =>
    (fX10_markWrongHere h1 p5).bind fun h7 =>
    some h7)
  else
    (eg_gR h1 6 0 l0).bind fun p9 =>
    (fX10_step h1 p9).bind fun h11 =>
    (fX6_readSum eg_D h11 l0 l1).bind fun h13 =>
    (fX6_emit h13 l0 v2).bind fun h15 =>
    some h15
set_option maxRecDepth 20000 in
theorem fX6_readUnit_j40_ok {rc : eg_H → Nat → Int32 → Int32 → Option (eg_H)} {dr : Nat} (hdr : 194 ≤ dr) (hrc : ∀ (h : eg_H) (a0 : Nat) (a1 : Int32) (a2 : Int32) (hE : eg_H), rc h a0 a1 a2 = some hE → eg_Met yX6_readUnit cX6_readUnit 5 none dr [.ref a0, .int a1, .int a2] h none hE) {h0 : eg_H} (h : eg_H) (l0 : Nat) (l1 : Int32) {hE : eg_H} (hF : fX6_readUnit_j40 rc h l0 l1 = some hE) : eg_AW (RX6, cX6_readUnit, 5, dr + 4, none, "readUnit", none) (eg_Zm none hE h0) (eg_nc hE) (eg_ns hE) h0 40 [(0, .ref l0), (1, .int l1)] [] h := by
  refine eg_aload_n (i := 0) 0 dX6_readUnit_40 rfl rfl ?_
  replace hF := eg_bind hF; obtain ⟨⟨v2, h1⟩, e3, hF⟩ := hF
  refine eg_callV (c := 6) (n := 0) [] dX6_readUnit_41 (mX6_comparison e3) rfl (fX6_comparison_O e3) (Nat.le_of_ble_eq_true rfl) rfl ew_556 ew_558 ew_13 ew_103 ew_559 hy_X6_comparison rfl (by have := eg_D_eq; omega) (Nat.le_of_ble_eq_true rfl) (Nat.le_of_ble_eq_true rfl) ?_
  refine eg_istore (i := 4) [(4, .int v2), (0, .ref l0), (1, .int l1)] dX6_readUnit_44 (Nat.le_of_ble_eq_true rfl) rfl ?_
  refine eg_iload (i := 4) 0 dX6_readUnit_46 rfl ?_
  refine eg_if_ne 59 dX6_readUnit_48 rfl (fun c4 => ?_) (fun c4 => ?_)
  · replace hF := eg_it c4 hF
    refine eg_aload_n (i := 0) 1 dX6_readUnit_51 rfl rfl ?_
    replace hF := eg_bind hF; obtain ⟨p5, e6, hF⟩ := hF
    refine eg_getR dX6_readUnit_52 e6 (Nat.le_of_ble_eq_true rfl) (Nat.le_of_ble_eq_true rfl) rfl ew_185 ?_
    replace hF := eg_bind hF; obtain ⟨h7, e8, hF⟩ := hF
    refine eg_callV (c := 10) (n := 0) [] dX6_readUnit_55 (mX10_markWrongHere e8) rfl (fX10_markWrongHere_O e8) (Nat.le_of_ble_eq_true rfl) rfl ew_555 ew_503 ew_504 ew_101 ew_505 hy_X10_markWrongHere rfl (by have := eg_D_eq; omega) (Nat.le_of_ble_eq_true rfl) (Nat.le_of_ble_eq_true rfl) ?_
    exact eg_vretE dX6_readUnit_58 hF
  · replace hF := eg_if c4 hF
    refine eg_aload_n (i := 0) 1 dX6_readUnit_59 rfl rfl ?_
    replace hF := eg_bind hF; obtain ⟨p9, e10, hF⟩ := hF
    refine eg_getR dX6_readUnit_60 e10 (Nat.le_of_ble_eq_true rfl) (Nat.le_of_ble_eq_true rfl) rfl ew_185 ?_
    replace hF := eg_bind hF; obtain ⟨h11, e12, hF⟩ := hF
    refine eg_callV (c := 10) (n := 0) [] dX6_readUnit_63 (mX10_step e12) rfl (fX10_step_O e12) (Nat.le_of_ble_eq_true rfl) rfl ew_554 ew_477 ew_478 ew_101 ew_479 hy_X10_step rfl (by have := eg_D_eq; omega) (Nat.le_of_ble_eq_true rfl) (Nat.le_of_ble_eq_true rfl) ?_
    refine eg_aload_n (i := 0) 1 dX6_readUnit_66 rfl rfl ?_
    refine eg_iload_n (i := 1) 2 dX6_readUnit_67 rfl rfl ?_
    replace hF := eg_bind hF; obtain ⟨h13, e14, hF⟩ := hF
    refine eg_callV (c := 6) (n := 1) [.int l1] dX6_readUnit_68 (mX6_readSum eg_D e14) rfl (fX6_readSum_O e14) (Nat.le_of_ble_eq_true rfl) rfl ew_528 ew_530 ew_8 ew_103 ew_531 hy_X6_readSum rfl (by have := eg_D_eq; omega) (Nat.le_of_ble_eq_true rfl) (Nat.le_of_ble_eq_true rfl) ?_
    refine eg_aload_n (i := 0) 1 dX6_readUnit_71 rfl rfl ?_
    refine eg_iload (i := 4) 0 dX6_readUnit_72 rfl ?_
    replace hF := eg_bind hF; obtain ⟨h15, e16, hF⟩ := hF
    refine eg_callV (c := 6) (n := 1) [.int v2] dX6_readUnit_74 (mX6_emit e16) rfl (fX6_emit_O e16) (Nat.le_of_ble_eq_true rfl) rfl ew_546 ew_548 ew_11 ew_103 ew_549 hy_X6_emit rfl (by have := eg_D_eq; omega) (Nat.le_of_ble_eq_true rfl) (Nat.le_of_ble_eq_true rfl) ?_
    exact eg_vretE dX6_readUnit_77 hF
def fX6_readUnit_j31 (rc : eg_H → Nat → Int32 → Int32 → Option (eg_H)) (h : eg_H) (l0 : Nat) (l1 : Int32) (l2 : Int32) : Option (eg_H) :=
  if l2 = 0 then
    ((fX6_readSum eg_D h l0 l1).bind fun h2 =>
    fX6_readUnit_j40 rc h2 l0 l1)
  else
    fX6_readUnit_j40 rc h l0 l1
set_option maxRecDepth 20000 in
theorem fX6_readUnit_j31_ok {rc : eg_H → Nat → Int32 → Int32 → Option (eg_H)} {dr : Nat} (hdr : 194 ≤ dr) (hrc : ∀ (h : eg_H) (a0 : Nat) (a1 : Int32) (a2 : Int32) (hE : eg_H), rc h a0 a1 a2 = some hE → eg_Met yX6_readUnit cX6_readUnit 5 none dr [.ref a0, .int a1, .int a2] h none hE) {h0 : eg_H} (h : eg_H) (l0 : Nat) (l1 : Int32) (l2 : Int32) {hE : eg_H} (hF : fX6_readUnit_j31 rc h l0 l1 l2 = some hE) : eg_AW (RX6, cX6_readUnit, 5, dr + 4, none, "readUnit", none) (eg_Zm none hE h0) (eg_nc hE) (eg_ns hE) h0 31 [(0, .ref l0), (1, .int l1), (2, .int l2)] [] h := by
  refine eg_iload_n (i := 2) 2 dX6_readUnit_31 rfl rfl ?_
  refine eg_if_ne 40 dX6_readUnit_32 rfl (fun c1 => ?_) (fun c1 => ?_)
  · replace hF := eg_it c1 hF
    refine eg_aload_n (i := 0) 0 dX6_readUnit_35 rfl rfl ?_
    refine eg_iload_n (i := 1) 1 dX6_readUnit_36 rfl rfl ?_
    replace hF := eg_bind hF; obtain ⟨h2, e3, hF⟩ := hF
    refine eg_callV (c := 6) (n := 1) [.int l1] dX6_readUnit_37 (mX6_readSum eg_D e3) rfl (fX6_readSum_O e3) (Nat.le_of_ble_eq_true rfl) rfl ew_528 ew_530 ew_8 ew_103 ew_531 hy_X6_readSum rfl (by have := eg_D_eq; omega) (Nat.le_of_ble_eq_true rfl) (Nat.le_of_ble_eq_true rfl) ?_
    exact eg_sub [0, 1] [(0, .ref l0), (1, .int l1)] rfl (fX6_readUnit_j40_ok hdr hrc h2 l0 l1 hF)
  · replace hF := eg_if c1 hF
    exact eg_sub [0, 1] [(0, .ref l0), (1, .int l1)] rfl (fX6_readUnit_j40_ok hdr hrc h l0 l1 hF)
def fX6_readUnitB (rc : eg_H → Nat → Int32 → Int32 → Option (eg_H)) (h : eg_H) (l0 : Nat) (l1 : Int32) (l2 : Int32) : Option (eg_H) :=
  if eg_isO h 6 l0 then (
    (eg_gR h 6 0 l0).bind fun p1 =>
    (fX10_sign h p1).bind fun ⟨v4, h3⟩ =>
    if l2 = 0 then
      (if v4 = (33 : Int32) then
        ((fX6_readNested rc h3 l0 l1 v4).bind fun h8 =>
        some h8)
      else
        if v4 = (40 : Int32) then
          ((fX6_readNested rc h3 l0 l1 v4).bind fun h11 =>
          some h11)
        else
          fX6_readUnit_j31 rc h3 l0 l1 l2)
    else
      fX6_readUnit_j31 rc h3 l0 l1 l2) else none
theorem fX6_readUnitB_O {rc : eg_H → Nat → Int32 → Int32 → Option (eg_H)} {h : eg_H} {l0 : Nat} {l1 : Int32} {l2 : Int32} {hE : eg_H} (hF : fX6_readUnitB rc h l0 l1 l2 = some hE) : eg_isO h 6 l0 := (eg_ifn hF).1
set_option maxRecDepth 20000 in
theorem mX6_readUnitB {rc : eg_H → Nat → Int32 → Int32 → Option (eg_H)} {dr : Nat} (hdr : 194 ≤ dr) (hrc : ∀ (h : eg_H) (a0 : Nat) (a1 : Int32) (a2 : Int32) (hE : eg_H), rc h a0 a1 a2 = some hE → eg_Met yX6_readUnit cX6_readUnit 5 none dr [.ref a0, .int a1, .int a2] h none hE) {h : eg_H} {l0 : Nat} {l1 : Int32} {l2 : Int32} {hE : eg_H} (hF : fX6_readUnitB rc h l0 l1 l2 = some hE) : eg_Met yX6_readUnit cX6_readUnit 5 none (dr + 4) [.ref l0, .int l1, .int l2] h none hE := by
  refine eg_enter rfl (Nat.le_of_ble_eq_true rfl) ?_
  show eg_AW (RX6, cX6_readUnit, 5, dr + 4, none, "readUnit", none) (eg_Zm none hE h) (eg_nc hE) (eg_ns hE) h 0 [(0, .ref l0), (1, .int l1), (2, .int l2)] [] h
  replace hF := (eg_ifn hF).2
  refine eg_aload_n (i := 0) 0 dX6_readUnit_0 rfl rfl ?_
  replace hF := eg_bind hF; obtain ⟨p1, e2, hF⟩ := hF
  refine eg_getR dX6_readUnit_1 e2 (Nat.le_of_ble_eq_true rfl) (Nat.le_of_ble_eq_true rfl) rfl ew_185 ?_
  replace hF := eg_bind hF; obtain ⟨⟨v4, h3⟩, e5, hF⟩ := hF
  refine eg_callV (c := 10) (n := 0) [] dX6_readUnit_4 (mX10_sign e5) rfl (fX10_sign_O e5) (Nat.le_of_ble_eq_true rfl) rfl ew_527 ew_469 ew_470 ew_101 ew_471 hy_X10_sign rfl (by have := eg_D_eq; omega) (Nat.le_of_ble_eq_true rfl) (Nat.le_of_ble_eq_true rfl) ?_
  refine eg_istore_n (i := 3) [(3, .int v4), (0, .ref l0), (1, .int l1), (2, .int l2)] dX6_readUnit_7 rfl (Nat.le_of_ble_eq_true rfl) rfl ?_
  refine eg_iload_n (i := 2) 3 dX6_readUnit_8 rfl rfl ?_
  refine eg_if_ne 31 dX6_readUnit_9 rfl (fun c6 => ?_) (fun c6 => ?_)
  · replace hF := eg_it c6 hF
    refine eg_iload_n (i := 3) 0 dX6_readUnit_12 rfl rfl ?_
    refine eg_bipush (v := (33 : Int32)) dX6_readUnit_13 (by decide) ?_
    refine eg_ic_eq 24 dX6_readUnit_15 rfl (fun c7 => ?_) (fun c7 => ?_)
    · replace hF := eg_it c7 hF
      refine eg_aload_n (i := 0) 1 dX6_readUnit_24 rfl rfl ?_
      refine eg_iload_n (i := 1) 2 dX6_readUnit_25 rfl rfl ?_
      refine eg_iload_n (i := 3) 0 dX6_readUnit_26 rfl rfl ?_
      replace hF := eg_bind hF; obtain ⟨h8, e9, hF⟩ := hF
      refine eg_callV (c := 6) (n := 2) [.int l1, .int v4] dX6_readUnit_27 (mX6_readNested hdr hrc e9) rfl (fX6_readNested_O e9) (Nat.le_of_ble_eq_true rfl) rfl ew_572 ew_574 ew_17 ew_103 ew_575 hy_X6_readNested rfl (by have := eg_D_eq; omega) (Nat.le_of_ble_eq_true rfl) (Nat.le_of_ble_eq_true rfl) ?_
      exact eg_vretE dX6_readUnit_30 hF
    · replace hF := eg_if c7 hF
      refine eg_iload_n (i := 3) 0 dX6_readUnit_18 rfl rfl ?_
      refine eg_bipush (v := (40 : Int32)) dX6_readUnit_19 (by decide) ?_
      refine eg_ic_ne 31 dX6_readUnit_21 rfl (fun c10 => ?_) (fun c10 => ?_)
      · replace hF := eg_it c10 hF
        refine eg_aload_n (i := 0) 1 dX6_readUnit_24 rfl rfl ?_
        refine eg_iload_n (i := 1) 2 dX6_readUnit_25 rfl rfl ?_
        refine eg_iload_n (i := 3) 0 dX6_readUnit_26 rfl rfl ?_
        replace hF := eg_bind hF; obtain ⟨h11, e12, hF⟩ := hF
        refine eg_callV (c := 6) (n := 2) [.int l1, .int v4] dX6_readUnit_27 (mX6_readNested hdr hrc e12) rfl (fX6_readNested_O e12) (Nat.le_of_ble_eq_true rfl) rfl ew_572 ew_574 ew_17 ew_103 ew_575 hy_X6_readNested rfl (by have := eg_D_eq; omega) (Nat.le_of_ble_eq_true rfl) (Nat.le_of_ble_eq_true rfl) ?_
        exact eg_vretE dX6_readUnit_30 hF
      · replace hF := eg_if c10 hF
        exact eg_sub [1, 2, 3] [(0, .ref l0), (1, .int l1), (2, .int l2)] rfl (fX6_readUnit_j31_ok hdr hrc h3 l0 l1 l2 hF)
  · replace hF := eg_if c6 hF
    exact eg_sub [1, 2, 3] [(0, .ref l0), (1, .int l1), (2, .int l2)] rfl (fX6_readUnit_j31_ok hdr hrc h3 l0 l1 l2 hF)
def fX6_readUnit : Nat → eg_H → Nat → Int32 → Int32 → Option (eg_H)
  | 0 => fun _ _ _ _ => none
  | n + 1 => fX6_readUnitB (fX6_readUnit n)
theorem fX6_readUnit_O {n : Nat} {h : eg_H} {l0 : Nat} {l1 : Int32} {l2 : Int32} {hE : eg_H} (hF : fX6_readUnit n h l0 l1 l2 = some hE) : eg_isO h 6 l0 := by
  cases n with
  | zero => cases hF
  | succ n => exact fX6_readUnitB_O (rc := fX6_readUnit n) hF
theorem mX6_readUnit_x : ∀ (n : Nat) (h : eg_H) (l0 : Nat) (l1 : Int32) (l2 : Int32) (hE : eg_H), fX6_readUnit n h l0 l1 l2 = some hE → eg_Met yX6_readUnit cX6_readUnit 5 none (194 + 4 * n) [.ref l0, .int l1, .int l2] h none hE := by
  intro n
  induction n with
  | zero => intro h l0 l1 l2 hE hF; cases hF
  | succ n ih =>
    intro h l0 l1 l2 hE hF
    exact mX6_readUnitB (rc := fX6_readUnit n) (dr := 194 + 4 * n) (by omega) ih hF
theorem mX6_readUnit (n : Nat) {h : eg_H} {l0 : Nat} {l1 : Int32} {l2 : Int32} {hE : eg_H} (hF : fX6_readUnit n h l0 l1 l2 = some hE) : eg_Met yX6_readUnit cX6_readUnit 5 none (194 + 4 * n) [.ref l0, .int l1, .int l2] h none hE := mX6_readUnit_x n h l0 l1 l2 hE hF
