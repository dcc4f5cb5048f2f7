theorem dX0_init_0 : decode cX0_init 0 = .ok (.aload_n 0, 1) := by decide +kernel
theorem dX0_init_1 : decode cX0_init 1 = .ok (.invokespecial 3, 3) := by decide +kernel
theorem dX0_init_4 : decode cX0_init 4 = .ok (.aload_n 0, 1) := by decide +kernel
theorem dX0_init_5 : decode cX0_init 5 = .ok (.sipush 432, 3) := by decide +kernel
theorem dX0_init_8 : decode cX0_init 8 = .ok (.anewarray 9, 3) := by decide +kernel
theorem dX0_init_11 : decode cX0_init 11 = .ok (.putfield 11, 3) := by decide +kernel
theorem dX0_init_14 : decode cX0_init 14 = .ok (.aload_n 0, 1) := by decide +kernel
theorem dX0_init_15 : decode cX0_init 15 = .ok (.iconst 1, 1) := by decide +kernel
theorem dX0_init_16 : decode cX0_init 16 = .ok (.putfield 17, 3) := by decide +kernel
theorem dX0_init_19 : decode cX0_init 19 = .ok (.aload_n 0, 1) := by decide +kernel
theorem dX0_init_20 : decode cX0_init 20 = .ok (.aload_n 1, 1) := by decide +kernel
theorem dX0_init_21 : decode cX0_init 21 = .ok (.putfield 21, 3) := by decide +kernel
theorem dX0_init_24 : decode cX0_init 24 = .ok (.aload_n 0, 1) := by decide +kernel
theorem dX0_init_25 : decode cX0_init 25 = .ok (.aload_n 2, 1) := by decide +kernel
theorem dX0_init_26 : decode cX0_init 26 = .ok (.putfield 25, 3) := by decide +kernel
theorem dX0_init_29 : decode cX0_init 29 = .ok (.return_, 1) := by decide +kernel
def fX0_init (h : eg_H) (l0 : Nat) (l1 : Nat) (l2 : Nat) : Option (eg_H) :=
  (eg_na h 114 (432 : Int32)).bind fun h2 =>
  (some (eg_nc h)).bind fun p1 =>
  (eg_pP h2 0 2 l0 (some p1)).bind fun h5 =>
  (eg_pI h5 0 3 l0 (1 : Int32)).bind fun h7 =>
  (eg_pP h7 0 0 l0 (some l1)).bind fun h9 =>
  (eg_pP h9 0 1 l0 (some l2)).bind fun h11 =>
  some h11
set_option maxRecDepth 20000 in
theorem mX0_init {h : eg_H} {l0 : Nat} {l1 : Nat} {l2 : Nat} {hE : eg_H} (hF : fX0_init h l0 l1 l2 = some hE) : eg_Met yX0_init cX0_init 3 none 1 [.ref l0, .ref l1, .ref l2] h none hE := by
  refine eg_enter rfl (Nat.le_of_ble_eq_true rfl) ?_
  show eg_AW (RX0, cX0_init, 3, 1, none, "<init>", none) (eg_Zm none hE h) (eg_nc hE) (eg_ns hE) h 0 [(0, .ref l0), (1, .ref l1), (2, .ref l2)] [] h
  refine eg_aload_n (i := 0) 0 dX0_init_0 rfl rfl ?_
  refine eg_objInit dX0_init_1 ew_273 (Nat.le_of_ble_eq_true rfl) (Nat.le_of_ble_eq_true rfl) ?_
  refine eg_aload_n (i := 0) 0 dX0_init_4 rfl rfl ?_
  refine eg_sipush (v := (432 : Int32)) dX0_init_5 (by decide) ?_
  replace hF := eg_bind hF; obtain ⟨h2, e3, hF⟩ := hF
  replace hF := eg_bind hF; obtain ⟨p1, e4, hF⟩ := hF
  refine eg_newq (c := 4) dX0_init_8 e3 (Nat.le_of_ble_eq_true rfl) (Nat.le_of_ble_eq_true rfl) ew_274 ?_
  replace e4 := Option.some.inj e4
  rw [e4]
  replace hF := eg_bind hF; obtain ⟨h5, e6, hF⟩ := hF
  refine eg_putR dX0_init_11 e6 (Nat.le_of_ble_eq_true rfl) (Nat.le_of_ble_eq_true rfl) rfl ew_278 (Or.inr ⟨rfl, rfl, rfl⟩) ?_
  refine eg_aload_n (i := 0) 0 dX0_init_14 rfl rfl ?_
  refine eg_iconst (v := (1 : Int32)) dX0_init_15 (by decide) ?_
  replace hF := eg_bind hF; obtain ⟨h7, e8, hF⟩ := hF
  refine eg_putI dX0_init_16 e8 (Nat.le_of_ble_eq_true rfl) (Nat.le_of_ble_eq_true rfl) rfl ew_279 (Or.inl rfl) ?_
  refine eg_aload_n (i := 0) 0 dX0_init_19 rfl rfl ?_
  refine eg_aload_n (i := 1) 1 dX0_init_20 rfl rfl ?_
  replace hF := eg_bind hF; obtain ⟨h9, e10, hF⟩ := hF
  refine eg_putR dX0_init_21 e10 (Nat.le_of_ble_eq_true rfl) (Nat.le_of_ble_eq_true rfl) rfl ew_276 (Or.inr ⟨rfl, rfl, rfl⟩) ?_
  refine eg_aload_n (i := 0) 0 dX0_init_24 rfl rfl ?_
  refine eg_aload_n (i := 2) 2 dX0_init_25 rfl rfl ?_
  replace hF := eg_bind hF; obtain ⟨h11, e12, hF⟩ := hF
  refine eg_putR dX0_init_26 e12 (Nat.le_of_ble_eq_true rfl) (Nat.le_of_ble_eq_true rfl) rfl ew_277 (Or.inr ⟨rfl, rfl, rfl⟩) ?_
  exact eg_vretE dX0_init_29 hF
theorem dX0_forget_0 : decode cX0_forget 0 = .ok (.aload_n 0, 1) := by decide +kernel
theorem dX0_forget_1 : decode cX0_forget 1 = .ok (.dup, 1) := by decide +kernel
theorem dX0_forget_2 : decode cX0_forget 2 = .ok (.getfield 17, 3) := by decide +kernel
theorem dX0_forget_5 : decode cX0_forget 5 = .ok (.iconst 1, 1) := by decide +kernel
theorem dX0_forget_6 : decode cX0_forget 6 = .ok (.iadd, 1) := by decide +kernel
theorem dX0_forget_7 : decode cX0_forget 7 = .ok (.putfield 17, 3) := by decide +kernel
theorem dX0_forget_10 : decode cX0_forget 10 = .ok (.return_, 1) := by decide +kernel
def fX0_forget (h : eg_H) (l0 : Nat) : Option (eg_H) :=
  if eg_isO h 0 l0 then (
    (eg_gI h 0 3 l0).bind fun v1 =>
    (eg_pI h 0 3 l0 (v1 + (1 : Int32))).bind fun h3 =>
    some h3) else none
theorem fX0_forget_O {h : eg_H} {l0 : Nat} {hE : eg_H} (hF : fX0_forget h l0 = some hE) : eg_isO h 0 l0 := (eg_ifn hF).1
set_option maxRecDepth 20000 in
theorem mX0_forget {h : eg_H} {l0 : Nat} {hE : eg_H} (hF : fX0_forget h l0 = some hE) : eg_Met yX0_forget cX0_forget 1 none 1 [.ref l0] h none hE := by
  refine eg_enter rfl (Nat.le_of_ble_eq_true rfl) ?_
  show eg_AW (RX0, cX0_forget, 1, 1, none, "forget", none) (eg_Zm none hE h) (eg_nc hE) (eg_ns hE) h 0 [(0, .ref l0)] [] h
  replace hF := (eg_ifn hF).2
  refine eg_aload_n (i := 0) 0 dX0_forget_0 rfl rfl ?_
  refine eg_dup dX0_forget_1 rfl ?_
  replace hF := eg_bind hF; obtain ⟨v1, e2, hF⟩ := hF
  refine eg_getI dX0_forget_2 e2 (Nat.le_of_ble_eq_true rfl) (Nat.le_of_ble_eq_true rfl) rfl ew_279 ?_
  refine eg_iconst (v := (1 : Int32)) dX0_forget_5 (by decide) ?_
  refine eg_iadd dX0_forget_6 ?_
  replace hF := eg_bind hF; obtain ⟨h3, e4, hF⟩ := hF
  refine eg_putI dX0_forget_7 e4 (Nat.le_of_ble_eq_true rfl) (Nat.le_of_ble_eq_true rfl) rfl ew_279 (Or.inl rfl) ?_
  exact eg_vretE dX0_forget_10 hF
theorem dX7_told_0 : decode cX7_told 0 = .ok (.iload_n 1, 1) := by decide +kernel
theorem dX7_told_1 : decode cX7_told 1 = .ok (.ifCond .lt 8, 3) := by decide +kernel
theorem dX7_told_4 : decode cX7_told 4 = .ok (.iload_n 1, 1) := by decide +kernel
theorem dX7_told_5 : decode cX7_told 5 = .ok (.iconst 4, 1) := by decide +kernel
theorem dX7_told_6 : decode cX7_told 6 = .ok (.if_icmp .lt 7, 3) := by decide +kernel
theorem dX7_told_9 : decode cX7_told 9 = .ok (.iconst 0, 1) := by decide +kernel
theorem dX7_told_10 : decode cX7_told 10 = .ok (.goto 9, 3) := by decide +kernel
theorem dX7_told_13 : decode cX7_told 13 = .ok (.aload_n 0, 1) := by decide +kernel
theorem dX7_told_14 : decode cX7_told 14 = .ok (.getfield 9, 3) := by decide +kernel
theorem dX7_told_17 : decode cX7_told 17 = .ok (.iload_n 1, 1) := by decide +kernel
theorem dX7_told_18 : decode cX7_told 18 = .ok (.iaload, 1) := by decide +kernel
theorem dX7_told_19 : decode cX7_told 19 = .ok (.ireturn, 1) := by decide +kernel
def fX7_told (h : eg_H) (l0 : Nat) (l1 : Int32) : Option (Int32 × eg_H) :=
  if eg_isO h 7 l0 then (
    if l1 < 0 then
      (some ((0 : Int32), h))
    else
      if l1 < (4 : Int32) then
        ((eg_gR h 7 0 l0).bind fun p3 =>
        (eg_aI h 100 p3 l1).bind fun v5 =>
        some (v5, h))
      else
        some ((0 : Int32), h)) else none
theorem fX7_told_O {h : eg_H} {l0 : Nat} {l1 : Int32} {rE : Int32} {hE : eg_H} (hF : fX7_told h l0 l1 = some (rE, hE)) : eg_isO h 7 l0 := (eg_ifn hF).1
set_option maxRecDepth 20000 in
theorem mX7_told {h : eg_H} {l0 : Nat} {l1 : Int32} {rE : Int32} {hE : eg_H} (hF : fX7_told h l0 l1 = some (rE, hE)) : eg_Met yX7_told cX7_told 2 (some .int) 1 [.ref l0, .int l1] h (some (.int rE)) hE := by
  refine eg_enter rfl (Nat.le_of_ble_eq_true rfl) ?_
  show eg_AW (RX7, cX7_told, 2, 1, none, "told", (some .int)) (eg_Zm (some (.int rE)) hE h) (eg_nc hE) (eg_ns hE) h 0 [(0, .ref l0), (1, .int l1)] [] h
  replace hF := (eg_ifn hF).2
  refine eg_iload_n (i := 1) 1 dX7_told_0 rfl rfl ?_
  refine eg_if_lt 9 dX7_told_1 rfl (fun c1 => ?_) (fun c1 => ?_)
  · replace hF := eg_it c1 hF
    refine eg_iconst (v := (0 : Int32)) dX7_told_9 (by decide) ?_
    refine eg_goto 19 dX7_told_10 rfl ?_
    exact eg_iretE dX7_told_19 hF
  · replace hF := eg_if c1 hF
    refine eg_iload_n (i := 1) 1 dX7_told_4 rfl rfl ?_
    refine eg_iconst (v := (4 : Int32)) dX7_told_5 (by decide) ?_
    refine eg_ic_lt 13 dX7_told_6 rfl (fun c2 => ?_) (fun c2 => ?_)
    · replace hF := eg_it c2 hF
      refine eg_aload_n (i := 0) 0 dX7_told_13 rfl rfl ?_
      replace hF := eg_bind hF; obtain ⟨p3, e4, hF⟩ := hF
      refine eg_getR dX7_told_14 e4 (Nat.le_of_ble_eq_true rfl) (Nat.le_of_ble_eq_true rfl) rfl ew_201 ?_
      refine eg_iload_n (i := 1) 1 dX7_told_17 rfl rfl ?_
      replace hF := eg_bind hF; obtain ⟨v5, e6, hF⟩ := hF
      refine eg_iald dX7_told_18 e6 ?_
      exact eg_iretE dX7_told_19 hF
    · replace hF := eg_if c2 hF
      refine eg_iconst (v := (0 : Int32)) dX7_told_9 (by decide) ?_
      refine eg_goto 19 dX7_told_10 rfl ?_
      exact eg_iretE dX7_told_19 hF
theorem dX4_init_0 : decode cX4_init 0 = .ok (.aload_n 0, 1) := by decide +kernel
theorem dX4_init_1 : decode cX4_init 1 = .ok (.invokespecial 3, 3) := by decide +kernel
theorem dX4_init_4 : decode cX4_init 4 = .ok (.aload_n 0, 1) := by decide +kernel
theorem dX4_init_5 : decode cX4_init 5 = .ok (.bipush 61, 2) := by decide +kernel
theorem dX4_init_7 : decode cX4_init 7 = .ok (.newarray .int, 2) := by decide +kernel
theorem dX4_init_9 : decode cX4_init 9 = .ok (.putfield 9, 3) := by decide +kernel
theorem dX4_init_12 : decode cX4_init 12 = .ok (.aload_n 0, 1) := by decide +kernel
theorem dX4_init_13 : decode cX4_init 13 = .ok (.iload_n 1, 1) := by decide +kernel
theorem dX4_init_14 : decode cX4_init 14 = .ok (.putfield 15, 3) := by decide +kernel
theorem dX4_init_17 : decode cX4_init 17 = .ok (.return_, 1) := by decide +kernel
def fX4_init (h : eg_H) (l0 : Nat) (l1 : Int32) : Option (eg_H) :=
  (eg_na h 100 (61 : Int32)).bind fun h2 =>
  (some (eg_nc h)).bind fun p1 =>
  (eg_pP h2 4 0 l0 (some p1)).bind fun h5 =>
  (eg_pI h5 4 1 l0 l1).bind fun h7 =>
  some h7
set_option maxRecDepth 20000 in
theorem mX4_init {h : eg_H} {l0 : Nat} {l1 : Int32} {hE : eg_H} (hF : fX4_init h l0 l1 = some hE) : eg_Met yX4_init cX4_init 2 none 1 [.ref l0, .int l1] h none hE := by
  refine eg_enter rfl (Nat.le_of_ble_eq_true rfl) ?_
  show eg_AW (RX4, cX4_init, 2, 1, none, "<init>", none) (eg_Zm none hE h) (eg_nc hE) (eg_ns hE) h 0 [(0, .ref l0), (1, .int l1)] [] h
  refine eg_aload_n (i := 0) 0 dX4_init_0 rfl rfl ?_
  refine eg_objInit dX4_init_1 ew_847 (Nat.le_of_ble_eq_true rfl) (Nat.le_of_ble_eq_true rfl) ?_
  refine eg_aload_n (i := 0) 0 dX4_init_4 rfl rfl ?_
  refine eg_bipush (v := (61 : Int32)) dX4_init_5 (by decide) ?_
  replace hF := eg_bind hF; obtain ⟨h2, e3, hF⟩ := hF
  replace hF := eg_bind hF; obtain ⟨p1, e4, hF⟩ := hF
  refine eg_newa .int dX4_init_7 e3 0 (Nat.le_of_ble_eq_true rfl) (Nat.le_of_ble_eq_true rfl) (Nat.le_of_ble_eq_true rfl) (fun _ => rfl) (by decide) rfl ew_156 ?_
  replace e4 := Option.some.inj e4
  rw [e4]
  replace hF := eg_bind hF; obtain ⟨h5, e6, hF⟩ := hF
  refine eg_putR dX4_init_9 e6 (Nat.le_of_ble_eq_true rfl) (Nat.le_of_ble_eq_true rfl) rfl ew_848 (Or.inr ⟨rfl, rfl, rfl⟩) ?_
  refine eg_aload_n (i := 0) 0 dX4_init_12 rfl rfl ?_
  refine eg_iload_n (i := 1) 1 dX4_init_13 rfl rfl ?_
  replace hF := eg_bind hF; obtain ⟨h7, e8, hF⟩ := hF
  refine eg_putI dX4_init_14 e8 (Nat.le_of_ble_eq_true rfl) (Nat.le_of_ble_eq_true rfl) rfl ew_849 (Or.inl rfl) ?_
  exact eg_vretE dX4_init_17 hF
theorem dJ7_fill_53178_0 : decode cJ7_fill_53178 0 = .ok (.iconst 0, 1) := by decide +kernel
theorem dJ7_fill_53178_1 : decode cJ7_fill_53178 1 = .ok (.istore_n 2, 1) := by decide +kernel
theorem dJ7_fill_53178_2 : decode cJ7_fill_53178 2 = .ok (.aload_n 0, 1) := by decide +kernel
theorem dJ7_fill_53178_3 : decode cJ7_fill_53178 3 = .ok (.arraylength, 1) := by decide +kernel
theorem dJ7_fill_53178_4 : decode cJ7_fill_53178 4 = .ok (.istore_n 3, 1) := by decide +kernel
theorem dJ7_fill_53178_5 : decode cJ7_fill_53178 5 = .ok (.iload_n 2, 1) := by decide +kernel
theorem dJ7_fill_53178_6 : decode cJ7_fill_53178 6 = .ok (.iload_n 3, 1) := by decide +kernel
theorem dJ7_fill_53178_7 : decode cJ7_fill_53178 7 = .ok (.if_icmp .ge 13, 3) := by decide +kernel
theorem dJ7_fill_53178_10 : decode cJ7_fill_53178 10 = .ok (.aload_n 0, 1) := by decide +kernel
theorem dJ7_fill_53178_11 : decode cJ7_fill_53178 11 = .ok (.iload_n 2, 1) := by decide +kernel
theorem dJ7_fill_53178_12 : decode cJ7_fill_53178 12 = .ok (.iload_n 1, 1) := by decide +kernel
theorem dJ7_fill_53178_13 : decode cJ7_fill_53178 13 = .ok (.iastore, 1) := by decide +kernel
theorem dJ7_fill_53178_14 : decode cJ7_fill_53178 14 = .ok (.iinc 2 1, 3) := by decide +kernel
theorem dJ7_fill_53178_17 : decode cJ7_fill_53178 17 = .ok (.goto (-12), 3) := by decide +kernel
theorem dJ7_fill_53178_20 : decode cJ7_fill_53178 20 = .ok (.return_, 1) := by decide +kernel
def fJ7_fill_53178_L5 : Nat → eg_H → Nat → Int32 → Int32 → Int32 → Option (eg_H)
  | 0, _, _, _, _, _ => none
  | n + 1, h, l0, l1, l2, l3 =>
    if l3 ≤ l2 then
      (some h)
    else
      (eg_wI h 100 l0 l2 l1).bind fun h2 =>
      fJ7_fill_53178_L5 n h2 l0 l1 (l2 + (1 : Int32)) l3
set_option maxRecDepth 20000 in
theorem fJ7_fill_53178_L5_ok {h0 : eg_H} {Z : eg_C → State → Prop} {N S : Nat} : ∀ (n : Nat) (h : eg_H) (l0 : Nat) (l1 : Int32) (l2 : Int32) (l3 : Int32) (eE : eg_H), fJ7_fill_53178_L5 n h l0 l1 l2 l3 = some eE → (hk0 : ∀  (h : eg_H), eE = h → eg_AW (RJ7, cJ7_fill_53178, 4, 1, none, "fill", none) Z N S h0 20 [] [] h) → eg_AW (RJ7, cJ7_fill_53178, 4, 1, none, "fill", none) Z N S h0 5 [(0, .ref l0), (1, .int l1), (2, .int l2), (3, .int l3)] [] h := by
  intro n
  induction n with
  | zero => intro h l0 l1 l2 l3 eE hF; exact absurd hF (by intro q; cases q)
  | succ n ih =>
    intro h l0 l1 l2 l3 eE hF hk0
    have hrec := fun (h' : eg_H) (l0 : Nat) (l1 : Int32) (l2 : Int32) (l3 : Int32) hq => ih h' l0 l1 l2 l3 eE hq hk0
    refine eg_iload_n (i := 2) 2 dJ7_fill_53178_5 rfl rfl ?_
    refine eg_iload_n (i := 3) 3 dJ7_fill_53178_6 rfl rfl ?_
    refine eg_ic_ge 20 dJ7_fill_53178_7 rfl (fun c1 => ?_) (fun c1 => ?_)
    · replace hF := eg_it c1 hF
      exact eg_sub [] [] rfl (hk0 h (Option.some.inj hF).symm)
    · replace hF := eg_if c1 hF
      refine eg_aload_n (i := 0) 0 dJ7_fill_53178_10 rfl rfl ?_
      refine eg_iload_n (i := 2) 2 dJ7_fill_53178_11 rfl rfl ?_
      refine eg_iload_n (i := 1) 1 dJ7_fill_53178_12 rfl rfl ?_
      replace hF := eg_bind hF; obtain ⟨h2, e3, hF⟩ := hF
      refine eg_iast dJ7_fill_53178_13 e3 ?_
      refine eg_iinc (i := 2) (v := (l2 + (1 : Int32))) 2 [(2, .int (l2 + (1 : Int32))), (0, .ref l0), (1, .int l1), (3, .int l3)] dJ7_fill_53178_14 rfl rfl (Nat.le_of_ble_eq_true rfl) rfl ?_
      refine eg_goto 5 dJ7_fill_53178_17 rfl ?_
      exact eg_sub [1, 2, 0, 3] [(0, .ref l0), (1, .int l1), (2, .int (l2 + (1 : Int32))), (3, .int l3)] rfl (hrec h2 l0 l1 (l2 + (1 : Int32)) l3 hF)
def fJ7_fill_53178 (h : eg_H) (l0 : Nat) (l1 : Int32) : Option (eg_H) :=
  (eg_al h l0).bind fun v1 =>
  (fJ7_fill_53178_L5 eg_F h l0 l1 (0 : Int32) v1).bind fun e =>
  match e with
  | h5 =>
    some h5
set_option maxRecDepth 20000 in
theorem mJ7_fill_53178 {h : eg_H} {l0 : Nat} {l1 : Int32} {hE : eg_H} (hF : fJ7_fill_53178 h l0 l1 = some hE) : eg_Met yJ7_fill_53178 cJ7_fill_53178 4 none 1 [.ref l0, .int l1] h none hE := by
  refine eg_enter rfl (Nat.le_of_ble_eq_true rfl) ?_
  show eg_AW (RJ7, cJ7_fill_53178, 4, 1, none, "fill", none) (eg_Zm none hE h) (eg_nc hE) (eg_ns hE) h 0 [(0, .ref l0), (1, .int l1)] [] h
  refine eg_iconst (v := (0 : Int32)) dJ7_fill_53178_0 (by decide) ?_
  refine eg_istore_n (i := 2) [(2, .int (0 : Int32)), (0, .ref l0), (1, .int l1)] dJ7_fill_53178_1 rfl (Nat.le_of_ble_eq_true rfl) rfl ?_
  refine eg_aload_n (i := 0) 1 dJ7_fill_53178_2 rfl rfl ?_
  replace hF := eg_bind hF; obtain ⟨v1, e2, hF⟩ := hF
  refine eg_alen dJ7_fill_53178_3 e2 ?_
  refine eg_istore_n (i := 3) [(3, .int v1), (2, .int (0 : Int32)), (0, .ref l0), (1, .int l1)] dJ7_fill_53178_4 rfl (Nat.le_of_ble_eq_true rfl) rfl ?_
  replace hF := eg_bind hF; obtain ⟨x4, e3, hF⟩ := hF
  refine eg_sub [2, 3, 1, 0] [(0, .ref l0), (1, .int l1), (2, .int (0 : Int32)), (3, .int v1)] rfl (fJ7_fill_53178_L5_ok eg_F h l0 l1 (0 : Int32) v1 x4 e3 ?_)
  · intro h5 e6
    subst e6
    exact eg_vretE dJ7_fill_53178_20 hF
theorem dX4_bestsIn_0 : decode cX4_bestsIn 0 = .ok (.aload_n 0, 1) := by decide +kernel
theorem dX4_bestsIn_1 : decode cX4_bestsIn 1 = .ok (.getfield 15, 3) := by decide +kernel
theorem dX4_bestsIn_4 : decode cX4_bestsIn 4 = .ok (.iload_n 1, 1) := by decide +kernel
theorem dX4_bestsIn_5 : decode cX4_bestsIn 5 = .ok (.if_icmp .eq 16, 3) := by decide +kernel
theorem dX4_bestsIn_8 : decode cX4_bestsIn 8 = .ok (.aload_n 0, 1) := by decide +kernel
theorem dX4_bestsIn_9 : decode cX4_bestsIn 9 = .ok (.getfield 9, 3) := by decide +kernel
theorem dX4_bestsIn_12 : decode cX4_bestsIn 12 = .ok (.iconst 0, 1) := by decide +kernel
theorem dX4_bestsIn_13 : decode cX4_bestsIn 13 = .ok (.invokestatic 19, 3) := by decide +kernel
theorem dX4_bestsIn_16 : decode cX4_bestsIn 16 = .ok (.aload_n 0, 1) := by decide +kernel
theorem dX4_bestsIn_17 : decode cX4_bestsIn 17 = .ok (.iload_n 1, 1) := by decide +kernel
theorem dX4_bestsIn_18 : decode cX4_bestsIn 18 = .ok (.putfield 15, 3) := by decide +kernel
theorem dX4_bestsIn_21 : decode cX4_bestsIn 21 = .ok (.aload_n 0, 1) := by decide +kernel
theorem dX4_bestsIn_22 : decode cX4_bestsIn 22 = .ok (.getfield 9, 3) := by decide +kernel
theorem dX4_bestsIn_25 : decode cX4_bestsIn 25 = .ok (.areturn, 1) := by decide +kernel
def fX4_bestsIn (h : eg_H) (l0 : Nat) (l1 : Int32) : Option (Nat × eg_H) :=
  if eg_isO h 4 l0 then (
    (eg_gI h 4 1 l0).bind fun v1 =>
    if v1 = l1 then
      ((eg_gR h 4 0 l0).bind fun p4 =>
      some (p4, h))
    else
      (eg_gR h 4 0 l0).bind fun p6 =>
      (fJ7_fill_53178 h p6 (0 : Int32)).bind fun h8 =>
      (eg_pI h8 4 1 l0 l1).bind fun h10 =>
      (eg_gR h10 4 0 l0).bind fun p12 =>
      some (p12, h10)) else none
theorem fX4_bestsIn_O {h : eg_H} {l0 : Nat} {l1 : Int32} {rE : Nat} {hE : eg_H} (hF : fX4_bestsIn h l0 l1 = some (rE, hE)) : eg_isO h 4 l0 := (eg_ifn hF).1
set_option maxRecDepth 20000 in
theorem mX4_bestsIn {h : eg_H} {l0 : Nat} {l1 : Int32} {rE : Nat} {hE : eg_H} (hF : fX4_bestsIn h l0 l1 = some (rE, hE)) : eg_Met yX4_bestsIn cX4_bestsIn 2 (some (.array .int)) 2 [.ref l0, .int l1] h (some (.ref rE)) hE := by
  refine eg_enter rfl (Nat.le_of_ble_eq_true rfl) ?_
  show eg_AW (RX4, cX4_bestsIn, 2, 2, none, "bestsIn", (some (.array .int))) (eg_Zm (some (.ref rE)) hE h) (eg_nc hE) (eg_ns hE) h 0 [(0, .ref l0), (1, .int l1)] [] h
  replace hF := (eg_ifn hF).2
  refine eg_aload_n (i := 0) 0 dX4_bestsIn_0 rfl rfl ?_
  replace hF := eg_bind hF; obtain ⟨v1, e2, hF⟩ := hF
  refine eg_getI dX4_bestsIn_1 e2 (Nat.le_of_ble_eq_true rfl) (Nat.le_of_ble_eq_true rfl) rfl ew_849 ?_
  refine eg_iload_n (i := 1) 1 dX4_bestsIn_4 rfl rfl ?_
  refine eg_ic_eq 21 dX4_bestsIn_5 rfl (fun c3 => ?_) (fun c3 => ?_)
  · replace hF := eg_it c3 hF
    refine eg_aload_n (i := 0) 0 dX4_bestsIn_21 rfl rfl ?_
    replace hF := eg_bind hF; obtain ⟨p4, e5, hF⟩ := hF
    refine eg_getR dX4_bestsIn_22 e5 (Nat.le_of_ble_eq_true rfl) (Nat.le_of_ble_eq_true rfl) rfl ew_848 ?_
    exact eg_aretR dX4_bestsIn_25 (Or.inr ⟨_, rfl⟩) hF
  · replace hF := eg_if c3 hF
    refine eg_aload_n (i := 0) 0 dX4_bestsIn_8 rfl rfl ?_
    replace hF := eg_bind hF; obtain ⟨p6, e7, hF⟩ := hF
    refine eg_getR dX4_bestsIn_9 e7 (Nat.le_of_ble_eq_true rfl) (Nat.le_of_ble_eq_true rfl) rfl ew_848 ?_
    refine eg_iconst (v := (0 : Int32)) dX4_bestsIn_12 (by decide) ?_
    replace hF := eg_bind hF; obtain ⟨h8, e9, hF⟩ := hF
    refine eg_callS (n := 2) [.ref p6, .int (0 : Int32)] dX4_bestsIn_13 (mJ7_fill_53178 e9) rfl ew_859 ew_860 ew_117 ew_861 hy_J7_fill_53178.2 rfl (Nat.le_of_ble_eq_true rfl) (Nat.le_of_ble_eq_true rfl) (Nat.le_of_ble_eq_true rfl) ?_
    refine eg_aload_n (i := 0) 0 dX4_bestsIn_16 rfl rfl ?_
    refine eg_iload_n (i := 1) 1 dX4_bestsIn_17 rfl rfl ?_
    replace hF := eg_bind hF; obtain ⟨h10, e11, hF⟩ := hF
    refine eg_putI dX4_bestsIn_18 e11 (Nat.le_of_ble_eq_true rfl) (Nat.le_of_ble_eq_true rfl) rfl ew_849 (Or.inl rfl) ?_
    refine eg_aload_n (i := 0) 0 dX4_bestsIn_21 rfl rfl ?_
    replace hF := eg_bind hF; obtain ⟨p12, e13, hF⟩ := hF
    refine eg_getR dX4_bestsIn_22 e13 (Nat.le_of_ble_eq_true rfl) (Nat.le_of_ble_eq_true rfl) rfl ew_848 ?_
    exact eg_aretR dX4_bestsIn_25 (Or.inr ⟨_, rfl⟩) hF
theorem dX0_rowOf_0 : decode cX0_rowOf 0 = .ok (.iload_n 1, 1) := by decide +kernel
theorem dX0_rowOf_1 : decode cX0_rowOf 1 = .ok (.bipush 10, 2) := by decide +kernel
theorem dX0_rowOf_3 : decode cX0_rowOf 3 = .ok (.idiv, 1) := by decide +kernel
theorem dX0_rowOf_4 : decode cX0_rowOf 4 = .ok (.bipush 6, 2) := by decide +kernel
theorem dX0_rowOf_6 : decode cX0_rowOf 6 = .ok (.imul, 1) := by decide +kernel
theorem dX0_rowOf_7 : decode cX0_rowOf 7 = .ok (.iload_n 1, 1) := by decide +kernel
theorem dX0_rowOf_8 : decode cX0_rowOf 8 = .ok (.bipush 10, 2) := by decide +kernel
theorem dX0_rowOf_10 : decode cX0_rowOf 10 = .ok (.irem, 1) := by decide +kernel
theorem dX0_rowOf_11 : decode cX0_rowOf 11 = .ok (.iadd, 1) := by decide +kernel
theorem dX0_rowOf_12 : decode cX0_rowOf 12 = .ok (.bipush 6, 2) := by decide +kernel
theorem dX0_rowOf_14 : decode cX0_rowOf 14 = .ok (.imul, 1) := by decide +kernel
theorem dX0_rowOf_15 : decode cX0_rowOf 15 = .ok (.iload_n 2, 1) := by decide +kernel
theorem dX0_rowOf_16 : decode cX0_rowOf 16 = .ok (.bipush 10, 2) := by decide +kernel
theorem dX0_rowOf_18 : decode cX0_rowOf 18 = .ok (.idiv, 1) := by decide +kernel
theorem dX0_rowOf_19 : decode cX0_rowOf 19 = .ok (.iadd, 1) := by decide +kernel
theorem dX0_rowOf_20 : decode cX0_rowOf 20 = .ok (.iconst 2, 1) := by decide +kernel
theorem dX0_rowOf_21 : decode cX0_rowOf 21 = .ok (.imul, 1) := by decide +kernel
theorem dX0_rowOf_22 : decode cX0_rowOf 22 = .ok (.iload_n 2, 1) := by decide +kernel
theorem dX0_rowOf_23 : decode cX0_rowOf 23 = .ok (.bipush 10, 2) := by decide +kernel
theorem dX0_rowOf_25 : decode cX0_rowOf 25 = .ok (.irem, 1) := by decide +kernel
theorem dX0_rowOf_26 : decode cX0_rowOf 26 = .ok (.iadd, 1) := by decide +kernel
theorem dX0_rowOf_27 : decode cX0_rowOf 27 = .ok (.istore_n 3, 1) := by decide +kernel
theorem dX0_rowOf_28 : decode cX0_rowOf 28 = .ok (.iload_n 3, 1) := by decide +kernel
theorem dX0_rowOf_29 : decode cX0_rowOf 29 = .ok (.ifCond .lt 12, 3) := by decide +kernel
theorem dX0_rowOf_32 : decode cX0_rowOf 32 = .ok (.iload_n 3, 1) := by decide +kernel
theorem dX0_rowOf_33 : decode cX0_rowOf 33 = .ok (.aload_n 0, 1) := by decide +kernel
theorem dX0_rowOf_34 : decode cX0_rowOf 34 = .ok (.getfield 11, 3) := by decide +kernel
theorem dX0_rowOf_37 : decode cX0_rowOf 37 = .ok (.arraylength, 1) := by decide +kernel
theorem dX0_rowOf_38 : decode cX0_rowOf 38 = .ok (.if_icmp .lt 5, 3) := by decide +kernel
theorem dX0_rowOf_41 : decode cX0_rowOf 41 = .ok (.aconst_null, 1) := by decide +kernel
theorem dX0_rowOf_42 : decode cX0_rowOf 42 = .ok (.areturn, 1) := by decide +kernel
theorem dX0_rowOf_43 : decode cX0_rowOf 43 = .ok (.aload_n 0, 1) := by decide +kernel
theorem dX0_rowOf_44 : decode cX0_rowOf 44 = .ok (.getfield 11, 3) := by decide +kernel
theorem dX0_rowOf_47 : decode cX0_rowOf 47 = .ok (.iload_n 3, 1) := by decide +kernel
theorem dX0_rowOf_48 : decode cX0_rowOf 48 = .ok (.aaload, 1) := by decide +kernel
theorem dX0_rowOf_49 : decode cX0_rowOf 49 = .ok (.astore 4, 2) := by decide +kernel
theorem dX0_rowOf_51 : decode cX0_rowOf 51 = .ok (.aload 4, 2) := by decide +kernel
theorem dX0_rowOf_53 : decode cX0_rowOf 53 = .ok (.ifnonnull 24, 3) := by decide +kernel
theorem dX0_rowOf_56 : decode cX0_rowOf 56 = .ok (.new 9, 3) := by decide +kernel
theorem dX0_rowOf_59 : decode cX0_rowOf 59 = .ok (.dup, 1) := by decide +kernel
theorem dX0_rowOf_60 : decode cX0_rowOf 60 = .ok (.aload_n 0, 1) := by decide +kernel
theorem dX0_rowOf_61 : decode cX0_rowOf 61 = .ok (.getfield 17, 3) := by decide +kernel
theorem dX0_rowOf_64 : decode cX0_rowOf 64 = .ok (.invokespecial 48, 3) := by decide +kernel
theorem dX0_rowOf_67 : decode cX0_rowOf 67 = .ok (.astore 4, 2) := by decide +kernel
theorem dX0_rowOf_69 : decode cX0_rowOf 69 = .ok (.aload_n 0, 1) := by decide +kernel
theorem dX0_rowOf_70 : decode cX0_rowOf 70 = .ok (.getfield 11, 3) := by decide +kernel
theorem dX0_rowOf_73 : decode cX0_rowOf 73 = .ok (.iload_n 3, 1) := by decide +kernel
theorem dX0_rowOf_74 : decode cX0_rowOf 74 = .ok (.aload 4, 2) := by decide +kernel
theorem dX0_rowOf_76 : decode cX0_rowOf 76 = .ok (.aastore, 1) := by decide +kernel
theorem dX0_rowOf_77 : decode cX0_rowOf 77 = .ok (.aload 4, 2) := by decide +kernel
theorem dX0_rowOf_79 : decode cX0_rowOf 79 = .ok (.aload_n 0, 1) := by decide +kernel
theorem dX0_rowOf_80 : decode cX0_rowOf 80 = .ok (.getfield 17, 3) := by decide +kernel
theorem dX0_rowOf_83 : decode cX0_rowOf 83 = .ok (.invokevirtual 51, 3) := by decide +kernel
theorem dX0_rowOf_86 : decode cX0_rowOf 86 = .ok (.areturn, 1) := by decide +kernel
def fX0_rowOf (h : eg_H) (l0 : Nat) (l1 : Int32) (l2 : Int32) : Option (Option Nat × eg_H) :=
  if eg_isO h 0 l0 then (
    (some ((((((((l1 / (10 : Int32)) * (6 : Int32)) + (l1 % (10 : Int32))) * (6 : Int32)) + (l2 / (10 : Int32))) * (2 : Int32)) + (l2 % (10 : Int32))))).bind fun v1 =>
    if v1 < 0 then
      (some (none, h))
    else
      (eg_gR h 0 2 l0).bind fun p4 =>
      (eg_al h p4).bind fun v6 =>
      if v1 < v6 then
        ((eg_gR h 0 2 l0).bind fun p9 =>
        (eg_aQ h 114 p9 v1).bind fun q11 =>
        if q11 = none then
          ((some (eg_nc h, eg_new h 4 (eg_nf 4))).bind fun ⟨p14, h15⟩ =>
          (eg_gI h15 0 3 l0).bind fun v17 =>
          (fX4_init h15 p14 v17).bind fun h19 =>
          (eg_gR h19 0 2 l0).bind fun p21 =>
          (eg_wR h19 4 p21 v1 p14).bind fun h23 =>
          (eg_gI h23 0 3 l0).bind fun v25 =>
          (fX4_bestsIn h23 p14 v25).bind fun ⟨p28, h27⟩ =>
          some ((some p28), h27))
        else
          (eg_gI h 0 3 l0).bind fun v30 =>
          q11.bind fun p32 =>
          (fX4_bestsIn h p32 v30).bind fun ⟨p35, h34⟩ =>
          some ((some p35), h34))
      else
        some (none, h)) else none
theorem fX0_rowOf_O {h : eg_H} {l0 : Nat} {l1 : Int32} {l2 : Int32} {rE : Option Nat} {hE : eg_H} (hF : fX0_rowOf h l0 l1 l2 = some (rE, hE)) : eg_isO h 0 l0 := (eg_ifn hF).1
set_option maxRecDepth 20000 in
theorem mX0_rowOf {h : eg_H} {l0 : Nat} {l1 : Int32} {l2 : Int32} {rE : Option Nat} {hE : eg_H} (hF : fX0_rowOf h l0 l1 l2 = some (rE, hE)) : eg_Met yX0_rowOf cX0_rowOf 5 (some (.array .int)) 3 [.ref l0, .int l1, .int l2] h (some (va_rf rE)) hE := by
  refine eg_enter rfl (Nat.le_of_ble_eq_true rfl) ?_
  show eg_AW (RX0, cX0_rowOf, 5, 3, none, "rowOf", (some (.array .int))) (eg_Zm (some (va_rf rE)) hE h) (eg_nc hE) (eg_ns hE) h 0 [(0, .ref l0), (1, .int l1), (2, .int l2)] [] h
  replace hF := (eg_ifn hF).2
  refine eg_iload_n (i := 1) 1 dX0_rowOf_0 rfl rfl ?_
  refine eg_bipush (v := (10 : Int32)) dX0_rowOf_1 (by decide) ?_
  refine eg_idiv dX0_rowOf_3 (by decide) ?_
  refine eg_bipush (v := (6 : Int32)) dX0_rowOf_4 (by decide) ?_
  refine eg_imul dX0_rowOf_6 ?_
  refine eg_iload_n (i := 1) 1 dX0_rowOf_7 rfl rfl ?_
  refine eg_bipush (v := (10 : Int32)) dX0_rowOf_8 (by decide) ?_
  refine eg_irem dX0_rowOf_10 (by decide) ?_
  refine eg_iadd dX0_rowOf_11 ?_
  refine eg_bipush (v := (6 : Int32)) dX0_rowOf_12 (by decide) ?_
  refine eg_imul dX0_rowOf_14 ?_
  refine eg_iload_n (i := 2) 2 dX0_rowOf_15 rfl rfl ?_
  refine eg_bipush (v := (10 : Int32)) dX0_rowOf_16 (by decide) ?_
  refine eg_idiv dX0_rowOf_18 (by decide) ?_
  refine eg_iadd dX0_rowOf_19 ?_
  refine eg_iconst (v := (2 : Int32)) dX0_rowOf_20 (by decide) ?_
  refine eg_imul dX0_rowOf_21 ?_
  refine eg_iload_n (i := 2) 2 dX0_rowOf_22 rfl rfl ?_
  refine eg_bipush (v := (10 : Int32)) dX0_rowOf_23 (by decide) ?_
  refine eg_irem dX0_rowOf_25 (by decide) ?_
  refine eg_iadd dX0_rowOf_26 ?_
  replace hF := eg_bind hF; obtain ⟨v1, e2, hF⟩ := hF
  replace e2 := Option.some.inj e2
  rw [e2]
  refine eg_istore_n (i := 3) [(3, .int v1), (0, .ref l0), (1, .int l1), (2, .int l2)] dX0_rowOf_27 rfl (Nat.le_of_ble_eq_true rfl) rfl ?_
  refine eg_iload_n (i := 3) 0 dX0_rowOf_28 rfl rfl ?_
  refine eg_if_lt 41 dX0_rowOf_29 rfl (fun c3 => ?_) (fun c3 => ?_)
  · replace hF := eg_it c3 hF
    refine eg_null dX0_rowOf_41 ?_
    exact eg_aretE (r := none) dX0_rowOf_42 (Or.inr ⟨_, rfl⟩) hF
  · replace hF := eg_if c3 hF
    refine eg_iload_n (i := 3) 0 dX0_rowOf_32 rfl rfl ?_
    refine eg_aload_n (i := 0) 1 dX0_rowOf_33 rfl rfl ?_
    replace hF := eg_bind hF; obtain ⟨p4, e5, hF⟩ := hF
    refine eg_getR dX0_rowOf_34 e5 (Nat.le_of_ble_eq_true rfl) (Nat.le_of_ble_eq_true rfl) rfl ew_278 ?_
    replace hF := eg_bind hF; obtain ⟨v6, e7, hF⟩ := hF
    refine eg_alen dX0_rowOf_37 e7 ?_
    refine eg_ic_lt 43 dX0_rowOf_38 rfl (fun c8 => ?_) (fun c8 => ?_)
    · replace hF := eg_it c8 hF
      refine eg_aload_n (i := 0) 1 dX0_rowOf_43 rfl rfl ?_
      replace hF := eg_bind hF; obtain ⟨p9, e10, hF⟩ := hF
      refine eg_getR dX0_rowOf_44 e10 (Nat.le_of_ble_eq_true rfl) (Nat.le_of_ble_eq_true rfl) rfl ew_278 ?_
      refine eg_iload_n (i := 3) 0 dX0_rowOf_47 rfl rfl ?_
      replace hF := eg_bind hF; obtain ⟨q11, e12, hF⟩ := hF
      refine eg_aaldq (c := 4) dX0_rowOf_48 e12 (Nat.le_of_ble_eq_true rfl) (Nat.le_of_ble_eq_true rfl) ?_
      refine eg_astoreq (i := 4) [(4, va_rf q11), (3, .int v1), (0, .ref l0), (1, .int l1), (2, .int l2)] dX0_rowOf_49 (Nat.le_of_ble_eq_true rfl) rfl ?_
      refine eg_aloadq (i := 4) 0 dX0_rowOf_51 rfl ?_
      refine eg_ifnonnull (r := q11) 77 dX0_rowOf_53 rfl (fun c13 => ?_) (fun c13 => ?_)
      · replace hF := eg_it c13 hF
        replace hF := eg_bind hF; obtain ⟨⟨p14, h15⟩, e16, hF⟩ := hF
        refine eg_newO (c := 4) dX0_rowOf_56 (Nat.le_of_ble_eq_true rfl) ew_274 ew_843 ew_125 ?_
        replace e16 := Prod.mk.inj (Option.some.inj e16)
        rw [e16.2, e16.1]
        refine eg_dup dX0_rowOf_59 rfl ?_
        refine eg_aload_n (i := 0) 2 dX0_rowOf_60 rfl rfl ?_
        replace hF := eg_bind hF; obtain ⟨v17, e18, hF⟩ := hF
        refine eg_getI dX0_rowOf_61 e18 (Nat.le_of_ble_eq_true rfl) (Nat.le_of_ble_eq_true rfl) rfl ew_279 ?_
        replace hF := eg_bind hF; obtain ⟨h19, e20, hF⟩ := hF
        refine eg_callI (n := 1) [.int v17] dX0_rowOf_64 (mX4_init e20) rfl ew_844 ew_845 ew_125 ew_846 rfl hy_X4_init.2 rfl (Nat.le_of_ble_eq_true rfl) (Nat.le_of_ble_eq_true rfl) (Nat.le_of_ble_eq_true rfl) ?_
        refine eg_astore (i := 4) [(4, .ref p14), (3, .int v1), (0, .ref l0), (1, .int l1), (2, .int l2)] dX0_rowOf_67 (Nat.le_of_ble_eq_true rfl) rfl ?_
        refine eg_aload_n (i := 0) 2 dX0_rowOf_69 rfl rfl ?_
        replace hF := eg_bind hF; obtain ⟨p21, e22, hF⟩ := hF
        refine eg_getR dX0_rowOf_70 e22 (Nat.le_of_ble_eq_true rfl) (Nat.le_of_ble_eq_true rfl) rfl ew_278 ?_
        refine eg_iload_n (i := 3) 1 dX0_rowOf_73 rfl rfl ?_
        refine eg_aload (i := 4) 0 dX0_rowOf_74 rfl ?_
        replace hF := eg_bind hF; obtain ⟨h23, e24, hF⟩ := hF
        refine eg_aast dX0_rowOf_76 e24 (Nat.le_of_ble_eq_true rfl) (Nat.le_of_ble_eq_true rfl) ?_
        refine eg_aload (i := 4) 0 dX0_rowOf_77 rfl ?_
        refine eg_aload_n (i := 0) 2 dX0_rowOf_79 rfl rfl ?_
        replace hF := eg_bind hF; obtain ⟨v25, e26, hF⟩ := hF
        refine eg_getI dX0_rowOf_80 e26 (Nat.le_of_ble_eq_true rfl) (Nat.le_of_ble_eq_true rfl) rfl ew_279 ?_
        replace hF := eg_bind hF; obtain ⟨⟨p28, h27⟩, e29, hF⟩ := hF
        refine eg_callV (c := 4) (n := 1) [.int v25] dX0_rowOf_83 (mX4_bestsIn e29) rfl (fX4_bestsIn_O e29) (Nat.le_of_ble_eq_true rfl) rfl ew_855 ew_856 ew_857 ew_125 ew_858 hy_X4_bestsIn rfl (Nat.le_of_ble_eq_true rfl) (Nat.le_of_ble_eq_true rfl) (Nat.le_of_ble_eq_true rfl) ?_
        exact eg_aretE (r := (some p28)) dX0_rowOf_86 (Or.inr ⟨_, rfl⟩) hF
      · replace hF := eg_if c13 hF
        refine eg_aloadq (i := 4) 0 dX0_rowOf_77 rfl ?_
        refine eg_aload_n (i := 0) 2 dX0_rowOf_79 rfl rfl ?_
        replace hF := eg_bind hF; obtain ⟨v30, e31, hF⟩ := hF
        refine eg_getI dX0_rowOf_80 e31 (Nat.le_of_ble_eq_true rfl) (Nat.le_of_ble_eq_true rfl) rfl ew_279 ?_
        replace hF := eg_bind hF; obtain ⟨p32, e33, hF⟩ := hF
        subst e33
        replace hF := eg_bind hF; obtain ⟨⟨p35, h34⟩, e36, hF⟩ := hF
        refine eg_callV (c := 4) (n := 1) [.int v30] dX0_rowOf_83 (mX4_bestsIn e36) rfl (fX4_bestsIn_O e36) (Nat.le_of_ble_eq_true rfl) rfl ew_855 ew_856 ew_857 ew_125 ew_858 hy_X4_bestsIn rfl (Nat.le_of_ble_eq_true rfl) (Nat.le_of_ble_eq_true rfl) (Nat.le_of_ble_eq_true rfl) ?_
        exact eg_aretE (r := (some p35)) dX0_rowOf_86 (Or.inr ⟨_, rfl⟩) hF
    · replace hF := eg_if c8 hF
      refine eg_null dX0_rowOf_41 ?_
      exact eg_aretE (r := none) dX0_rowOf_42 (Or.inr ⟨_, rfl⟩) hF
theorem dX7_ofPerson_0 : decode cX7_ofPerson 0 = .ok (.iconst 4, 1) := by decide +kernel
theorem dX7_ofPerson_1 : decode cX7_ofPerson 1 = .ok (.iconst 4, 1) := by decide +kernel
theorem dX7_ofPerson_2 : decode cX7_ofPerson 2 = .ok (.iload_n 1, 1) := by decide +kernel
theorem dX7_ofPerson_3 : decode cX7_ofPerson 3 = .ok (.imul, 1) := by decide +kernel
theorem dX7_ofPerson_4 : decode cX7_ofPerson 4 = .ok (.iadd, 1) := by decide +kernel
theorem dX7_ofPerson_5 : decode cX7_ofPerson 5 = .ok (.iload_n 2, 1) := by decide +kernel
theorem dX7_ofPerson_6 : decode cX7_ofPerson 6 = .ok (.iadd, 1) := by decide +kernel
theorem dX7_ofPerson_7 : decode cX7_ofPerson 7 = .ok (.istore_n 3, 1) := by decide +kernel
theorem dX7_ofPerson_8 : decode cX7_ofPerson 8 = .ok (.iload_n 3, 1) := by decide +kernel
theorem dX7_ofPerson_9 : decode cX7_ofPerson 9 = .ok (.ifCond .lt 12, 3) := by decide +kernel
theorem dX7_ofPerson_12 : decode cX7_ofPerson 12 = .ok (.iload_n 3, 1) := by decide +kernel
theorem dX7_ofPerson_13 : decode cX7_ofPerson 13 = .ok (.aload_n 0, 1) := by decide +kernel
theorem dX7_ofPerson_14 : decode cX7_ofPerson 14 = .ok (.getfield 9, 3) := by decide +kernel
theorem dX7_ofPerson_17 : decode cX7_ofPerson 17 = .ok (.arraylength, 1) := by decide +kernel
theorem dX7_ofPerson_18 : decode cX7_ofPerson 18 = .ok (.if_icmp .lt 7, 3) := by decide +kernel
theorem dX7_ofPerson_21 : decode cX7_ofPerson 21 = .ok (.iconst 0, 1) := by decide +kernel
theorem dX7_ofPerson_22 : decode cX7_ofPerson 22 = .ok (.goto 9, 3) := by decide +kernel
theorem dX7_ofPerson_25 : decode cX7_ofPerson 25 = .ok (.aload_n 0, 1) := by decide +kernel
theorem dX7_ofPerson_26 : decode cX7_ofPerson 26 = .ok (.getfield 9, 3) := by decide +kernel
theorem dX7_ofPerson_29 : decode cX7_ofPerson 29 = .ok (.iload_n 3, 1) := by decide +kernel
theorem dX7_ofPerson_30 : decode cX7_ofPerson 30 = .ok (.iaload, 1) := by decide +kernel
theorem dX7_ofPerson_31 : decode cX7_ofPerson 31 = .ok (.ireturn, 1) := by decide +kernel
def fX7_ofPerson (h : eg_H) (l0 : Nat) (l1 : Int32) (l2 : Int32) : Option (Int32 × eg_H) :=
  if eg_isO h 7 l0 then (
    (some ((((4 : Int32) + ((4 : Int32) * l1)) + l2))).bind fun v1 =>
    if v1 < 0 then
      (some ((0 : Int32), h))
    else
      (eg_gR h 7 0 l0).bind fun p4 =>
      (eg_al h p4).bind fun v6 =>
      if v1 < v6 then
        ((eg_gR h 7 0 l0).bind fun p9 =>
        (eg_aI h 100 p9 v1).bind fun v11 =>
        some (v11, h))
      else
        some ((0 : Int32), h)) else none
theorem fX7_ofPerson_O {h : eg_H} {l0 : Nat} {l1 : Int32} {l2 : Int32} {rE : Int32} {hE : eg_H} (hF : fX7_ofPerson h l0 l1 l2 = some (rE, hE)) : eg_isO h 7 l0 := (eg_ifn hF).1
set_option maxRecDepth 20000 in
theorem mX7_ofPerson {h : eg_H} {l0 : Nat} {l1 : Int32} {l2 : Int32} {rE : Int32} {hE : eg_H} (hF : fX7_ofPerson h l0 l1 l2 = some (rE, hE)) : eg_Met yX7_ofPerson cX7_ofPerson 4 (some .int) 1 [.ref l0, .int l1, .int l2] h (some (.int rE)) hE := by
  refine eg_enter rfl (Nat.le_of_ble_eq_true rfl) ?_
  show eg_AW (RX7, cX7_ofPerson, 4, 1, none, "ofPerson", (some .int)) (eg_Zm (some (.int rE)) hE h) (eg_nc hE) (eg_ns hE) h 0 [(0, .ref l0), (1, .int l1), (2, .int l2)] [] h
  replace hF := (eg_ifn hF).2
  refine eg_iconst (v := (4 : Int32)) dX7_ofPerson_0 (by decide) ?_
  refine eg_iconst (v := (4 : Int32)) dX7_ofPerson_1 (by decide) ?_
  refine eg_iload_n (i := 1) 1 dX7_ofPerson_2 rfl rfl ?_
  refine eg_imul dX7_ofPerson_3 ?_
  refine eg_iadd dX7_ofPerson_4 ?_
  refine eg_iload_n (i := 2) 2 dX7_ofPerson_5 rfl rfl ?_
  refine eg_iadd dX7_ofPerson_6 ?_
  replace hF := eg_bind hF; obtain ⟨v1, e2, hF⟩ := hF
  replace e2 := Option.some.inj e2
  rw [e2]
  refine eg_istore_n (i := 3) [(3, .int v1), (0, .ref l0), (1, .int l1), (2, .int l2)] dX7_ofPerson_7 rfl (Nat.le_of_ble_eq_true rfl) rfl ?_
  refine eg_iload_n (i := 3) 0 dX7_ofPerson_8 rfl rfl ?_
  refine eg_if_lt 21 dX7_ofPerson_9 rfl (fun c3 => ?_) (fun c3 => ?_)
  · replace hF := eg_it c3 hF
    refine eg_iconst (v := (0 : Int32)) dX7_ofPerson_21 (by decide) ?_
    refine eg_goto 31 dX7_ofPerson_22 rfl ?_
    exact eg_iretE dX7_ofPerson_31 hF
  · replace hF := eg_if c3 hF
    refine eg_iload_n (i := 3) 0 dX7_ofPerson_12 rfl rfl ?_
    refine eg_aload_n (i := 0) 1 dX7_ofPerson_13 rfl rfl ?_
    replace hF := eg_bind hF; obtain ⟨p4, e5, hF⟩ := hF
    refine eg_getR dX7_ofPerson_14 e5 (Nat.le_of_ble_eq_true rfl) (Nat.le_of_ble_eq_true rfl) rfl ew_201 ?_
    replace hF := eg_bind hF; obtain ⟨v6, e7, hF⟩ := hF
    refine eg_alen dX7_ofPerson_17 e7 ?_
    refine eg_ic_lt 25 dX7_ofPerson_18 rfl (fun c8 => ?_) (fun c8 => ?_)
    · replace hF := eg_it c8 hF
      refine eg_aload_n (i := 0) 1 dX7_ofPerson_25 rfl rfl ?_
      replace hF := eg_bind hF; obtain ⟨p9, e10, hF⟩ := hF
      refine eg_getR dX7_ofPerson_26 e10 (Nat.le_of_ble_eq_true rfl) (Nat.le_of_ble_eq_true rfl) rfl ew_201 ?_
      refine eg_iload_n (i := 3) 0 dX7_ofPerson_29 rfl rfl ?_
      replace hF := eg_bind hF; obtain ⟨v11, e12, hF⟩ := hF
      refine eg_iald dX7_ofPerson_30 e12 ?_
      exact eg_iretE dX7_ofPerson_31 hF
    · replace hF := eg_if c8 hF
      refine eg_iconst (v := (0 : Int32)) dX7_ofPerson_21 (by decide) ?_
      refine eg_goto 31 dX7_ofPerson_22 rfl ?_
      exact eg_iretE dX7_ofPerson_31 hF
theorem dX7_blows_0 : decode cX7_blows 0 = .ok (.iload_n 1, 1) := by decide +kernel
theorem dX7_blows_1 : decode cX7_blows 1 = .ok (.aload_n 0, 1) := by decide +kernel
theorem dX7_blows_2 : decode cX7_blows 2 = .ok (.getfield 9, 3) := by decide +kernel
theorem dX7_blows_5 : decode cX7_blows 5 = .ok (.iconst 1, 1) := by decide +kernel
theorem dX7_blows_6 : decode cX7_blows 6 = .ok (.iaload, 1) := by decide +kernel
theorem dX7_blows_7 : decode cX7_blows 7 = .ok (.if_icmp .ne 7, 3) := by decide +kernel
theorem dX7_blows_10 : decode cX7_blows 10 = .ok (.iload_n 2, 1) := by decide +kernel
theorem dX7_blows_11 : decode cX7_blows 11 = .ok (.goto 5, 3) := by decide +kernel
theorem dX7_blows_14 : decode cX7_blows 14 = .ok (.iload_n 2, 1) := by decide +kernel
theorem dX7_blows_15 : decode cX7_blows 15 = .ok (.ineg, 1) := by decide +kernel
theorem dX7_blows_16 : decode cX7_blows 16 = .ok (.ireturn, 1) := by decide +kernel
def fX7_blows (h : eg_H) (l0 : Nat) (l1 : Int32) (l2 : Int32) : Option (Int32 × eg_H) :=
  if eg_isO h 7 l0 then (
    (eg_gR h 7 0 l0).bind fun p1 =>
    (eg_aI h 100 p1 (1 : Int32)).bind fun v3 =>
    if l1 = v3 then
      (some (l2, h))
    else
      some ((-l2), h)) else none
theorem fX7_blows_O {h : eg_H} {l0 : Nat} {l1 : Int32} {l2 : Int32} {rE : Int32} {hE : eg_H} (hF : fX7_blows h l0 l1 l2 = some (rE, hE)) : eg_isO h 7 l0 := (eg_ifn hF).1
set_option maxRecDepth 20000 in
theorem mX7_blows {h : eg_H} {l0 : Nat} {l1 : Int32} {l2 : Int32} {rE : Int32} {hE : eg_H} (hF : fX7_blows h l0 l1 l2 = some (rE, hE)) : eg_Met yX7_blows cX7_blows 3 (some .int) 1 [.ref l0, .int l1, .int l2] h (some (.int rE)) hE := by
  refine eg_enter rfl (Nat.le_of_ble_eq_true rfl) ?_
  show eg_AW (RX7, cX7_blows, 3, 1, none, "blows", (some .int)) (eg_Zm (some (.int rE)) hE h) (eg_nc hE) (eg_ns hE) h 0 [(0, .ref l0), (1, .int l1), (2, .int l2)] [] h
  replace hF := (eg_ifn hF).2
  refine eg_iload_n (i := 1) 1 dX7_blows_0 rfl rfl ?_
  refine eg_aload_n (i := 0) 0 dX7_blows_1 rfl rfl ?_
  replace hF := eg_bind hF; obtain ⟨p1, e2, hF⟩ := hF
  refine eg_getR dX7_blows_2 e2 (Nat.le_of_ble_eq_true rfl) (Nat.le_of_ble_eq_true rfl) rfl ew_201 ?_
  refine eg_iconst (v := (1 : Int32)) dX7_blows_5 (by decide) ?_
  replace hF := eg_bind hF; obtain ⟨v3, e4, hF⟩ := hF
  refine eg_iald dX7_blows_6 e4 ?_
  refine eg_ic_ne 14 dX7_blows_7 rfl (fun c5 => ?_) (fun c5 => ?_)
  · replace hF := eg_it c5 hF
    refine eg_iload_n (i := 2) 2 dX7_blows_10 rfl rfl ?_
    refine eg_goto 16 dX7_blows_11 rfl ?_
    exact eg_iretE dX7_blows_16 hF
  · replace hF := eg_if c5 hF
    refine eg_iload_n (i := 2) 2 dX7_blows_14 rfl rfl ?_
    refine eg_ineg dX7_blows_15 ?_
    exact eg_iretE dX7_blows_16 hF
theorem dX7_ofEgg_0 : decode cX7_ofEgg 0 = .ok (.bipush 28, 2) := by decide +kernel
theorem dX7_ofEgg_2 : decode cX7_ofEgg 2 = .ok (.iconst 2, 1) := by decide +kernel
theorem dX7_ofEgg_3 : decode cX7_ofEgg 3 = .ok (.iload_n 1, 1) := by decide +kernel
theorem dX7_ofEgg_4 : decode cX7_ofEgg 4 = .ok (.imul, 1) := by decide +kernel
theorem dX7_ofEgg_5 : decode cX7_ofEgg 5 = .ok (.iadd, 1) := by decide +kernel
theorem dX7_ofEgg_6 : decode cX7_ofEgg 6 = .ok (.iload_n 2, 1) := by decide +kernel
theorem dX7_ofEgg_7 : decode cX7_ofEgg 7 = .ok (.iadd, 1) := by decide +kernel
theorem dX7_ofEgg_8 : decode cX7_ofEgg 8 = .ok (.istore_n 3, 1) := by decide +kernel
theorem dX7_ofEgg_9 : decode cX7_ofEgg 9 = .ok (.iload_n 3, 1) := by decide +kernel
theorem dX7_ofEgg_10 : decode cX7_ofEgg 10 = .ok (.ifCond .lt 12, 3) := by decide +kernel
theorem dX7_ofEgg_13 : decode cX7_ofEgg 13 = .ok (.iload_n 3, 1) := by decide +kernel
theorem dX7_ofEgg_14 : decode cX7_ofEgg 14 = .ok (.aload_n 0, 1) := by decide +kernel
theorem dX7_ofEgg_15 : decode cX7_ofEgg 15 = .ok (.getfield 9, 3) := by decide +kernel
theorem dX7_ofEgg_18 : decode cX7_ofEgg 18 = .ok (.arraylength, 1) := by decide +kernel
theorem dX7_ofEgg_19 : decode cX7_ofEgg 19 = .ok (.if_icmp .lt 7, 3) := by decide +kernel
theorem dX7_ofEgg_22 : decode cX7_ofEgg 22 = .ok (.iconst 0, 1) := by decide +kernel
theorem dX7_ofEgg_23 : decode cX7_ofEgg 23 = .ok (.goto 9, 3) := by decide +kernel
theorem dX7_ofEgg_26 : decode cX7_ofEgg 26 = .ok (.aload_n 0, 1) := by decide +kernel
theorem dX7_ofEgg_27 : decode cX7_ofEgg 27 = .ok (.getfield 9, 3) := by decide +kernel
theorem dX7_ofEgg_30 : decode cX7_ofEgg 30 = .ok (.iload_n 3, 1) := by decide +kernel
theorem dX7_ofEgg_31 : decode cX7_ofEgg 31 = .ok (.iaload, 1) := by decide +kernel
theorem dX7_ofEgg_32 : decode cX7_ofEgg 32 = .ok (.ireturn, 1) := by decide +kernel
def fX7_ofEgg (h : eg_H) (l0 : Nat) (l1 : Int32) (l2 : Int32) : Option (Int32 × eg_H) :=
  if eg_isO h 7 l0 then (
    (some ((((28 : Int32) + ((2 : Int32) * l1)) + l2))).bind fun v1 =>
    if v1 < 0 then
      (some ((0 : Int32), h))
    else
      (eg_gR h 7 0 l0).bind fun p4 =>
      (eg_al h p4).bind fun v6 =>
      if v1 < v6 then
        ((eg_gR h 7 0 l0).bind fun p9 =>
        (eg_aI h 100 p9 v1).bind fun v11 =>
        some (v11, h))
      else
        some ((0 : Int32), h)) else none
theorem fX7_ofEgg_O {h : eg_H} {l0 : Nat} {l1 : Int32} {l2 : Int32} {rE : Int32} {hE : eg_H} (hF : fX7_ofEgg h l0 l1 l2 = some (rE, hE)) : eg_isO h 7 l0 := (eg_ifn hF).1
set_option maxRecDepth 20000 in
theorem mX7_ofEgg {h : eg_H} {l0 : Nat} {l1 : Int32} {l2 : Int32} {rE : Int32} {hE : eg_H} (hF : fX7_ofEgg h l0 l1 l2 = some (rE, hE)) : eg_Met yX7_ofEgg cX7_ofEgg 4 (some .int) 1 [.ref l0, .int l1, .int l2] h (some (.int rE)) hE := by
  refine eg_enter rfl (Nat.le_of_ble_eq_true rfl) ?_
  show eg_AW (RX7, cX7_ofEgg, 4, 1, none, "ofEgg", (some .int)) (eg_Zm (some (.int rE)) hE h) (eg_nc hE) (eg_ns hE) h 0 [(0, .ref l0), (1, .int l1), (2, .int l2)] [] h
  replace hF := (eg_ifn hF).2
  refine eg_bipush (v := (28 : Int32)) dX7_ofEgg_0 (by decide) ?_
  refine eg_iconst (v := (2 : Int32)) dX7_ofEgg_2 (by decide) ?_
  refine eg_iload_n (i := 1) 1 dX7_ofEgg_3 rfl rfl ?_
  refine eg_imul dX7_ofEgg_4 ?_
  refine eg_iadd dX7_ofEgg_5 ?_
  refine eg_iload_n (i := 2) 2 dX7_ofEgg_6 rfl rfl ?_
  refine eg_iadd dX7_ofEgg_7 ?_
  replace hF := eg_bind hF; obtain ⟨v1, e2, hF⟩ := hF
  replace e2 := Option.some.inj e2
  rw [e2]
  refine eg_istore_n (i := 3) [(3, .int v1), (0, .ref l0), (1, .int l1), (2, .int l2)] dX7_ofEgg_8 rfl (Nat.le_of_ble_eq_true rfl) rfl ?_
  refine eg_iload_n (i := 3) 0 dX7_ofEgg_9 rfl rfl ?_
  refine eg_if_lt 22 dX7_ofEgg_10 rfl (fun c3 => ?_) (fun c3 => ?_)
  · replace hF := eg_it c3 hF
    refine eg_iconst (v := (0 : Int32)) dX7_ofEgg_22 (by decide) ?_
    refine eg_goto 32 dX7_ofEgg_23 rfl ?_
    exact eg_iretE dX7_ofEgg_32 hF
  · replace hF := eg_if c3 hF
    refine eg_iload_n (i := 3) 0 dX7_ofEgg_13 rfl rfl ?_
    refine eg_aload_n (i := 0) 1 dX7_ofEgg_14 rfl rfl ?_
    replace hF := eg_bind hF; obtain ⟨p4, e5, hF⟩ := hF
    refine eg_getR dX7_ofEgg_15 e5 (Nat.le_of_ble_eq_true rfl) (Nat.le_of_ble_eq_true rfl) rfl ew_201 ?_
    replace hF := eg_bind hF; obtain ⟨v6, e7, hF⟩ := hF
    refine eg_alen dX7_ofEgg_18 e7 ?_
    refine eg_ic_lt 26 dX7_ofEgg_19 rfl (fun c8 => ?_) (fun c8 => ?_)
    · replace hF := eg_it c8 hF
      refine eg_aload_n (i := 0) 1 dX7_ofEgg_26 rfl rfl ?_
      replace hF := eg_bind hF; obtain ⟨p9, e10, hF⟩ := hF
      refine eg_getR dX7_ofEgg_27 e10 (Nat.le_of_ble_eq_true rfl) (Nat.le_of_ble_eq_true rfl) rfl ew_201 ?_
      refine eg_iload_n (i := 3) 0 dX7_ofEgg_30 rfl rfl ?_
      replace hF := eg_bind hF; obtain ⟨v11, e12, hF⟩ := hF
      refine eg_iald dX7_ofEgg_31 e12 ?_
      exact eg_iretE dX7_ofEgg_32 hF
    · replace hF := eg_if c8 hF
      refine eg_iconst (v := (0 : Int32)) dX7_ofEgg_22 (by decide) ?_
      refine eg_goto 32 dX7_ofEgg_23 rfl ?_
      exact eg_iretE dX7_ofEgg_32 hF
theorem dX7_limit_0 : decode cX7_limit 0 = .ok (.aload_n 0, 1) := by decide +kernel
theorem dX7_limit_1 : decode cX7_limit 1 = .ok (.iload_n 1, 1) := by decide +kernel
theorem dX7_limit_2 : decode cX7_limit 2 = .ok (.iconst 1, 1) := by decide +kernel
theorem dX7_limit_3 : decode cX7_limit 3 = .ok (.invokevirtual 33, 3) := by decide +kernel
theorem dX7_limit_6 : decode cX7_limit 6 = .ok (.iconst 1, 1) := by decide +kernel
theorem dX7_limit_7 : decode cX7_limit 7 = .ok (.if_icmp .ne 14, 3) := by decide +kernel
theorem dX7_limit_10 : decode cX7_limit 10 = .ok (.aload_n 0, 1) := by decide +kernel
theorem dX7_limit_11 : decode cX7_limit 11 = .ok (.iload_n 1, 1) := by decide +kernel
theorem dX7_limit_12 : decode cX7_limit 12 = .ok (.iconst 0, 1) := by decide +kernel
theorem dX7_limit_13 : decode cX7_limit 13 = .ok (.invokevirtual 33, 3) := by decide +kernel
theorem dX7_limit_16 : decode cX7_limit 16 = .ok (.iconst 2, 1) := by decide +kernel
theorem dX7_limit_17 : decode cX7_limit 17 = .ok (.idiv, 1) := by decide +kernel
theorem dX7_limit_18 : decode cX7_limit 18 = .ok (.goto 9, 3) := by decide +kernel
theorem dX7_limit_21 : decode cX7_limit 21 = .ok (.aload_n 0, 1) := by decide +kernel
theorem dX7_limit_22 : decode cX7_limit 22 = .ok (.iload_n 1, 1) := by decide +kernel
theorem dX7_limit_23 : decode cX7_limit 23 = .ok (.iconst 0, 1) := by decide +kernel
theorem dX7_limit_24 : decode cX7_limit 24 = .ok (.invokevirtual 33, 3) := by decide +kernel
theorem dX7_limit_27 : decode cX7_limit 27 = .ok (.ireturn, 1) := by decide +kernel
def fX7_limit (h : eg_H) (l0 : Nat) (l1 : Int32) : Option (Int32 × eg_H) :=
  if eg_isO h 7 l0 then (
    (fX7_ofEgg h l0 l1 (1 : Int32)).bind fun ⟨v2, h1⟩ =>
    if v2 = (1 : Int32) then
      ((fX7_ofEgg h1 l0 l1 (0 : Int32)).bind fun ⟨v6, h5⟩ =>
      some ((v6 / (2 : Int32)), h5))
    else
      (fX7_ofEgg h1 l0 l1 (0 : Int32)).bind fun ⟨v9, h8⟩ =>
      some (v9, h8)) else none
theorem fX7_limit_O {h : eg_H} {l0 : Nat} {l1 : Int32} {rE : Int32} {hE : eg_H} (hF : fX7_limit h l0 l1 = some (rE, hE)) : eg_isO h 7 l0 := (eg_ifn hF).1
set_option maxRecDepth 20000 in
theorem mX7_limit {h : eg_H} {l0 : Nat} {l1 : Int32} {rE : Int32} {hE : eg_H} (hF : fX7_limit h l0 l1 = some (rE, hE)) : eg_Met yX7_limit cX7_limit 2 (some .int) 2 [.ref l0, .int l1] h (some (.int rE)) hE := by
  refine eg_enter rfl (Nat.le_of_ble_eq_true rfl) ?_
  show eg_AW (RX7, cX7_limit, 2, 2, none, "limit", (some .int)) (eg_Zm (some (.int rE)) hE h) (eg_nc hE) (eg_ns hE) h 0 [(0, .ref l0), (1, .int l1)] [] h
  replace hF := (eg_ifn hF).2
  refine eg_aload_n (i := 0) 0 dX7_limit_0 rfl rfl ?_
  refine eg_iload_n (i := 1) 1 dX7_limit_1 rfl rfl ?_
  refine eg_iconst (v := (1 : Int32)) dX7_limit_2 (by decide) ?_
  replace hF := eg_bind hF; obtain ⟨⟨v2, h1⟩, e3, hF⟩ := hF
  refine eg_callV (c := 7) (n := 2) [.int l1, .int (1 : Int32)] dX7_limit_3 (mX7_ofEgg e3) rfl (fX7_ofEgg_O e3) (Nat.le_of_ble_eq_true rfl) rfl ew_810 ew_700 ew_701 ew_104 ew_702 hy_X7_ofEgg rfl (Nat.le_of_ble_eq_true rfl) (Nat.le_of_ble_eq_true rfl) (Nat.le_of_ble_eq_true rfl) ?_
  refine eg_iconst (v := (1 : Int32)) dX7_limit_6 (by decide) ?_
  refine eg_ic_ne 21 dX7_limit_7 rfl (fun c4 => ?_) (fun c4 => ?_)
  · replace hF := eg_it c4 hF
    refine eg_aload_n (i := 0) 0 dX7_limit_10 rfl rfl ?_
    refine eg_iload_n (i := 1) 1 dX7_limit_11 rfl rfl ?_
    refine eg_iconst (v := (0 : Int32)) dX7_limit_12 (by decide) ?_
    replace hF := eg_bind hF; obtain ⟨⟨v6, h5⟩, e7, hF⟩ := hF
    refine eg_callV (c := 7) (n := 2) [.int l1, .int (0 : Int32)] dX7_limit_13 (mX7_ofEgg e7) rfl (fX7_ofEgg_O e7) (Nat.le_of_ble_eq_true rfl) rfl ew_810 ew_700 ew_701 ew_104 ew_702 hy_X7_ofEgg rfl (Nat.le_of_ble_eq_true rfl) (Nat.le_of_ble_eq_true rfl) (Nat.le_of_ble_eq_true rfl) ?_
    refine eg_iconst (v := (2 : Int32)) dX7_limit_16 (by decide) ?_
    refine eg_idiv dX7_limit_17 (by decide) ?_
    refine eg_goto 27 dX7_limit_18 rfl ?_
    exact eg_iretE dX7_limit_27 hF
  · replace hF := eg_if c4 hF
    refine eg_aload_n (i := 0) 0 dX7_limit_21 rfl rfl ?_
    refine eg_iload_n (i := 1) 1 dX7_limit_22 rfl rfl ?_
    refine eg_iconst (v := (0 : Int32)) dX7_limit_23 (by decide) ?_
    replace hF := eg_bind hF; obtain ⟨⟨v9, h8⟩, e10, hF⟩ := hF
    refine eg_callV (c := 7) (n := 2) [.int l1, .int (0 : Int32)] dX7_limit_24 (mX7_ofEgg e10) rfl (fX7_ofEgg_O e10) (Nat.le_of_ble_eq_true rfl) rfl ew_810 ew_700 ew_701 ew_104 ew_702 hy_X7_ofEgg rfl (Nat.le_of_ble_eq_true rfl) (Nat.le_of_ble_eq_true rfl) (Nat.le_of_ble_eq_true rfl) ?_
    exact eg_iretE dX7_limit_27 hF
theorem dX11_take_0 : decode cX11_take 0 = .ok (.iload_n 1, 1) := by decide +kernel
theorem dX11_take_1 : decode cX11_take 1 = .ok (.bipush 10, 2) := by decide +kernel
theorem dX11_take_3 : decode cX11_take 3 = .ok (.idiv, 1) := by decide +kernel
theorem dX11_take_4 : decode cX11_take 4 = .ok (.istore 4, 2) := by decide +kernel
theorem dX11_take_6 : decode cX11_take 6 = .ok (.iload_n 1, 1) := by decide +kernel
theorem dX11_take_7 : decode cX11_take 7 = .ok (.bipush 10, 2) := by decide +kernel
theorem dX11_take_9 : decode cX11_take 9 = .ok (.irem, 1) := by decide +kernel
theorem dX11_take_10 : decode cX11_take 10 = .ok (.istore 5, 2) := by decide +kernel
theorem dX11_take_12 : decode cX11_take 12 = .ok (.aload_n 0, 1) := by decide +kernel
theorem dX11_take_13 : decode cX11_take 13 = .ok (.aload_n 0, 1) := by decide +kernel
theorem dX11_take_14 : decode cX11_take 14 = .ok (.getfield 42, 3) := by decide +kernel
theorem dX11_take_17 : decode cX11_take 17 = .ok (.iload 4, 2) := by decide +kernel
theorem dX11_take_19 : decode cX11_take 19 = .ok (.iconst 0, 1) := by decide +kernel
theorem dX11_take_20 : decode cX11_take 20 = .ok (.invokevirtual 46, 3) := by decide +kernel
theorem dX11_take_23 : decode cX11_take 23 = .ok (.putfield 19, 3) := by decide +kernel
theorem dX11_take_26 : decode cX11_take 26 = .ok (.aload_n 0, 1) := by decide +kernel
theorem dX11_take_27 : decode cX11_take 27 = .ok (.aload_n 0, 1) := by decide +kernel
theorem dX11_take_28 : decode cX11_take 28 = .ok (.getfield 42, 3) := by decide +kernel
theorem dX11_take_31 : decode cX11_take 31 = .ok (.iload 4, 2) := by decide +kernel
theorem dX11_take_33 : decode cX11_take 33 = .ok (.iconst 3, 1) := by decide +kernel
theorem dX11_take_34 : decode cX11_take 34 = .ok (.invokevirtual 46, 3) := by decide +kernel
theorem dX11_take_37 : decode cX11_take 37 = .ok (.putfield 23, 3) := by decide +kernel
theorem dX11_take_40 : decode cX11_take 40 = .ok (.aload_n 0, 1) := by decide +kernel
theorem dX11_take_41 : decode cX11_take 41 = .ok (.aload_n 0, 1) := by decide +kernel
theorem dX11_take_42 : decode cX11_take 42 = .ok (.getfield 42, 3) := by decide +kernel
theorem dX11_take_45 : decode cX11_take 45 = .ok (.iload 5, 2) := by decide +kernel
theorem dX11_take_47 : decode cX11_take 47 = .ok (.iconst 1, 1) := by decide +kernel
theorem dX11_take_48 : decode cX11_take 48 = .ok (.invokevirtual 46, 3) := by decide +kernel
theorem dX11_take_51 : decode cX11_take 51 = .ok (.putfield 26, 3) := by decide +kernel
theorem dX11_take_54 : decode cX11_take 54 = .ok (.aload_n 0, 1) := by decide +kernel
theorem dX11_take_55 : decode cX11_take 55 = .ok (.aload_n 0, 1) := by decide +kernel
theorem dX11_take_56 : decode cX11_take 56 = .ok (.getfield 42, 3) := by decide +kernel
theorem dX11_take_59 : decode cX11_take 59 = .ok (.iload 5, 2) := by decide +kernel
theorem dX11_take_61 : decode cX11_take 61 = .ok (.iconst 2, 1) := by decide +kernel
theorem dX11_take_62 : decode cX11_take 62 = .ok (.invokevirtual 46, 3) := by decide +kernel
theorem dX11_take_65 : decode cX11_take 65 = .ok (.putfield 29, 3) := by decide +kernel
theorem dX11_take_68 : decode cX11_take 68 = .ok (.aload_n 0, 1) := by decide +kernel
theorem dX11_take_69 : decode cX11_take 69 = .ok (.aload_n 0, 1) := by decide +kernel
theorem dX11_take_70 : decode cX11_take 70 = .ok (.getfield 42, 3) := by decide +kernel
theorem dX11_take_73 : decode cX11_take 73 = .ok (.iload_n 2, 1) := by decide +kernel
theorem dX11_take_74 : decode cX11_take 74 = .ok (.bipush 10, 2) := by decide +kernel
theorem dX11_take_76 : decode cX11_take 76 = .ok (.irem, 1) := by decide +kernel
theorem dX11_take_77 : decode cX11_take 77 = .ok (.iload_n 3, 1) := by decide +kernel
theorem dX11_take_78 : decode cX11_take 78 = .ok (.invokevirtual 52, 3) := by decide +kernel
theorem dX11_take_81 : decode cX11_take 81 = .ok (.putfield 32, 3) := by decide +kernel
theorem dX11_take_84 : decode cX11_take 84 = .ok (.aload_n 0, 1) := by decide +kernel
theorem dX11_take_85 : decode cX11_take 85 = .ok (.aload_n 0, 1) := by decide +kernel
theorem dX11_take_86 : decode cX11_take 86 = .ok (.getfield 42, 3) := by decide +kernel
theorem dX11_take_89 : decode cX11_take 89 = .ok (.iload_n 2, 1) := by decide +kernel
theorem dX11_take_90 : decode cX11_take 90 = .ok (.bipush 10, 2) := by decide +kernel
theorem dX11_take_92 : decode cX11_take 92 = .ok (.idiv, 1) := by decide +kernel
theorem dX11_take_93 : decode cX11_take 93 = .ok (.invokevirtual 54, 3) := by decide +kernel
theorem dX11_take_96 : decode cX11_take 96 = .ok (.putfield 35, 3) := by decide +kernel
theorem dX11_take_99 : decode cX11_take 99 = .ok (.return_, 1) := by decide +kernel
def fX11_take (h : eg_H) (l0 : Nat) (l1 : Int32) (l2 : Int32) (l3 : Int32) : Option (eg_H) :=
  if eg_isO h 11 l0 then (
    (some ((l1 / (10 : Int32)))).bind fun v1 =>
    (some ((l1 % (10 : Int32)))).bind fun v3 =>
    (eg_gR h 11 0 l0).bind fun p5 =>
    (fX7_ofPerson h p5 v1 (0 : Int32)).bind fun ⟨v8, h7⟩ =>
    (eg_pI h7 11 3 l0 v8).bind fun h10 =>
    (eg_gR h10 11 0 l0).bind fun p12 =>
    (fX7_ofPerson h10 p12 v1 (3 : Int32)).bind fun ⟨v15, h14⟩ =>
    (eg_pI h14 11 4 l0 v15).bind fun h17 =>
    (eg_gR h17 11 0 l0).bind fun p19 =>
    (fX7_ofPerson h17 p19 v3 (1 : Int32)).bind fun ⟨v22, h21⟩ =>
    (eg_pI h21 11 5 l0 v22).bind fun h24 =>
    (eg_gR h24 11 0 l0).bind fun p26 =>
    (fX7_ofPerson h24 p26 v3 (2 : Int32)).bind fun ⟨v29, h28⟩ =>
    (eg_pI h28 11 6 l0 v29).bind fun h31 =>
    (eg_gR h31 11 0 l0).bind fun p33 =>
    (fX7_blows h31 p33 (l2 % (10 : Int32)) l3).bind fun ⟨v36, h35⟩ =>
    (eg_pI h35 11 7 l0 v36).bind fun h38 =>
    (eg_gR h38 11 0 l0).bind fun p40 =>
    (fX7_limit h38 p40 (l2 / (10 : Int32))).bind fun ⟨v43, h42⟩ =>
    (eg_pI h42 11 8 l0 v43).bind fun h45 =>
    some h45) else none
theorem fX11_take_O {h : eg_H} {l0 : Nat} {l1 : Int32} {l2 : Int32} {l3 : Int32} {hE : eg_H} (hF : fX11_take h l0 l1 l2 l3 = some hE) : eg_isO h 11 l0 := (eg_ifn hF).1
set_option maxRecDepth 20000 in
theorem mX11_take {h : eg_H} {l0 : Nat} {l1 : Int32} {l2 : Int32} {l3 : Int32} {hE : eg_H} (hF : fX11_take h l0 l1 l2 l3 = some hE) : eg_Met yX11_take cX11_take 6 none 3 [.ref l0, .int l1, .int l2, .int l3] h none hE := by
  refine eg_enter rfl (Nat.le_of_ble_eq_true rfl) ?_
  show eg_AW (RX11, cX11_take, 6, 3, none, "take", none) (eg_Zm none hE h) (eg_nc hE) (eg_ns hE) h 0 [(0, .ref l0), (1, .int l1), (2, .int l2), (3, .int l3)] [] h
  replace hF := (eg_ifn hF).2
  refine eg_iload_n (i := 1) 1 dX11_take_0 rfl rfl ?_
  refine eg_bipush (v := (10 : Int32)) dX11_take_1 (by decide) ?_
  refine eg_idiv dX11_take_3 (by decide) ?_
  replace hF := eg_bind hF; obtain ⟨v1, e2, hF⟩ := hF
  replace e2 := Option.some.inj e2
  rw [e2]
  refine eg_istore (i := 4) [(4, .int v1), (0, .ref l0), (1, .int l1), (2, .int l2), (3, .int l3)] dX11_take_4 (Nat.le_of_ble_eq_true rfl) rfl ?_
  refine eg_iload_n (i := 1) 2 dX11_take_6 rfl rfl ?_
  refine eg_bipush (v := (10 : Int32)) dX11_take_7 (by decide) ?_
  refine eg_irem dX11_take_9 (by decide) ?_
  replace hF := eg_bind hF; obtain ⟨v3, e4, hF⟩ := hF
  replace e4 := Option.some.inj e4
  rw [e4]
  refine eg_istore (i := 5) [(5, .int v3), (4, .int v1), (0, .ref l0), (1, .int l1), (2, .int l2), (3, .int l3)] dX11_take_10 (Nat.le_of_ble_eq_true rfl) rfl ?_
  refine eg_aload_n (i := 0) 2 dX11_take_12 rfl rfl ?_
  refine eg_aload_n (i := 0) 2 dX11_take_13 rfl rfl ?_
  replace hF := eg_bind hF; obtain ⟨p5, e6, hF⟩ := hF
  refine eg_getR dX11_take_14 e6 (Nat.le_of_ble_eq_true rfl) (Nat.le_of_ble_eq_true rfl) rfl ew_237 ?_
  refine eg_iload (i := 4) 1 dX11_take_17 rfl ?_
  refine eg_iconst (v := (0 : Int32)) dX11_take_19 (by decide) ?_
  replace hF := eg_bind hF; obtain ⟨⟨v8, h7⟩, e9, hF⟩ := hF
  refine eg_callV (c := 7) (n := 2) [.int v1, .int (0 : Int32)] dX11_take_20 (mX7_ofPerson e9) rfl (fX7_ofPerson_O e9) (Nat.le_of_ble_eq_true rfl) rfl ew_759 ew_741 ew_742 ew_104 ew_743 hy_X7_ofPerson rfl (Nat.le_of_ble_eq_true rfl) (Nat.le_of_ble_eq_true rfl) (Nat.le_of_ble_eq_true rfl) ?_
  replace hF := eg_bind hF; obtain ⟨h10, e11, hF⟩ := hF
  refine eg_putI dX11_take_23 e11 (Nat.le_of_ble_eq_true rfl) (Nat.le_of_ble_eq_true rfl) rfl ew_240 (Or.inl rfl) ?_
  refine eg_aload_n (i := 0) 2 dX11_take_26 rfl rfl ?_
  refine eg_aload_n (i := 0) 2 dX11_take_27 rfl rfl ?_
  replace hF := eg_bind hF; obtain ⟨p12, e13, hF⟩ := hF
  refine eg_getR dX11_take_28 e13 (Nat.le_of_ble_eq_true rfl) (Nat.le_of_ble_eq_true rfl) rfl ew_237 ?_
  refine eg_iload (i := 4) 1 dX11_take_31 rfl ?_
  refine eg_iconst (v := (3 : Int32)) dX11_take_33 (by decide) ?_
  replace hF := eg_bind hF; obtain ⟨⟨v15, h14⟩, e16, hF⟩ := hF
  refine eg_callV (c := 7) (n := 2) [.int v1, .int (3 : Int32)] dX11_take_34 (mX7_ofPerson e16) rfl (fX7_ofPerson_O e16) (Nat.le_of_ble_eq_true rfl) rfl ew_759 ew_741 ew_742 ew_104 ew_743 hy_X7_ofPerson rfl (Nat.le_of_ble_eq_true rfl) (Nat.le_of_ble_eq_true rfl) (Nat.le_of_ble_eq_true rfl) ?_
  replace hF := eg_bind hF; obtain ⟨h17, e18, hF⟩ := hF
  refine eg_putI dX11_take_37 e18 (Nat.le_of_ble_eq_true rfl) (Nat.le_of_ble_eq_true rfl) rfl ew_241 (Or.inl rfl) ?_
  refine eg_aload_n (i := 0) 2 dX11_take_40 rfl rfl ?_
  refine eg_aload_n (i := 0) 2 dX11_take_41 rfl rfl ?_
  replace hF := eg_bind hF; obtain ⟨p19, e20, hF⟩ := hF
  refine eg_getR dX11_take_42 e20 (Nat.le_of_ble_eq_true rfl) (Nat.le_of_ble_eq_true rfl) rfl ew_237 ?_
  refine eg_iload (i := 5) 0 dX11_take_45 rfl ?_
  refine eg_iconst (v := (1 : Int32)) dX11_take_47 (by decide) ?_
  replace hF := eg_bind hF; obtain ⟨⟨v22, h21⟩, e23, hF⟩ := hF
  refine eg_callV (c := 7) (n := 2) [.int v3, .int (1 : Int32)] dX11_take_48 (mX7_ofPerson e23) rfl (fX7_ofPerson_O e23) (Nat.le_of_ble_eq_true rfl) rfl ew_759 ew_741 ew_742 ew_104 ew_743 hy_X7_ofPerson rfl (Nat.le_of_ble_eq_true rfl) (Nat.le_of_ble_eq_true rfl) (Nat.le_of_ble_eq_true rfl) ?_
  replace hF := eg_bind hF; obtain ⟨h24, e25, hF⟩ := hF
  refine eg_putI dX11_take_51 e25 (Nat.le_of_ble_eq_true rfl) (Nat.le_of_ble_eq_true rfl) rfl ew_242 (Or.inl rfl) ?_
  refine eg_aload_n (i := 0) 2 dX11_take_54 rfl rfl ?_
  refine eg_aload_n (i := 0) 2 dX11_take_55 rfl rfl ?_
  replace hF := eg_bind hF; obtain ⟨p26, e27, hF⟩ := hF
  refine eg_getR dX11_take_56 e27 (Nat.le_of_ble_eq_true rfl) (Nat.le_of_ble_eq_true rfl) rfl ew_237 ?_
  refine eg_iload (i := 5) 0 dX11_take_59 rfl ?_
  refine eg_iconst (v := (2 : Int32)) dX11_take_61 (by decide) ?_
  replace hF := eg_bind hF; obtain ⟨⟨v29, h28⟩, e30, hF⟩ := hF
  refine eg_callV (c := 7) (n := 2) [.int v3, .int (2 : Int32)] dX11_take_62 (mX7_ofPerson e30) rfl (fX7_ofPerson_O e30) (Nat.le_of_ble_eq_true rfl) rfl ew_759 ew_741 ew_742 ew_104 ew_743 hy_X7_ofPerson rfl (Nat.le_of_ble_eq_true rfl) (Nat.le_of_ble_eq_true rfl) (Nat.le_of_ble_eq_true rfl) ?_
  replace hF := eg_bind hF; obtain ⟨h31, e32, hF⟩ := hF
  refine eg_putI dX11_take_65 e32 (Nat.le_of_ble_eq_true rfl) (Nat.le_of_ble_eq_true rfl) rfl ew_243 (Or.inl rfl) ?_
  refine eg_aload_n (i := 0) 2 dX11_take_68 rfl rfl ?_
  refine eg_aload_n (i := 0) 2 dX11_take_69 rfl rfl ?_
  replace hF := eg_bind hF; obtain ⟨p33, e34, hF⟩ := hF
  refine eg_getR dX11_take_70 e34 (Nat.le_of_ble_eq_true rfl) (Nat.le_of_ble_eq_true rfl) rfl ew_237 ?_
  refine eg_iload_n (i := 2) 4 dX11_take_73 rfl rfl ?_
  refine eg_bipush (v := (10 : Int32)) dX11_take_74 (by decide) ?_
  refine eg_irem dX11_take_76 (by decide) ?_
  refine eg_iload_n (i := 3) 5 dX11_take_77 rfl rfl ?_
  replace hF := eg_bind hF; obtain ⟨⟨v36, h35⟩, e37, hF⟩ := hF
  refine eg_callV (c := 7) (n := 2) [.int (l2 % (10 : Int32)), .int l3] dX11_take_78 (mX7_blows e37) rfl (fX7_blows_O e37) (Nat.le_of_ble_eq_true rfl) rfl ew_761 ew_745 ew_746 ew_104 ew_747 hy_X7_blows rfl (Nat.le_of_ble_eq_true rfl) (Nat.le_of_ble_eq_true rfl) (Nat.le_of_ble_eq_true rfl) ?_
  replace hF := eg_bind hF; obtain ⟨h38, e39, hF⟩ := hF
  refine eg_putI dX11_take_81 e39 (Nat.le_of_ble_eq_true rfl) (Nat.le_of_ble_eq_true rfl) rfl ew_244 (Or.inl rfl) ?_
  refine eg_aload_n (i := 0) 2 dX11_take_84 rfl rfl ?_
  refine eg_aload_n (i := 0) 2 dX11_take_85 rfl rfl ?_
  replace hF := eg_bind hF; obtain ⟨p40, e41, hF⟩ := hF
  refine eg_getR dX11_take_86 e41 (Nat.le_of_ble_eq_true rfl) (Nat.le_of_ble_eq_true rfl) rfl ew_237 ?_
  refine eg_iload_n (i := 2) 4 dX11_take_89 rfl rfl ?_
  refine eg_bipush (v := (10 : Int32)) dX11_take_90 (by decide) ?_
  refine eg_idiv dX11_take_92 (by decide) ?_
  replace hF := eg_bind hF; obtain ⟨⟨v43, h42⟩, e44, hF⟩ := hF
  refine eg_callV (c := 7) (n := 1) [.int (l2 / (10 : Int32))] dX11_take_93 (mX7_limit e44) rfl (fX7_limit_O e44) (Nat.le_of_ble_eq_true rfl) rfl ew_806 ew_807 ew_808 ew_104 ew_809 hy_X7_limit rfl (Nat.le_of_ble_eq_true rfl) (Nat.le_of_ble_eq_true rfl) (Nat.le_of_ble_eq_true rfl) ?_
  replace hF := eg_bind hF; obtain ⟨h45, e46, hF⟩ := hF
  refine eg_putI dX11_take_96 e46 (Nat.le_of_ble_eq_true rfl) (Nat.le_of_ble_eq_true rfl) rfl ew_245 (Or.inl rfl) ?_
  exact eg_vretE dX11_take_99 hF
theorem dX11_packed_0 : decode cX11_packed 0 = .ok (.iload_n 0, 1) := by decide +kernel
theorem dX11_packed_1 : decode cX11_packed 1 = .ok (.sipush 10000, 3) := by decide +kernel
theorem dX11_packed_4 : decode cX11_packed 4 = .ok (.imul, 1) := by decide +kernel
theorem dX11_packed_5 : decode cX11_packed 5 = .ok (.iload_n 1, 1) := by decide +kernel
theorem dX11_packed_6 : decode cX11_packed 6 = .ok (.iconst 5, 1) := by decide +kernel
theorem dX11_packed_7 : decode cX11_packed 7 = .ok (.iadd, 1) := by decide +kernel
theorem dX11_packed_8 : decode cX11_packed 8 = .ok (.iconst 1, 1) := by decide +kernel
theorem dX11_packed_9 : decode cX11_packed 9 = .ok (.iadd, 1) := by decide +kernel
theorem dX11_packed_10 : decode cX11_packed 10 = .ok (.bipush 100, 2) := by decide +kernel
theorem dX11_packed_12 : decode cX11_packed 12 = .ok (.imul, 1) := by decide +kernel
theorem dX11_packed_13 : decode cX11_packed 13 = .ok (.iadd, 1) := by decide +kernel
theorem dX11_packed_14 : decode cX11_packed 14 = .ok (.iload_n 2, 1) := by decide +kernel
theorem dX11_packed_15 : decode cX11_packed 15 = .ok (.iadd, 1) := by decide +kernel
theorem dX11_packed_16 : decode cX11_packed 16 = .ok (.ireturn, 1) := by decide +kernel
def fX11_packed (h : eg_H) (l0 : Int32) (l1 : Int32) (l2 : Int32) : Option (Int32 × eg_H) :=
  some ((((l0 * (10000 : Int32)) + (((l1 + (5 : Int32)) + (1 : Int32)) * (100 : Int32))) + l2), h)
set_option maxRecDepth 20000 in
theorem mX11_packed {h : eg_H} {l0 : Int32} {l1 : Int32} {l2 : Int32} {rE : Int32} {hE : eg_H} (hF : fX11_packed h l0 l1 l2 = some (rE, hE)) : eg_Met yX11_packed cX11_packed 3 (some .int) 1 [.int l0, .int l1, .int l2] h (some (.int rE)) hE := by
  refine eg_enter rfl (Nat.le_of_ble_eq_true rfl) ?_
  show eg_AW (RX11, cX11_packed, 3, 1, none, "packed", (some .int)) (eg_Zm (some (.int rE)) hE h) (eg_nc hE) (eg_ns hE) h 0 [(0, .int l0), (1, .int l1), (2, .int l2)] [] h
  refine eg_iload_n (i := 0) 0 dX11_packed_0 rfl rfl ?_
  refine eg_sipush (v := (10000 : Int32)) dX11_packed_1 (by decide) ?_
  refine eg_imul dX11_packed_4 ?_
  refine eg_iload_n (i := 1) 1 dX11_packed_5 rfl rfl ?_
  refine eg_iconst (v := (5 : Int32)) dX11_packed_6 (by decide) ?_
  refine eg_iadd dX11_packed_7 ?_
  refine eg_iconst (v := (1 : Int32)) dX11_packed_8 (by decide) ?_
  refine eg_iadd dX11_packed_9 ?_
  refine eg_bipush (v := (100 : Int32)) dX11_packed_10 (by decide) ?_
  refine eg_imul dX11_packed_12 ?_
  refine eg_iadd dX11_packed_13 ?_
  refine eg_iload_n (i := 2) 2 dX11_packed_14 rfl rfl ?_
  refine eg_iadd dX11_packed_15 ?_
  exact eg_iretE dX11_packed_16 hF
theorem dX5_tell_0 : decode cX5_tell 0 = .ok (.aload_n 0, 1) := by decide +kernel
theorem dX5_tell_1 : decode cX5_tell 1 = .ok (.getfield 15, 3) := by decide +kernel
theorem dX5_tell_4 : decode cX5_tell 4 = .ok (.iconst 0, 1) := by decide +kernel
theorem dX5_tell_5 : decode cX5_tell 5 = .ok (.iload_n 1, 1) := by decide +kernel
theorem dX5_tell_6 : decode cX5_tell 6 = .ok (.iastore, 1) := by decide +kernel
theorem dX5_tell_7 : decode cX5_tell 7 = .ok (.aload_n 0, 1) := by decide +kernel
theorem dX5_tell_8 : decode cX5_tell 8 = .ok (.getfield 15, 3) := by decide +kernel
theorem dX5_tell_11 : decode cX5_tell 11 = .ok (.iconst 1, 1) := by decide +kernel
theorem dX5_tell_12 : decode cX5_tell 12 = .ok (.iload_n 2, 1) := by decide +kernel
theorem dX5_tell_13 : decode cX5_tell 13 = .ok (.iastore, 1) := by decide +kernel
theorem dX5_tell_14 : decode cX5_tell 14 = .ok (.aload_n 0, 1) := by decide +kernel
theorem dX5_tell_15 : decode cX5_tell 15 = .ok (.getfield 15, 3) := by decide +kernel
theorem dX5_tell_18 : decode cX5_tell 18 = .ok (.iconst 2, 1) := by decide +kernel
theorem dX5_tell_19 : decode cX5_tell 19 = .ok (.iload_n 3, 1) := by decide +kernel
theorem dX5_tell_20 : decode cX5_tell 20 = .ok (.iastore, 1) := by decide +kernel
theorem dX5_tell_21 : decode cX5_tell 21 = .ok (.aload_n 0, 1) := by decide +kernel
theorem dX5_tell_22 : decode cX5_tell 22 = .ok (.getfield 15, 3) := by decide +kernel
theorem dX5_tell_25 : decode cX5_tell 25 = .ok (.iconst 3, 1) := by decide +kernel
theorem dX5_tell_26 : decode cX5_tell 26 = .ok (.iload 4, 2) := by decide +kernel
theorem dX5_tell_28 : decode cX5_tell 28 = .ok (.iastore, 1) := by decide +kernel
theorem dX5_tell_29 : decode cX5_tell 29 = .ok (.aload_n 0, 1) := by decide +kernel
theorem dX5_tell_30 : decode cX5_tell 30 = .ok (.getfield 15, 3) := by decide +kernel
theorem dX5_tell_33 : decode cX5_tell 33 = .ok (.iconst 4, 1) := by decide +kernel
theorem dX5_tell_34 : decode cX5_tell 34 = .ok (.iload 5, 2) := by decide +kernel
theorem dX5_tell_36 : decode cX5_tell 36 = .ok (.iastore, 1) := by decide +kernel
theorem dX5_tell_37 : decode cX5_tell 37 = .ok (.return_, 1) := by decide +kernel
def fX5_tell (h : eg_H) (l0 : Nat) (l1 : Int32) (l2 : Int32) (l3 : Int32) (l4 : Int32) (l5 : Int32) : Option (eg_H) :=
  if eg_isO h 5 l0 then (
    (eg_gR h 5 2 l0).bind fun p1 =>
    (eg_wI h 100 p1 (0 : Int32) l1).bind fun h3 =>
    (eg_gR h3 5 2 l0).bind fun p5 =>
    (eg_wI h3 100 p5 (1 : Int32) l2).bind fun h7 =>
    (eg_gR h7 5 2 l0).bind fun p9 =>
    (eg_wI h7 100 p9 (2 : Int32) l3).bind fun h11 =>
    (eg_gR h11 5 2 l0).bind fun p13 =>
    (eg_wI h11 100 p13 (3 : Int32) l4).bind fun h15 =>
    (eg_gR h15 5 2 l0).bind fun p17 =>
    (eg_wI h15 100 p17 (4 : Int32) l5).bind fun h19 =>
    some h19) else none
theorem fX5_tell_O {h : eg_H} {l0 : Nat} {l1 : Int32} {l2 : Int32} {l3 : Int32} {l4 : Int32} {l5 : Int32} {hE : eg_H} (hF : fX5_tell h l0 l1 l2 l3 l4 l5 = some hE) : eg_isO h 5 l0 := (eg_ifn hF).1
set_option maxRecDepth 20000 in
theorem mX5_tell {h : eg_H} {l0 : Nat} {l1 : Int32} {l2 : Int32} {l3 : Int32} {l4 : Int32} {l5 : Int32} {hE : eg_H} (hF : fX5_tell h l0 l1 l2 l3 l4 l5 = some hE) : eg_Met yX5_tell cX5_tell 6 none 1 [.ref l0, .int l1, .int l2, .int l3, .int l4, .int l5] h none hE := by
  refine eg_enter rfl (Nat.le_of_ble_eq_true rfl) ?_
  show eg_AW (RX5, cX5_tell, 6, 1, none, "tell", none) (eg_Zm none hE h) (eg_nc hE) (eg_ns hE) h 0 [(0, .ref l0), (1, .int l1), (2, .int l2), (3, .int l3), (4, .int l4), (5, .int l5)] [] h
  replace hF := (eg_ifn hF).2
  refine eg_aload_n (i := 0) 0 dX5_tell_0 rfl rfl ?_
  replace hF := eg_bind hF; obtain ⟨p1, e2, hF⟩ := hF
  refine eg_getR dX5_tell_1 e2 (Nat.le_of_ble_eq_true rfl) (Nat.le_of_ble_eq_true rfl) rfl ew_665 ?_
  refine eg_iconst (v := (0 : Int32)) dX5_tell_4 (by decide) ?_
  refine eg_iload_n (i := 1) 1 dX5_tell_5 rfl rfl ?_
  replace hF := eg_bind hF; obtain ⟨h3, e4, hF⟩ := hF
  refine eg_iast dX5_tell_6 e4 ?_
  refine eg_aload_n (i := 0) 0 dX5_tell_7 rfl rfl ?_
  replace hF := eg_bind hF; obtain ⟨p5, e6, hF⟩ := hF
  refine eg_getR dX5_tell_8 e6 (Nat.le_of_ble_eq_true rfl) (Nat.le_of_ble_eq_true rfl) rfl ew_665 ?_
  refine eg_iconst (v := (1 : Int32)) dX5_tell_11 (by decide) ?_
  refine eg_iload_n (i := 2) 2 dX5_tell_12 rfl rfl ?_
  replace hF := eg_bind hF; obtain ⟨h7, e8, hF⟩ := hF
  refine eg_iast dX5_tell_13 e8 ?_
  refine eg_aload_n (i := 0) 0 dX5_tell_14 rfl rfl ?_
  replace hF := eg_bind hF; obtain ⟨p9, e10, hF⟩ := hF
  refine eg_getR dX5_tell_15 e10 (Nat.le_of_ble_eq_true rfl) (Nat.le_of_ble_eq_true rfl) rfl ew_665 ?_
  refine eg_iconst (v := (2 : Int32)) dX5_tell_18 (by decide) ?_
  refine eg_iload_n (i := 3) 3 dX5_tell_19 rfl rfl ?_
  replace hF := eg_bind hF; obtain ⟨h11, e12, hF⟩ := hF
  refine eg_iast dX5_tell_20 e12 ?_
  refine eg_aload_n (i := 0) 0 dX5_tell_21 rfl rfl ?_
  replace hF := eg_bind hF; obtain ⟨p13, e14, hF⟩ := hF
  refine eg_getR dX5_tell_22 e14 (Nat.le_of_ble_eq_true rfl) (Nat.le_of_ble_eq_true rfl) rfl ew_665 ?_
  refine eg_iconst (v := (3 : Int32)) dX5_tell_25 (by decide) ?_
  refine eg_iload (i := 4) 4 dX5_tell_26 rfl ?_
  replace hF := eg_bind hF; obtain ⟨h15, e16, hF⟩ := hF
  refine eg_iast dX5_tell_28 e16 ?_
  refine eg_aload_n (i := 0) 0 dX5_tell_29 rfl rfl ?_
  replace hF := eg_bind hF; obtain ⟨p17, e18, hF⟩ := hF
  refine eg_getR dX5_tell_30 e18 (Nat.le_of_ble_eq_true rfl) (Nat.le_of_ble_eq_true rfl) rfl ew_665 ?_
  refine eg_iconst (v := (4 : Int32)) dX5_tell_33 (by decide) ?_
  refine eg_iload (i := 5) 5 dX5_tell_34 rfl ?_
  replace hF := eg_bind hF; obtain ⟨h19, e20, hF⟩ := hF
  refine eg_iast dX5_tell_36 e20 ?_
  exact eg_vretE dX5_tell_37 hF
theorem dX5_worth_0 : decode cX5_worth 0 = .ok (.aload_n 0, 1) := by decide +kernel
theorem dX5_worth_1 : decode cX5_worth 1 = .ok (.getfield 24, 3) := by decide +kernel
theorem dX5_worth_4 : decode cX5_worth 4 = .ok (.astore_n 1, 1) := by decide +kernel
theorem dX5_worth_5 : decode cX5_worth 5 = .ok (.aload_n 0, 1) := by decide +kernel
theorem dX5_worth_6 : decode cX5_worth 6 = .ok (.getfield 9, 3) := by decide +kernel
theorem dX5_worth_9 : decode cX5_worth 9 = .ok (.astore_n 2, 1) := by decide +kernel
theorem dX5_worth_10 : decode cX5_worth 10 = .ok (.iconst 0, 1) := by decide +kernel
theorem dX5_worth_11 : decode cX5_worth 11 = .ok (.istore_n 3, 1) := by decide +kernel
theorem dX5_worth_12 : decode cX5_worth 12 = .ok (.iconst 0, 1) := by decide +kernel
theorem dX5_worth_13 : decode cX5_worth 13 = .ok (.istore 4, 2) := by decide +kernel
theorem dX5_worth_15 : decode cX5_worth 15 = .ok (.iload 4, 2) := by decide +kernel
theorem dX5_worth_17 : decode cX5_worth 17 = .ok (.aload_n 1, 1) := by decide +kernel
theorem dX5_worth_18 : decode cX5_worth 18 = .ok (.arraylength, 1) := by decide +kernel
theorem dX5_worth_19 : decode cX5_worth 19 = .ok (.if_icmp .ge 356, 3) := by decide +kernel
theorem dX5_worth_22 : decode cX5_worth 22 = .ok (.aload_n 1, 1) := by decide +kernel
theorem dX5_worth_23 : decode cX5_worth 23 = .ok (.iload 4, 2) := by decide +kernel
theorem dX5_worth_25 : decode cX5_worth 25 = .ok (.iaload, 1) := by decide +kernel
theorem dX5_worth_26 : decode cX5_worth 26 = .ok (.istore 5, 2) := by decide +kernel
theorem dX5_worth_28 : decode cX5_worth 28 = .ok (.iload 5, 2) := by decide +kernel
theorem dX5_worth_30 : decode cX5_worth 30 = .ok (.bipush (-5), 2) := by decide +kernel
theorem dX5_worth_32 : decode cX5_worth 32 = .ok (.if_icmp .lt 39, 3) := by decide +kernel
theorem dX5_worth_35 : decode cX5_worth 35 = .ok (.iload_n 3, 1) := by decide +kernel
theorem dX5_worth_36 : decode cX5_worth 36 = .ok (.aload_n 2, 1) := by decide +kernel
theorem dX5_worth_37 : decode cX5_worth 37 = .ok (.arraylength, 1) := by decide +kernel
theorem dX5_worth_38 : decode cX5_worth 38 = .ok (.if_icmp .lt 5, 3) := by decide +kernel
theorem dX5_worth_41 : decode cX5_worth 41 = .ok (.iconst 0, 1) := by decide +kernel
theorem dX5_worth_42 : decode cX5_worth 42 = .ok (.ireturn, 1) := by decide +kernel
theorem dX5_worth_43 : decode cX5_worth 43 = .ok (.aload_n 2, 1) := by decide +kernel
theorem dX5_worth_44 : decode cX5_worth 44 = .ok (.iload_n 3, 1) := by decide +kernel
theorem dX5_worth_45 : decode cX5_worth 45 = .ok (.iload 5, 2) := by decide +kernel
theorem dX5_worth_47 : decode cX5_worth 47 = .ok (.ifCond .lt 8, 3) := by decide +kernel
theorem dX5_worth_50 : decode cX5_worth 50 = .ok (.iload 5, 2) := by decide +kernel
theorem dX5_worth_52 : decode cX5_worth 52 = .ok (.goto 12, 3) := by decide +kernel
theorem dX5_worth_55 : decode cX5_worth 55 = .ok (.aload_n 0, 1) := by decide +kernel
theorem dX5_worth_56 : decode cX5_worth 56 = .ok (.getfield 15, 3) := by decide +kernel
theorem dX5_worth_59 : decode cX5_worth 59 = .ok (.iconst (-1), 1) := by decide +kernel
theorem dX5_worth_60 : decode cX5_worth 60 = .ok (.iload 5, 2) := by decide +kernel
theorem dX5_worth_62 : decode cX5_worth 62 = .ok (.isub, 1) := by decide +kernel
theorem dX5_worth_63 : decode cX5_worth 63 = .ok (.iaload, 1) := by decide +kernel
theorem dX5_worth_64 : decode cX5_worth 64 = .ok (.iastore, 1) := by decide +kernel
theorem dX5_worth_65 : decode cX5_worth 65 = .ok (.iinc 3 1, 3) := by decide +kernel
theorem dX5_worth_68 : decode cX5_worth 68 = .ok (.goto 301, 3) := by decide +kernel
theorem dX5_worth_71 : decode cX5_worth 71 = .ok (.iload_n 3, 1) := by decide +kernel
theorem dX5_worth_72 : decode cX5_worth 72 = .ok (.iconst 1, 1) := by decide +kernel
theorem dX5_worth_73 : decode cX5_worth 73 = .ok (.if_icmp .ge 5, 3) := by decide +kernel
theorem dX5_worth_76 : decode cX5_worth 76 = .ok (.iconst 0, 1) := by decide +kernel
theorem dX5_worth_77 : decode cX5_worth 77 = .ok (.ireturn, 1) := by decide +kernel
theorem dX5_worth_78 : decode cX5_worth 78 = .ok (.iload 5, 2) := by decide +kernel
theorem dX5_worth_80 : decode cX5_worth 80 = .ok (.bipush (-17), 2) := by decide +kernel
theorem dX5_worth_82 : decode cX5_worth 82 = .ok (.if_icmp .ne 9, 3) := by decide +kernel
theorem dX5_worth_85 : decode cX5_worth 85 = .ok (.aload_n 2, 1) := by decide +kernel
theorem dX5_worth_86 : decode cX5_worth 86 = .ok (.iload_n 3, 1) := by decide +kernel
theorem dX5_worth_87 : decode cX5_worth 87 = .ok (.iconst 1, 1) := by decide +kernel
theorem dX5_worth_88 : decode cX5_worth 88 = .ok (.isub, 1) := by decide +kernel
theorem dX5_worth_89 : decode cX5_worth 89 = .ok (.iaload, 1) := by decide +kernel
theorem dX5_worth_90 : decode cX5_worth 90 = .ok (.ireturn, 1) := by decide +kernel
theorem dX5_worth_91 : decode cX5_worth 91 = .ok (.iload 5, 2) := by decide +kernel
theorem dX5_worth_93 : decode cX5_worth 93 = .ok (.bipush (-15), 2) := by decide +kernel
theorem dX5_worth_95 : decode cX5_worth 95 = .ok (.if_icmp .ne 18, 3) := by decide +kernel
theorem dX5_worth_98 : decode cX5_worth 98 = .ok (.aload_n 2, 1) := by decide +kernel
theorem dX5_worth_99 : decode cX5_worth 99 = .ok (.iload_n 3, 1) := by decide +kernel
theorem dX5_worth_100 : decode cX5_worth 100 = .ok (.iconst 1, 1) := by decide +kernel
theorem dX5_worth_101 : decode cX5_worth 101 = .ok (.isub, 1) := by decide +kernel
theorem dX5_worth_102 : decode cX5_worth 102 = .ok (.iconst 1, 1) := by decide +kernel
theorem dX5_worth_103 : decode cX5_worth 103 = .ok (.aload_n 2, 1) := by decide +kernel
theorem dX5_worth_104 : decode cX5_worth 104 = .ok (.iload_n 3, 1) := by decide +kernel
theorem dX5_worth_105 : decode cX5_worth 105 = .ok (.iconst 1, 1) := by decide +kernel
theorem dX5_worth_106 : decode cX5_worth 106 = .ok (.isub, 1) := by decide +kernel
theorem dX5_worth_107 : decode cX5_worth 107 = .ok (.iaload, 1) := by decide +kernel
theorem dX5_worth_108 : decode cX5_worth 108 = .ok (.isub, 1) := by decide +kernel
theorem dX5_worth_109 : decode cX5_worth 109 = .ok (.iastore, 1) := by decide +kernel
theorem dX5_worth_110 : decode cX5_worth 110 = .ok (.goto 259, 3) := by decide +kernel
theorem dX5_worth_113 : decode cX5_worth 113 = .ok (.iload 5, 2) := by decide +kernel
theorem dX5_worth_115 : decode cX5_worth 115 = .ok (.bipush (-16), 2) := by decide +kernel
theorem dX5_worth_117 : decode cX5_worth 117 = .ok (.if_icmp .ne 34, 3) := by decide +kernel
theorem dX5_worth_120 : decode cX5_worth 120 = .ok (.iinc 3 (-1), 3) := by decide +kernel
theorem dX5_worth_123 : decode cX5_worth 123 = .ok (.aload_n 2, 1) := by decide +kernel
theorem dX5_worth_124 : decode cX5_worth 124 = .ok (.iload_n 3, 1) := by decide +kernel
theorem dX5_worth_125 : decode cX5_worth 125 = .ok (.iaload, 1) := by decide +kernel
theorem dX5_worth_126 : decode cX5_worth 126 = .ok (.ifCond .ne 243, 3) := by decide +kernel
theorem dX5_worth_129 : decode cX5_worth 129 = .ok (.iload 4, 2) := by decide +kernel
theorem dX5_worth_131 : decode cX5_worth 131 = .ok (.aload_n 1, 1) := by decide +kernel
theorem dX5_worth_132 : decode cX5_worth 132 = .ok (.arraylength, 1) := by decide +kernel
theorem dX5_worth_133 : decode cX5_worth 133 = .ok (.if_icmp .ge 236, 3) := by decide +kernel
theorem dX5_worth_136 : decode cX5_worth 136 = .ok (.aload_n 1, 1) := by decide +kernel
theorem dX5_worth_137 : decode cX5_worth 137 = .ok (.iload 4, 2) := by decide +kernel
theorem dX5_worth_139 : decode cX5_worth 139 = .ok (.iaload, 1) := by decide +kernel
theorem dX5_worth_140 : decode cX5_worth 140 = .ok (.bipush (-17), 2) := by decide +kernel
theorem dX5_worth_142 : decode cX5_worth 142 = .ok (.if_icmp .eq 227, 3) := by decide +kernel
theorem dX5_worth_145 : decode cX5_worth 145 = .ok (.iinc 4 1, 3) := by decide +kernel
theorem dX5_worth_148 : decode cX5_worth 148 = .ok (.goto (-25), 3) := by decide +kernel
theorem dX5_worth_151 : decode cX5_worth 151 = .ok (.iload_n 3, 1) := by decide +kernel
theorem dX5_worth_152 : decode cX5_worth 152 = .ok (.iconst 2, 1) := by decide +kernel
theorem dX5_worth_153 : decode cX5_worth 153 = .ok (.if_icmp .ge 5, 3) := by decide +kernel
theorem dX5_worth_156 : decode cX5_worth 156 = .ok (.iconst 0, 1) := by decide +kernel
theorem dX5_worth_157 : decode cX5_worth 157 = .ok (.ireturn, 1) := by decide +kernel
theorem dX5_worth_158 : decode cX5_worth 158 = .ok (.iinc 3 (-1), 3) := by decide +kernel
theorem dX5_worth_161 : decode cX5_worth 161 = .ok (.aload_n 2, 1) := by decide +kernel
theorem dX5_worth_162 : decode cX5_worth 162 = .ok (.iload_n 3, 1) := by decide +kernel
theorem dX5_worth_163 : decode cX5_worth 163 = .ok (.iconst 1, 1) := by decide +kernel
theorem dX5_worth_164 : decode cX5_worth 164 = .ok (.isub, 1) := by decide +kernel
theorem dX5_worth_165 : decode cX5_worth 165 = .ok (.iaload, 1) := by decide +kernel
theorem dX5_worth_166 : decode cX5_worth 166 = .ok (.istore 6, 2) := by decide +kernel
theorem dX5_worth_168 : decode cX5_worth 168 = .ok (.aload_n 2, 1) := by decide +kernel
theorem dX5_worth_169 : decode cX5_worth 169 = .ok (.iload_n 3, 1) := by decide +kernel
theorem dX5_worth_170 : decode cX5_worth 170 = .ok (.iaload, 1) := by decide +kernel
theorem dX5_worth_171 : decode cX5_worth 171 = .ok (.istore 7, 2) := by decide +kernel
theorem dX5_worth_173 : decode cX5_worth 173 = .ok (.iload 5, 2) := by decide +kernel
theorem dX5_worth_175 : decode cX5_worth 175 = .ok (.tableswitch 150 (-13) (-6) #[67, 133, 116, 99, 79, 67, 56, 45], 45) := by decide +kernel
theorem dX5_worth_220 : decode cX5_worth 220 = .ok (.iload 6, 2) := by decide +kernel
theorem dX5_worth_222 : decode cX5_worth 222 = .ok (.iload 7, 2) := by decide +kernel
theorem dX5_worth_224 : decode cX5_worth 224 = .ok (.iadd, 1) := by decide +kernel
theorem dX5_worth_225 : decode cX5_worth 225 = .ok (.i2l, 1) := by decide +kernel
theorem dX5_worth_226 : decode cX5_worth 226 = .ok (.lstore 8, 2) := by decide +kernel
theorem dX5_worth_228 : decode cX5_worth 228 = .ok (.goto 105, 3) := by decide +kernel
theorem dX5_worth_231 : decode cX5_worth 231 = .ok (.iload 6, 2) := by decide +kernel
theorem dX5_worth_233 : decode cX5_worth 233 = .ok (.iload 7, 2) := by decide +kernel
theorem dX5_worth_235 : decode cX5_worth 235 = .ok (.isub, 1) := by decide +kernel
theorem dX5_worth_236 : decode cX5_worth 236 = .ok (.i2l, 1) := by decide +kernel
theorem dX5_worth_237 : decode cX5_worth 237 = .ok (.lstore 8, 2) := by decide +kernel
theorem dX5_worth_239 : decode cX5_worth 239 = .ok (.goto 94, 3) := by decide +kernel
theorem dX5_worth_242 : decode cX5_worth 242 = .ok (.iload 6, 2) := by decide +kernel
theorem dX5_worth_244 : decode cX5_worth 244 = .ok (.i2l, 1) := by decide +kernel
theorem dX5_worth_245 : decode cX5_worth 245 = .ok (.iload 7, 2) := by decide +kernel
theorem dX5_worth_247 : decode cX5_worth 247 = .ok (.i2l, 1) := by decide +kernel
theorem dX5_worth_248 : decode cX5_worth 248 = .ok (.lmul, 1) := by decide +kernel
theorem dX5_worth_249 : decode cX5_worth 249 = .ok (.lstore 8, 2) := by decide +kernel
theorem dX5_worth_251 : decode cX5_worth 251 = .ok (.goto 82, 3) := by decide +kernel
theorem dX5_worth_254 : decode cX5_worth 254 = .ok (.iload 7, 2) := by decide +kernel
theorem dX5_worth_256 : decode cX5_worth 256 = .ok (.ifCond .ne 7, 3) := by decide +kernel
theorem dX5_worth_259 : decode cX5_worth 259 = .ok (.lconst 0, 1) := by decide +kernel
theorem dX5_worth_260 : decode cX5_worth 260 = .ok (.goto 9, 3) := by decide +kernel
theorem dX5_worth_263 : decode cX5_worth 263 = .ok (.iload 6, 2) := by decide +kernel
theorem dX5_worth_265 : decode cX5_worth 265 = .ok (.iload 7, 2) := by decide +kernel
theorem dX5_worth_267 : decode cX5_worth 267 = .ok (.idiv, 1) := by decide +kernel
theorem dX5_worth_268 : decode cX5_worth 268 = .ok (.i2l, 1) := by decide +kernel
theorem dX5_worth_269 : decode cX5_worth 269 = .ok (.lstore 8, 2) := by decide +kernel
theorem dX5_worth_271 : decode cX5_worth 271 = .ok (.goto 62, 3) := by decide +kernel
theorem dX5_worth_274 : decode cX5_worth 274 = .ok (.iload 6, 2) := by decide +kernel
theorem dX5_worth_276 : decode cX5_worth 276 = .ok (.iload 7, 2) := by decide +kernel
theorem dX5_worth_278 : decode cX5_worth 278 = .ok (.if_icmp .ne 7, 3) := by decide +kernel
theorem dX5_worth_281 : decode cX5_worth 281 = .ok (.lconst 1, 1) := by decide +kernel
theorem dX5_worth_282 : decode cX5_worth 282 = .ok (.goto 4, 3) := by decide +kernel
theorem dX5_worth_285 : decode cX5_worth 285 = .ok (.lconst 0, 1) := by decide +kernel
theorem dX5_worth_286 : decode cX5_worth 286 = .ok (.lstore 8, 2) := by decide +kernel
theorem dX5_worth_288 : decode cX5_worth 288 = .ok (.goto 45, 3) := by decide +kernel
theorem dX5_worth_291 : decode cX5_worth 291 = .ok (.iload 6, 2) := by decide +kernel
theorem dX5_worth_293 : decode cX5_worth 293 = .ok (.iload 7, 2) := by decide +kernel
theorem dX5_worth_295 : decode cX5_worth 295 = .ok (.if_icmp .ge 7, 3) := by decide +kernel
theorem dX5_worth_298 : decode cX5_worth 298 = .ok (.lconst 1, 1) := by decide +kernel
theorem dX5_worth_299 : decode cX5_worth 299 = .ok (.goto 4, 3) := by decide +kernel
theorem dX5_worth_302 : decode cX5_worth 302 = .ok (.lconst 0, 1) := by decide +kernel
theorem dX5_worth_303 : decode cX5_worth 303 = .ok (.lstore 8, 2) := by decide +kernel
theorem dX5_worth_305 : decode cX5_worth 305 = .ok (.goto 28, 3) := by decide +kernel
theorem dX5_worth_308 : decode cX5_worth 308 = .ok (.iload 6, 2) := by decide +kernel
theorem dX5_worth_310 : decode cX5_worth 310 = .ok (.iload 7, 2) := by decide +kernel
theorem dX5_worth_312 : decode cX5_worth 312 = .ok (.if_icmp .le 7, 3) := by decide +kernel
theorem dX5_worth_315 : decode cX5_worth 315 = .ok (.lconst 1, 1) := by decide +kernel
theorem dX5_worth_316 : decode cX5_worth 316 = .ok (.goto 4, 3) := by decide +kernel
theorem dX5_worth_319 : decode cX5_worth 319 = .ok (.lconst 0, 1) := by decide +kernel
theorem dX5_worth_320 : decode cX5_worth 320 = .ok (.lstore 8, 2) := by decide +kernel
theorem dX5_worth_322 : decode cX5_worth 322 = .ok (.goto 11, 3) := by decide +kernel
theorem dX5_worth_325 : decode cX5_worth 325 = .ok (.iload 6, 2) := by decide +kernel
theorem dX5_worth_327 : decode cX5_worth 327 = .ok (.iload 7, 2) := by decide +kernel
theorem dX5_worth_329 : decode cX5_worth 329 = .ok (.ior, 1) := by decide +kernel
theorem dX5_worth_330 : decode cX5_worth 330 = .ok (.i2l, 1) := by decide +kernel
theorem dX5_worth_331 : decode cX5_worth 331 = .ok (.lstore 8, 2) := by decide +kernel
theorem dX5_worth_333 : decode cX5_worth 333 = .ok (.aload_n 2, 1) := by decide +kernel
theorem dX5_worth_334 : decode cX5_worth 334 = .ok (.iload_n 3, 1) := by decide +kernel
theorem dX5_worth_335 : decode cX5_worth 335 = .ok (.iconst 1, 1) := by decide +kernel
theorem dX5_worth_336 : decode cX5_worth 336 = .ok (.isub, 1) := by decide +kernel
theorem dX5_worth_337 : decode cX5_worth 337 = .ok (.lload 8, 2) := by decide +kernel
theorem dX5_worth_339 : decode cX5_worth 339 = .ok (.ldc2_w 27, 3) := by decide +kernel
theorem dX5_worth_342 : decode cX5_worth 342 = .ok (.lcmp, 1) := by decide +kernel
theorem dX5_worth_343 : decode cX5_worth 343 = .ok (.ifCond .le 8, 3) := by decide +kernel
theorem dX5_worth_346 : decode cX5_worth 346 = .ok (.ldc 29, 2) := by decide +kernel
theorem dX5_worth_348 : decode cX5_worth 348 = .ok (.goto 20, 3) := by decide +kernel
theorem dX5_worth_351 : decode cX5_worth 351 = .ok (.lload 8, 2) := by decide +kernel
theorem dX5_worth_353 : decode cX5_worth 353 = .ok (.ldc2_w 30, 3) := by decide +kernel
theorem dX5_worth_356 : decode cX5_worth 356 = .ok (.lcmp, 1) := by decide +kernel
theorem dX5_worth_357 : decode cX5_worth 357 = .ok (.ifCond .ge 8, 3) := by decide +kernel
theorem dX5_worth_360 : decode cX5_worth 360 = .ok (.ldc 32, 2) := by decide +kernel
theorem dX5_worth_362 : decode cX5_worth 362 = .ok (.goto 6, 3) := by decide +kernel
theorem dX5_worth_365 : decode cX5_worth 365 = .ok (.lload 8, 2) := by decide +kernel
theorem dX5_worth_367 : decode cX5_worth 367 = .ok (.l2i, 1) := by decide +kernel
theorem dX5_worth_368 : decode cX5_worth 368 = .ok (.iastore, 1) := by decide +kernel
theorem dX5_worth_369 : decode cX5_worth 369 = .ok (.iinc 4 1, 3) := by decide +kernel
theorem dX5_worth_372 : decode cX5_worth 372 = .ok (.goto (-357), 3) := by decide +kernel
theorem dX5_worth_375 : decode cX5_worth 375 = .ok (.iconst 0, 1) := by decide +kernel
theorem dX5_worth_376 : decode cX5_worth 376 = .ok (.ireturn, 1) := by decide +kernel
def fX5_worth_L123 : Nat → eg_H → Nat → Nat → Nat → Int32 → Int32 → Option (Nat × Nat × Nat × Int32 × Int32 × eg_H)
  | 0, _, _, _, _, _, _ => none
  | n + 1, h, l0, l1, l2, l3, l4 =>
    (eg_aI h 100 l2 l3).bind fun v1 =>
    if v1 = 0 then
      ((eg_al h l1).bind fun v4 =>
      if v4 ≤ l4 then
        (some (l0, l1, l2, l3, l4, h))
      else
        (eg_aI h 100 l1 l4).bind fun v7 =>
        if v7 = (-17 : Int32) then
          (some (l0, l1, l2, l3, l4, h))
        else
          fX5_worth_L123 n h l0 l1 l2 l3 (l4 + (1 : Int32)))
    else
      some (l0, l1, l2, l3, l4, h)
set_option maxRecDepth 20000 in
theorem fX5_worth_L123_ok {h0 : eg_H} {Z : eg_C → State → Prop} {N S : Nat} : ∀ (n : Nat) (h : eg_H) (l0 : Nat) (l1 : Nat) (l2 : Nat) (l3 : Int32) (l4 : Int32) (eE : Nat × Nat × Nat × Int32 × Int32 × eg_H), fX5_worth_L123 n h l0 l1 l2 l3 l4 = some eE → (hk0 : ∀ (l0 : Nat) (l1 : Nat) (l2 : Nat) (l3 : Int32) (l4 : Int32) (h : eg_H), eE = (l0, l1, l2, l3, l4, h) → eg_AW (RX5, cX5_worth, 10, 1, none, "worth", (some .int)) Z N S h0 369 [(0, .ref l0), (1, .ref l1), (2, .ref l2), (3, .int l3), (4, .int l4)] [] h) → eg_AW (RX5, cX5_worth, 10, 1, none, "worth", (some .int)) Z N S h0 123 [(0, .ref l0), (1, .ref l1), (2, .ref l2), (3, .int l3), (4, .int l4)] [] h := by
  intro n
  induction n with
  | zero => intro h l0 l1 l2 l3 l4 eE hF; exact absurd hF (by intro q; cases q)
  | succ n ih =>
    intro h l0 l1 l2 l3 l4 eE hF hk0
    have hrec := fun (h' : eg_H) (l0 : Nat) (l1 : Nat) (l2 : Nat) (l3 : Int32) (l4 : Int32) hq => ih h' l0 l1 l2 l3 l4 eE hq hk0
    refine eg_aload_n (i := 2) 2 dX5_worth_123 rfl rfl ?_
    refine eg_iload_n (i := 3) 3 dX5_worth_124 rfl rfl ?_
    replace hF := eg_bind hF; obtain ⟨v1, e2, hF⟩ := hF
    refine eg_iald dX5_worth_125 e2 ?_
    refine eg_if_ne 369 dX5_worth_126 rfl (fun c3 => ?_) (fun c3 => ?_)
    · replace hF := eg_it c3 hF
      refine eg_iload (i := 4) 4 dX5_worth_129 rfl ?_
      refine eg_aload_n (i := 1) 1 dX5_worth_131 rfl rfl ?_
      replace hF := eg_bind hF; obtain ⟨v4, e5, hF⟩ := hF
      refine eg_alen dX5_worth_132 e5 ?_
      refine eg_ic_ge 369 dX5_worth_133 rfl (fun c6 => ?_) (fun c6 => ?_)
      · replace hF := eg_it c6 hF
        exact (hk0 l0 l1 l2 l3 l4 h (Option.some.inj hF).symm)
      · replace hF := eg_if c6 hF
        refine eg_aload_n (i := 1) 1 dX5_worth_136 rfl rfl ?_
        refine eg_iload (i := 4) 4 dX5_worth_137 rfl ?_
        replace hF := eg_bind hF; obtain ⟨v7, e8, hF⟩ := hF
        refine eg_iald dX5_worth_139 e8 ?_
        refine eg_bipush (v := (-17 : Int32)) dX5_worth_140 (by decide) ?_
        refine eg_ic_eq 369 dX5_worth_142 rfl (fun c9 => ?_) (fun c9 => ?_)
        · replace hF := eg_it c9 hF
          exact (hk0 l0 l1 l2 l3 l4 h (Option.some.inj hF).symm)
        · replace hF := eg_if c9 hF
          refine eg_iinc (i := 4) (v := (l4 + (1 : Int32))) 4 [(4, .int (l4 + (1 : Int32))), (0, .ref l0), (1, .ref l1), (2, .ref l2), (3, .int l3)] dX5_worth_145 rfl rfl (Nat.le_of_ble_eq_true rfl) rfl ?_
          refine eg_goto 123 dX5_worth_148 rfl ?_
          exact eg_sub [1, 2, 3, 4, 0] [(0, .ref l0), (1, .ref l1), (2, .ref l2), (3, .int l3), (4, .int (l4 + (1 : Int32)))] rfl (hrec h l0 l1 l2 l3 (l4 + (1 : Int32)) hF)
    · replace hF := eg_if c3 hF
      exact (hk0 l0 l1 l2 l3 l4 h (Option.some.inj hF).symm)
def fX5_worth_j333 (rec : eg_H → Nat → Nat → Nat → Int32 → Int32 → Option ((eg_H) ⊕ (eg_H) ⊕ (eg_H) ⊕ (Nat × Int32 × eg_H) ⊕ (eg_H))) (h : eg_H) (l0 : Nat) (l1 : Nat) (l2 : Nat) (l3 : Int32) (l4 : Int32) (l8 : Int64) : Option ((eg_H) ⊕ (eg_H) ⊕ (eg_H) ⊕ (Nat × Int32 × eg_H) ⊕ (eg_H)) :=
  if l8 ≤ (1000000 : Int64) then
    (if (-1000000 : Int64) ≤ l8 then
      ((eg_wI h 100 l2 (l3 - (1 : Int32)) l8.toInt32).bind fun h3 =>
      rec h3 l0 l1 l2 l3 (l4 + (1 : Int32)))
    else
      (eg_wI h 100 l2 (l3 - (1 : Int32)) (-1000000 : Int32)).bind fun h5 =>
      rec h5 l0 l1 l2 l3 (l4 + (1 : Int32)))
  else
    (eg_wI h 100 l2 (l3 - (1 : Int32)) (1000000 : Int32)).bind fun h7 =>
    rec h7 l0 l1 l2 l3 (l4 + (1 : Int32))
set_option maxRecDepth 20000 in
theorem fX5_worth_j333_ok {rec : eg_H → Nat → Nat → Nat → Int32 → Int32 → Option ((eg_H) ⊕ (eg_H) ⊕ (eg_H) ⊕ (Nat × Int32 × eg_H) ⊕ (eg_H))} {h0 : eg_H} {Z : eg_C → State → Prop} {N S : Nat} (h : eg_H) (l0 : Nat) (l1 : Nat) (l2 : Nat) (l3 : Int32) (l4 : Int32) (l8 : Int64) (eE : (eg_H) ⊕ (eg_H) ⊕ (eg_H) ⊕ (Nat × Int32 × eg_H) ⊕ (eg_H)) (hF : fX5_worth_j333 rec h l0 l1 l2 l3 l4 l8 = some eE) (hrec : ∀ (h : eg_H) (l0 : Nat) (l1 : Nat) (l2 : Nat) (l3 : Int32) (l4 : Int32), rec h l0 l1 l2 l3 l4 = some eE → eg_AW (RX5, cX5_worth, 10, 1, none, "worth", (some .int)) Z N S h0 15 [(0, .ref l0), (1, .ref l1), (2, .ref l2), (3, .int l3), (4, .int l4)] [] h) (hk0 : ∀  (h : eg_H), eE = (.inl h) → eg_AW (RX5, cX5_worth, 10, 1, none, "worth", (some .int)) Z N S h0 375 [] [] h) (hk1 : ∀  (h : eg_H), eE = (.inr (.inl h)) → eg_AW (RX5, cX5_worth, 10, 1, none, "worth", (some .int)) Z N S h0 41 [] [] h) (hk2 : ∀  (h : eg_H), eE = (.inr (.inr (.inl h))) → eg_AW (RX5, cX5_worth, 10, 1, none, "worth", (some .int)) Z N S h0 76 [] [] h) (hk3 : ∀ (l2 : Nat) (l3 : Int32) (h : eg_H), eE = (.inr (.inr (.inr (.inl (l2, l3, h))))) → eg_AW (RX5, cX5_worth, 10, 1, none, "worth", (some .int)) Z N S h0 85 [(2, .ref l2), (3, .int l3)] [] h) (hk4 : ∀  (h : eg_H), eE = (.inr (.inr (.inr (.inr (h))))) → eg_AW (RX5, cX5_worth, 10, 1, none, "worth", (some .int)) Z N S h0 156 [] [] h) : eg_AW (RX5, cX5_worth, 10, 1, none, "worth", (some .int)) Z N S h0 333 [(0, .ref l0), (1, .ref l1), (2, .ref l2), (3, .int l3), (4, .int l4), (8, .long l8)] [] h := by
  refine eg_aload_n (i := 2) 2 dX5_worth_333 rfl rfl ?_
  refine eg_iload_n (i := 3) 3 dX5_worth_334 rfl rfl ?_
  refine eg_iconst (v := (1 : Int32)) dX5_worth_335 (by decide) ?_
  refine eg_isub dX5_worth_336 ?_
  refine eg_lload (i := 8) 5 dX5_worth_337 rfl ?_
  refine eg_ldc2 (v := (1000000 : Int64)) dX5_worth_339 ew_774 ?_
  refine eg_lc_le 351 dX5_worth_342 dX5_worth_343 rfl (fun c1 => ?_) (fun c1 => ?_)
  · replace hF := eg_it c1 hF
    refine eg_lload (i := 8) 5 dX5_worth_351 rfl ?_
    refine eg_ldc2 (v := (-1000000 : Int64)) dX5_worth_353 ew_776 ?_
    refine eg_lc_ge 365 dX5_worth_356 dX5_worth_357 rfl (fun c2 => ?_) (fun c2 => ?_)
    · replace hF := eg_it c2 hF
      refine eg_lload (i := 8) 5 dX5_worth_365 rfl ?_
      refine eg_l2i dX5_worth_367 ?_
      replace hF := eg_bind hF; obtain ⟨h3, e4, hF⟩ := hF
      refine eg_iast dX5_worth_368 e4 ?_
      refine eg_iinc (i := 4) (v := (l4 + (1 : Int32))) 4 [(4, .int (l4 + (1 : Int32))), (0, .ref l0), (1, .ref l1), (2, .ref l2), (3, .int l3), (8, .long l8)] dX5_worth_369 rfl rfl (Nat.le_of_ble_eq_true rfl) rfl ?_
      refine eg_goto 15 dX5_worth_372 rfl ?_
      exact eg_sub [1, 2, 3, 4, 0] [(0, .ref l0), (1, .ref l1), (2, .ref l2), (3, .int l3), (4, .int (l4 + (1 : Int32)))] rfl (hrec h3 l0 l1 l2 l3 (l4 + (1 : Int32)) hF)
    · replace hF := eg_if c2 hF
      refine eg_ldc (v := (-1000000 : Int32)) dX5_worth_360 ew_777 ?_
      refine eg_goto 368 dX5_worth_362 rfl ?_
      replace hF := eg_bind hF; obtain ⟨h5, e6, hF⟩ := hF
      refine eg_iast dX5_worth_368 e6 ?_
      refine eg_iinc (i := 4) (v := (l4 + (1 : Int32))) 4 [(4, .int (l4 + (1 : Int32))), (0, .ref l0), (1, .ref l1), (2, .ref l2), (3, .int l3), (8, .long l8)] dX5_worth_369 rfl rfl (Nat.le_of_ble_eq_true rfl) rfl ?_
      refine eg_goto 15 dX5_worth_372 rfl ?_
      exact eg_sub [1, 2, 3, 4, 0] [(0, .ref l0), (1, .ref l1), (2, .ref l2), (3, .int l3), (4, .int (l4 + (1 : Int32)))] rfl (hrec h5 l0 l1 l2 l3 (l4 + (1 : Int32)) hF)
  · replace hF := eg_if c1 hF
    refine eg_ldc (v := (1000000 : Int32)) dX5_worth_346 ew_775 ?_
    refine eg_goto 368 dX5_worth_348 rfl ?_
    replace hF := eg_bind hF; obtain ⟨h7, e8, hF⟩ := hF
    refine eg_iast dX5_worth_368 e8 ?_
    refine eg_iinc (i := 4) (v := (l4 + (1 : Int32))) 4 [(4, .int (l4 + (1 : Int32))), (0, .ref l0), (1, .ref l1), (2, .ref l2), (3, .int l3), (8, .long l8)] dX5_worth_369 rfl rfl (Nat.le_of_ble_eq_true rfl) rfl ?_
    refine eg_goto 15 dX5_worth_372 rfl ?_
    exact eg_sub [1, 2, 3, 4, 0] [(0, .ref l0), (1, .ref l1), (2, .ref l2), (3, .int l3), (4, .int (l4 + (1 : Int32)))] rfl (hrec h7 l0 l1 l2 l3 (l4 + (1 : Int32)) hF)
def fX5_worth_j242 (rec : eg_H → Nat → Nat → Nat → Int32 → Int32 → Option ((eg_H) ⊕ (eg_H) ⊕ (eg_H) ⊕ (Nat × Int32 × eg_H) ⊕ (eg_H))) (h : eg_H) (l0 : Nat) (l1 : Nat) (l2 : Nat) (l3 : Int32) (l4 : Int32) (l6 : Int32) (l7 : Int32) : Option ((eg_H) ⊕ (eg_H) ⊕ (eg_H) ⊕ (Nat × Int32 × eg_H) ⊕ (eg_H)) :=
  (some ((l6.toInt64 * l7.toInt64))).bind fun v1 =>
  fX5_worth_j333 rec h l0 l1 l2 l3 l4 v1
set_option maxRecDepth 20000 in
theorem fX5_worth_j242_ok {rec : eg_H → Nat → Nat → Nat → Int32 → Int32 → Option ((eg_H) ⊕ (eg_H) ⊕ (eg_H) ⊕ (Nat × Int32 × eg_H) ⊕ (eg_H))} {h0 : eg_H} {Z : eg_C → State → Prop} {N S : Nat} (h : eg_H) (l0 : Nat) (l1 : Nat) (l2 : Nat) (l3 : Int32) (l4 : Int32) (l6 : Int32) (l7 : Int32) (eE : (eg_H) ⊕ (eg_H) ⊕ (eg_H) ⊕ (Nat × Int32 × eg_H) ⊕ (eg_H)) (hF : fX5_worth_j242 rec h l0 l1 l2 l3 l4 l6 l7 = some eE) (hrec : ∀ (h : eg_H) (l0 : Nat) (l1 : Nat) (l2 : Nat) (l3 : Int32) (l4 : Int32), rec h l0 l1 l2 l3 l4 = some eE → eg_AW (RX5, cX5_worth, 10, 1, none, "worth", (some .int)) Z N S h0 15 [(0, .ref l0), (1, .ref l1), (2, .ref l2), (3, .int l3), (4, .int l4)] [] h) (hk0 : ∀  (h : eg_H), eE = (.inl h) → eg_AW (RX5, cX5_worth, 10, 1, none, "worth", (some .int)) Z N S h0 375 [] [] h) (hk1 : ∀  (h : eg_H), eE = (.inr (.inl h)) → eg_AW (RX5, cX5_worth, 10, 1, none, "worth", (some .int)) Z N S h0 41 [] [] h) (hk2 : ∀  (h : eg_H), eE = (.inr (.inr (.inl h))) → eg_AW (RX5, cX5_worth, 10, 1, none, "worth", (some .int)) Z N S h0 76 [] [] h) (hk3 : ∀ (l2 : Nat) (l3 : Int32) (h : eg_H), eE = (.inr (.inr (.inr (.inl (l2, l3, h))))) → eg_AW (RX5, cX5_worth, 10, 1, none, "worth", (some .int)) Z N S h0 85 [(2, .ref l2), (3, .int l3)] [] h) (hk4 : ∀  (h : eg_H), eE = (.inr (.inr (.inr (.inr (h))))) → eg_AW (RX5, cX5_worth, 10, 1, none, "worth", (some .int)) Z N S h0 156 [] [] h) : eg_AW (RX5, cX5_worth, 10, 1, none, "worth", (some .int)) Z N S h0 242 [(0, .ref l0), (1, .ref l1), (2, .ref l2), (3, .int l3), (4, .int l4), (6, .int l6), (7, .int l7)] [] h := by
  refine eg_iload (i := 6) 5 dX5_worth_242 rfl ?_
  refine eg_i2l dX5_worth_244 ?_
  refine eg_iload (i := 7) 6 dX5_worth_245 rfl ?_
  refine eg_i2l dX5_worth_247 ?_
  refine eg_lmul dX5_worth_248 ?_
  replace hF := eg_bind hF; obtain ⟨v1, e2, hF⟩ := hF
  replace e2 := Option.some.inj e2
  rw [e2]
  refine eg_lstore (i := 8) [(8, .long v1), (0, .ref l0), (1, .ref l1), (2, .ref l2), (3, .int l3), (4, .int l4), (6, .int l6), (7, .int l7)] dX5_worth_249 (Nat.le_of_ble_eq_true rfl) rfl ?_
  refine eg_goto 333 dX5_worth_251 rfl ?_
  exact eg_sub [1, 2, 3, 4, 5, 0] [(0, .ref l0), (1, .ref l1), (2, .ref l2), (3, .int l3), (4, .int l4), (8, .long v1)] rfl (fX5_worth_j333_ok h l0 l1 l2 l3 l4 v1 eE hF hrec hk0 hk1 hk2 hk3 hk4)
def fX5_worth_j320 (rec : eg_H → Nat → Nat → Nat → Int32 → Int32 → Option ((eg_H) ⊕ (eg_H) ⊕ (eg_H) ⊕ (Nat × Int32 × eg_H) ⊕ (eg_H))) (h : eg_H) (l0 : Nat) (l1 : Nat) (l2 : Nat) (l3 : Int32) (l4 : Int32) (s0 : Int64) : Option ((eg_H) ⊕ (eg_H) ⊕ (eg_H) ⊕ (Nat × Int32 × eg_H) ⊕ (eg_H)) :=
  fX5_worth_j333 rec h l0 l1 l2 l3 l4 s0
set_option maxRecDepth 20000 in
theorem fX5_worth_j320_ok {rec : eg_H → Nat → Nat → Nat → Int32 → Int32 → Option ((eg_H) ⊕ (eg_H) ⊕ (eg_H) ⊕ (Nat × Int32 × eg_H) ⊕ (eg_H))} {h0 : eg_H} {Z : eg_C → State → Prop} {N S : Nat} (h : eg_H) (l0 : Nat) (l1 : Nat) (l2 : Nat) (l3 : Int32) (l4 : Int32) (s0 : Int64) (eE : (eg_H) ⊕ (eg_H) ⊕ (eg_H) ⊕ (Nat × Int32 × eg_H) ⊕ (eg_H)) (hF : fX5_worth_j320 rec h l0 l1 l2 l3 l4 s0 = some eE) (hrec : ∀ (h : eg_H) (l0 : Nat) (l1 : Nat) (l2 : Nat) (l3 : Int32) (l4 : Int32), rec h l0 l1 l2 l3 l4 = some eE → eg_AW (RX5, cX5_worth, 10, 1, none, "worth", (some .int)) Z N S h0 15 [(0, .ref l0), (1, .ref l1), (2, .ref l2), (3, .int l3), (4, .int l4)] [] h) (hk0 : ∀  (h : eg_H), eE = (.inl h) → eg_AW (RX5, cX5_worth, 10, 1, none, "worth", (some .int)) Z N S h0 375 [] [] h) (hk1 : ∀  (h : eg_H), eE = (.inr (.inl h)) → eg_AW (RX5, cX5_worth, 10, 1, none, "worth", (some .int)) Z N S h0 41 [] [] h) (hk2 : ∀  (h : eg_H), eE = (.inr (.inr (.inl h))) → eg_AW (RX5, cX5_worth, 10, 1, none, "worth", (some .int)) Z N S h0 76 [] [] h) (hk3 : ∀ (l2 : Nat) (l3 : Int32) (h : eg_H), eE = (.inr (.inr (.inr (.inl (l2, l3, h))))) → eg_AW (RX5, cX5_worth, 10, 1, none, "worth", (some .int)) Z N S h0 85 [(2, .ref l2), (3, .int l3)] [] h) (hk4 : ∀  (h : eg_H), eE = (.inr (.inr (.inr (.inr (h))))) → eg_AW (RX5, cX5_worth, 10, 1, none, "worth", (some .int)) Z N S h0 156 [] [] h) : eg_AW (RX5, cX5_worth, 10, 1, none, "worth", (some .int)) Z N S h0 320 [(0, .ref l0), (1, .ref l1), (2, .ref l2), (3, .int l3), (4, .int l4)] [.long s0] h := by
  refine eg_lstore (i := 8) [(8, .long s0), (0, .ref l0), (1, .ref l1), (2, .ref l2), (3, .int l3), (4, .int l4)] dX5_worth_320 (Nat.le_of_ble_eq_true rfl) rfl ?_
  refine eg_goto 333 dX5_worth_322 rfl ?_
  exact eg_sub [1, 2, 3, 4, 5, 0] [(0, .ref l0), (1, .ref l1), (2, .ref l2), (3, .int l3), (4, .int l4), (8, .long s0)] rfl (fX5_worth_j333_ok h l0 l1 l2 l3 l4 s0 eE hF hrec hk0 hk1 hk2 hk3 hk4)
def fX5_worth_j303 (rec : eg_H → Nat → Nat → Nat → Int32 → Int32 → Option ((eg_H) ⊕ (eg_H) ⊕ (eg_H) ⊕ (Nat × Int32 × eg_H) ⊕ (eg_H))) (h : eg_H) (l0 : Nat) (l1 : Nat) (l2 : Nat) (l3 : Int32) (l4 : Int32) (s0 : Int64) : Option ((eg_H) ⊕ (eg_H) ⊕ (eg_H) ⊕ (Nat × Int32 × eg_H) ⊕ (eg_H)) :=
  fX5_worth_j333 rec h l0 l1 l2 l3 l4 s0
set_option maxRecDepth 20000 in
theorem fX5_worth_j303_ok {rec : eg_H → Nat → Nat → Nat → Int32 → Int32 → Option ((eg_H) ⊕ (eg_H) ⊕ (eg_H) ⊕ (Nat × Int32 × eg_H) ⊕ (eg_H))} {h0 : eg_H} {Z : eg_C → State → Prop} {N S : Nat} (h : eg_H) (l0 : Nat) (l1 : Nat) (l2 : Nat) (l3 : Int32) (l4 : Int32) (s0 : Int64) (eE : (eg_H) ⊕ (eg_H) ⊕ (eg_H) ⊕ (Nat × Int32 × eg_H) ⊕ (eg_H)) (hF : fX5_worth_j303 rec h l0 l1 l2 l3 l4 s0 = some eE) (hrec : ∀ (h : eg_H) (l0 : Nat) (l1 : Nat) (l2 : Nat) (l3 : Int32) (l4 : Int32), rec h l0 l1 l2 l3 l4 = some eE → eg_AW (RX5, cX5_worth, 10, 1, none, "worth", (some .int)) Z N S h0 15 [(0, .ref l0), (1, .ref l1), (2, .ref l2), (3, .int l3), (4, .int l4)] [] h) (hk0 : ∀  (h : eg_H), eE = (.inl h) → eg_AW (RX5, cX5_worth, 10, 1, none, "worth", (some .int)) Z N S h0 375 [] [] h) (hk1 : ∀  (h : eg_H), eE = (.inr (.inl h)) → eg_AW (RX5, cX5_worth, 10, 1, none, "worth", (some .int)) Z N S h0 41 [] [] h) (hk2 : ∀  (h : eg_H), eE = (.inr (.inr (.inl h))) → eg_AW (RX5, cX5_worth, 10, 1, none, "worth", (some .int)) Z N S h0 76 [] [] h) (hk3 : ∀ (l2 : Nat) (l3 : Int32) (h : eg_H), eE = (.inr (.inr (.inr (.inl (l2, l3, h))))) → eg_AW (RX5, cX5_worth, 10, 1, none, "worth", (some .int)) Z N S h0 85 [(2, .ref l2), (3, .int l3)] [] h) (hk4 : ∀  (h : eg_H), eE = (.inr (.inr (.inr (.inr (h))))) → eg_AW (RX5, cX5_worth, 10, 1, none, "worth", (some .int)) Z N S h0 156 [] [] h) : eg_AW (RX5, cX5_worth, 10, 1, none, "worth", (some .int)) Z N S h0 303 [(0, .ref l0), (1, .ref l1), (2, .ref l2), (3, .int l3), (4, .int l4)] [.long s0] h := by
  refine eg_lstore (i := 8) [(8, .long s0), (0, .ref l0), (1, .ref l1), (2, .ref l2), (3, .int l3), (4, .int l4)] dX5_worth_303 (Nat.le_of_ble_eq_true rfl) rfl ?_
  refine eg_goto 333 dX5_worth_305 rfl ?_
  exact eg_sub [1, 2, 3, 4, 5, 0] [(0, .ref l0), (1, .ref l1), (2, .ref l2), (3, .int l3), (4, .int l4), (8, .long s0)] rfl (fX5_worth_j333_ok h l0 l1 l2 l3 l4 s0 eE hF hrec hk0 hk1 hk2 hk3 hk4)
def fX5_worth_j286 (rec : eg_H → Nat → Nat → Nat → Int32 → Int32 → Option ((eg_H) ⊕ (eg_H) ⊕ (eg_H) ⊕ (Nat × Int32 × eg_H) ⊕ (eg_H))) (h : eg_H) (l0 : Nat) (l1 : Nat) (l2 : Nat) (l3 : Int32) (l4 : Int32) (s0 : Int64) : Option ((eg_H) ⊕ (eg_H) ⊕ (eg_H) ⊕ (Nat × Int32 × eg_H) ⊕ (eg_H)) :=
  fX5_worth_j333 rec h l0 l1 l2 l3 l4 s0
set_option maxRecDepth 20000 in
theorem fX5_worth_j286_ok {rec : eg_H → Nat → Nat → Nat → Int32 → Int32 → Option ((eg_H) ⊕ (eg_H) ⊕ (eg_H) ⊕ (Nat × Int32 × eg_H) ⊕ (eg_H))} {h0 : eg_H} {Z : eg_C → State → Prop} {N S : Nat} (h : eg_H) (l0 : Nat) (l1 : Nat) (l2 : Nat) (l3 : Int32) (l4 : Int32) (s0 : Int64) (eE : (eg_H) ⊕ (eg_H) ⊕ (eg_H) ⊕ (Nat × Int32 × eg_H) ⊕ (eg_H)) (hF : fX5_worth_j286 rec h l0 l1 l2 l3 l4 s0 = some eE) (hrec : ∀ (h : eg_H) (l0 : Nat) (l1 : Nat) (l2 : Nat) (l3 : Int32) (l4 : Int32), rec h l0 l1 l2 l3 l4 = some eE → eg_AW (RX5, cX5_worth, 10, 1, none, "worth", (some .int)) Z N S h0 15 [(0, .ref l0), (1, .ref l1), (2, .ref l2), (3, .int l3), (4, .int l4)] [] h) (hk0 : ∀  (h : eg_H), eE = (.inl h) → eg_AW (RX5, cX5_worth, 10, 1, none, "worth", (some .int)) Z N S h0 375 [] [] h) (hk1 : ∀  (h : eg_H), eE = (.inr (.inl h)) → eg_AW (RX5, cX5_worth, 10, 1, none, "worth", (some .int)) Z N S h0 41 [] [] h) (hk2 : ∀  (h : eg_H), eE = (.inr (.inr (.inl h))) → eg_AW (RX5, cX5_worth, 10, 1, none, "worth", (some .int)) Z N S h0 76 [] [] h) (hk3 : ∀ (l2 : Nat) (l3 : Int32) (h : eg_H), eE = (.inr (.inr (.inr (.inl (l2, l3, h))))) → eg_AW (RX5, cX5_worth, 10, 1, none, "worth", (some .int)) Z N S h0 85 [(2, .ref l2), (3, .int l3)] [] h) (hk4 : ∀  (h : eg_H), eE = (.inr (.inr (.inr (.inr (h))))) → eg_AW (RX5, cX5_worth, 10, 1, none, "worth", (some .int)) Z N S h0 156 [] [] h) : eg_AW (RX5, cX5_worth, 10, 1, none, "worth", (some .int)) Z N S h0 286 [(0, .ref l0), (1, .ref l1), (2, .ref l2), (3, .int l3), (4, .int l4)] [.long s0] h := by
  refine eg_lstore (i := 8) [(8, .long s0), (0, .ref l0), (1, .ref l1), (2, .ref l2), (3, .int l3), (4, .int l4)] dX5_worth_286 (Nat.le_of_ble_eq_true rfl) rfl ?_
  refine eg_goto 333 dX5_worth_288 rfl ?_
  exact eg_sub [1, 2, 3, 4, 5, 0] [(0, .ref l0), (1, .ref l1), (2, .ref l2), (3, .int l3), (4, .int l4), (8, .long s0)] rfl (fX5_worth_j333_ok h l0 l1 l2 l3 l4 s0 eE hF hrec hk0 hk1 hk2 hk3 hk4)
def fX5_worth_j269 (rec : eg_H → Nat → Nat → Nat → Int32 → Int32 → Option ((eg_H) ⊕ (eg_H) ⊕ (eg_H) ⊕ (Nat × Int32 × eg_H) ⊕ (eg_H))) (h : eg_H) (l0 : Nat) (l1 : Nat) (l2 : Nat) (l3 : Int32) (l4 : Int32) (s0 : Int64) : Option ((eg_H) ⊕ (eg_H) ⊕ (eg_H) ⊕ (Nat × Int32 × eg_H) ⊕ (eg_H)) :=
  fX5_worth_j333 rec h l0 l1 l2 l3 l4 s0
set_option maxRecDepth 20000 in
theorem fX5_worth_j269_ok {rec : eg_H → Nat → Nat → Nat → Int32 → Int32 → Option ((eg_H) ⊕ (eg_H) ⊕ (eg_H) ⊕ (Nat × Int32 × eg_H) ⊕ (eg_H))} {h0 : eg_H} {Z : eg_C → State → Prop} {N S : Nat} (h : eg_H) (l0 : Nat) (l1 : Nat) (l2 : Nat) (l3 : Int32) (l4 : Int32) (s0 : Int64) (eE : (eg_H) ⊕ (eg_H) ⊕ (eg_H) ⊕ (Nat × Int32 × eg_H) ⊕ (eg_H)) (hF : fX5_worth_j269 rec h l0 l1 l2 l3 l4 s0 = some eE) (hrec : ∀ (h : eg_H) (l0 : Nat) (l1 : Nat) (l2 : Nat) (l3 : Int32) (l4 : Int32), rec h l0 l1 l2 l3 l4 = some eE → eg_AW (RX5, cX5_worth, 10, 1, none, "worth", (some .int)) Z N S h0 15 [(0, .ref l0), (1, .ref l1), (2, .ref l2), (3, .int l3), (4, .int l4)] [] h) (hk0 : ∀  (h : eg_H), eE = (.inl h) → eg_AW (RX5, cX5_worth, 10, 1, none, "worth", (some .int)) Z N S h0 375 [] [] h) (hk1 : ∀  (h : eg_H), eE = (.inr (.inl h)) → eg_AW (RX5, cX5_worth, 10, 1, none, "worth", (some .int)) Z N S h0 41 [] [] h) (hk2 : ∀  (h : eg_H), eE = (.inr (.inr (.inl h))) → eg_AW (RX5, cX5_worth, 10, 1, none, "worth", (some .int)) Z N S h0 76 [] [] h) (hk3 : ∀ (l2 : Nat) (l3 : Int32) (h : eg_H), eE = (.inr (.inr (.inr (.inl (l2, l3, h))))) → eg_AW (RX5, cX5_worth, 10, 1, none, "worth", (some .int)) Z N S h0 85 [(2, .ref l2), (3, .int l3)] [] h) (hk4 : ∀  (h : eg_H), eE = (.inr (.inr (.inr (.inr (h))))) → eg_AW (RX5, cX5_worth, 10, 1, none, "worth", (some .int)) Z N S h0 156 [] [] h) : eg_AW (RX5, cX5_worth, 10, 1, none, "worth", (some .int)) Z N S h0 269 [(0, .ref l0), (1, .ref l1), (2, .ref l2), (3, .int l3), (4, .int l4)] [.long s0] h := by
  refine eg_lstore (i := 8) [(8, .long s0), (0, .ref l0), (1, .ref l1), (2, .ref l2), (3, .int l3), (4, .int l4)] dX5_worth_269 (Nat.le_of_ble_eq_true rfl) rfl ?_
  refine eg_goto 333 dX5_worth_271 rfl ?_
  exact eg_sub [1, 2, 3, 4, 5, 0] [(0, .ref l0), (1, .ref l1), (2, .ref l2), (3, .int l3), (4, .int l4), (8, .long s0)] rfl (fX5_worth_j333_ok h l0 l1 l2 l3 l4 s0 eE hF hrec hk0 hk1 hk2 hk3 hk4)
def fX5_worth_L15 : Nat → eg_H → Nat → Nat → Nat → Int32 → Int32 → Option ((eg_H) ⊕ (eg_H) ⊕ (eg_H) ⊕ (Nat × Int32 × eg_H) ⊕ (eg_H))
  | 0, _, _, _, _, _, _ => none
  | n + 1, h, l0, l1, l2, l3, l4 =>
    (eg_al h l1).bind fun v1 =>
    if v1 ≤ l4 then
      (some (.inl h))
    else
      (eg_aI h 100 l1 l4).bind fun v4 =>
      if v4 < (-5 : Int32) then
        (if (1 : Int32) ≤ l3 then
          (if v4 = (-17 : Int32) then
            (some (.inr (.inr (.inr (.inl (l2, l3, h))))))
          else
            if v4 = (-15 : Int32) then
              ((eg_aI h 100 l2 (l3 - (1 : Int32))).bind fun v10 =>
              (eg_wI h 100 l2 (l3 - (1 : Int32)) ((1 : Int32) - v10)).bind fun h12 =>
              fX5_worth_L15 n h12 l0 l1 l2 l3 (l4 + (1 : Int32)))
            else
              if v4 = (-16 : Int32) then
                ((fX5_worth_L123 eg_F h l0 l1 l2 (l3 + (-1 : Int32)) l4).bind fun e =>
                match e with
                | (p17, p18, p19, v20, v21, h22) =>
                  fX5_worth_L15 n h22 p17 p18 p19 v20 (v21 + (1 : Int32)))
              else
                if (2 : Int32) ≤ l3 then
                  ((eg_aI h 100 l2 ((l3 + (-1 : Int32)) - (1 : Int32))).bind fun v25 =>
                  (eg_aI h 100 l2 (l3 + (-1 : Int32))).bind fun v27 =>
                  if v4 = (-13 : Int32) then
                    (fX5_worth_j242 (fX5_worth_L15 n) h l0 l1 l2 (l3 + (-1 : Int32)) l4 v25 v27)
                  else
                  if v4 = (-12 : Int32) then
                    (if v25 ≤ v27 then
                      (fX5_worth_j320 (fX5_worth_L15 n) h l0 l1 l2 (l3 + (-1 : Int32)) l4 (0 : Int64))
                    else
                      fX5_worth_j320 (fX5_worth_L15 n) h l0 l1 l2 (l3 + (-1 : Int32)) l4 (1 : Int64))
                  else
                  if v4 = (-11 : Int32) then
                    (if v27 ≤ v25 then
                      (fX5_worth_j303 (fX5_worth_L15 n) h l0 l1 l2 (l3 + (-1 : Int32)) l4 (0 : Int64))
                    else
                      fX5_worth_j303 (fX5_worth_L15 n) h l0 l1 l2 (l3 + (-1 : Int32)) l4 (1 : Int64))
                  else
                  if v4 = (-10 : Int32) then
                    (if v25 = v27 then
                      (fX5_worth_j286 (fX5_worth_L15 n) h l0 l1 l2 (l3 + (-1 : Int32)) l4 (1 : Int64))
                    else
                      fX5_worth_j286 (fX5_worth_L15 n) h l0 l1 l2 (l3 + (-1 : Int32)) l4 (0 : Int64))
                  else
                  if v4 = (-9 : Int32) then
                    (if v27 = 0 then
                      (fX5_worth_j269 (fX5_worth_L15 n) h l0 l1 l2 (l3 + (-1 : Int32)) l4 (0 : Int64))
                    else
                      if v27 = 0 then none else
                      fX5_worth_j269 (fX5_worth_L15 n) h l0 l1 l2 (l3 + (-1 : Int32)) l4 ((v25 / v27).toInt64))
                  else
                  if v4 = (-8 : Int32) then
                    (fX5_worth_j242 (fX5_worth_L15 n) h l0 l1 l2 (l3 + (-1 : Int32)) l4 v25 v27)
                  else
                  if v4 = (-7 : Int32) then
                    ((some ((v25 - v27).toInt64)).bind fun v41 =>
                    fX5_worth_j333 (fX5_worth_L15 n) h l0 l1 l2 (l3 + (-1 : Int32)) l4 v41)
                  else
                  if v4 = (-6 : Int32) then
                    ((some ((v25 + v27).toInt64)).bind fun v44 =>
                    fX5_worth_j333 (fX5_worth_L15 n) h l0 l1 l2 (l3 + (-1 : Int32)) l4 v44)
                  else
                  (some ((v25 ||| v27).toInt64)).bind fun v46 =>
                  fX5_worth_j333 (fX5_worth_L15 n) h l0 l1 l2 (l3 + (-1 : Int32)) l4 v46)
                else
                  some (.inr (.inr (.inr (.inr (h))))))
        else
          some (.inr (.inr (.inl h))))
      else
        (eg_al h l2).bind fun v48 =>
        if l3 < v48 then
          (if v4 < 0 then
            ((eg_gR h 5 2 l0).bind fun p52 =>
            (eg_aI h 100 p52 ((-1 : Int32) - v4)).bind fun v54 =>
            (eg_wI h 100 l2 l3 v54).bind fun h56 =>
            fX5_worth_L15 n h56 l0 l1 l2 (l3 + (1 : Int32)) (l4 + (1 : Int32)))
          else
            (eg_wI h 100 l2 l3 v4).bind fun h58 =>
            fX5_worth_L15 n h58 l0 l1 l2 (l3 + (1 : Int32)) (l4 + (1 : Int32)))
        else
          some (.inr (.inl h))
set_option maxRecDepth 20000 in
theorem fX5_worth_L15_ok {h0 : eg_H} {Z : eg_C → State → Prop} {N S : Nat} : ∀ (n : Nat) (h : eg_H) (l0 : Nat) (l1 : Nat) (l2 : Nat) (l3 : Int32) (l4 : Int32) (eE : (eg_H) ⊕ (eg_H) ⊕ (eg_H) ⊕ (Nat × Int32 × eg_H) ⊕ (eg_H)), fX5_worth_L15 n h l0 l1 l2 l3 l4 = some eE → (hk0 : ∀  (h : eg_H), eE = (.inl h) → eg_AW (RX5, cX5_worth, 10, 1, none, "worth", (some .int)) Z N S h0 375 [] [] h) → (hk1 : ∀  (h : eg_H), eE = (.inr (.inl h)) → eg_AW (RX5, cX5_worth, 10, 1, none, "worth", (some .int)) Z N S h0 41 [] [] h) → (hk2 : ∀  (h : eg_H), eE = (.inr (.inr (.inl h))) → eg_AW (RX5, cX5_worth, 10, 1, none, "worth", (some .int)) Z N S h0 76 [] [] h) → (hk3 : ∀ (l2 : Nat) (l3 : Int32) (h : eg_H), eE = (.inr (.inr (.inr (.inl (l2, l3, h))))) → eg_AW (RX5, cX5_worth, 10, 1, none, "worth", (some .int)) Z N S h0 85 [(2, .ref l2), (3, .int l3)] [] h) → (hk4 : ∀  (h : eg_H), eE = (.inr (.inr (.inr (.inr (h))))) → eg_AW (RX5, cX5_worth, 10, 1, none, "worth", (some .int)) Z N S h0 156 [] [] h) → eg_AW (RX5, cX5_worth, 10, 1, none, "worth", (some .int)) Z N S h0 15 [(0, .ref l0), (1, .ref l1), (2, .ref l2), (3, .int l3), (4, .int l4)] [] h := by
  intro n
  induction n with
  | zero => intro h l0 l1 l2 l3 l4 eE hF; exact absurd hF (by intro q; cases q)
  | succ n ih =>
    intro h l0 l1 l2 l3 l4 eE hF hk0 hk1 hk2 hk3 hk4
    have hrec := fun (h' : eg_H) (l0 : Nat) (l1 : Nat) (l2 : Nat) (l3 : Int32) (l4 : Int32) hq => ih h' l0 l1 l2 l3 l4 eE hq hk0 hk1 hk2 hk3 hk4
    refine eg_iload (i := 4) 4 dX5_worth_15 rfl ?_
    refine eg_aload_n (i := 1) 1 dX5_worth_17 rfl rfl ?_
    replace hF := eg_bind hF; obtain ⟨v1, e2, hF⟩ := hF
    refine eg_alen dX5_worth_18 e2 ?_
    refine eg_ic_ge 375 dX5_worth_19 rfl (fun c3 => ?_) (fun c3 => ?_)
    · replace hF := eg_it c3 hF
      exact eg_sub [] [] rfl (hk0 h (Option.some.inj hF).symm)
    · replace hF := eg_if c3 hF
      refine eg_aload_n (i := 1) 1 dX5_worth_22 rfl rfl ?_
      refine eg_iload (i := 4) 4 dX5_worth_23 rfl ?_
      replace hF := eg_bind hF; obtain ⟨v4, e5, hF⟩ := hF
      refine eg_iald dX5_worth_25 e5 ?_
      refine eg_istore (i := 5) [(5, .int v4), (0, .ref l0), (1, .ref l1), (2, .ref l2), (3, .int l3), (4, .int l4)] dX5_worth_26 (Nat.le_of_ble_eq_true rfl) rfl ?_
      refine eg_iload (i := 5) 0 dX5_worth_28 rfl ?_
      refine eg_bipush (v := (-5 : Int32)) dX5_worth_30 (by decide) ?_
      refine eg_ic_lt 71 dX5_worth_32 rfl (fun c6 => ?_) (fun c6 => ?_)
      · replace hF := eg_it c6 hF
        refine eg_iload_n (i := 3) 4 dX5_worth_71 rfl rfl ?_
        refine eg_iconst (v := (1 : Int32)) dX5_worth_72 (by decide) ?_
        refine eg_ic_ge 78 dX5_worth_73 rfl (fun c7 => ?_) (fun c7 => ?_)
        · replace hF := eg_it c7 hF
          refine eg_iload (i := 5) 0 dX5_worth_78 rfl ?_
          refine eg_bipush (v := (-17 : Int32)) dX5_worth_80 (by decide) ?_
          refine eg_ic_ne 91 dX5_worth_82 rfl (fun c8 => ?_) (fun c8 => ?_)
          · replace hF := eg_it c8 hF
            exact eg_sub [3, 4] [(2, .ref l2), (3, .int l3)] rfl (hk3 l2 l3 h (Option.some.inj hF).symm)
          · replace hF := eg_if c8 hF
            refine eg_iload (i := 5) 0 dX5_worth_91 rfl ?_
            refine eg_bipush (v := (-15 : Int32)) dX5_worth_93 (by decide) ?_
            refine eg_ic_ne 113 dX5_worth_95 rfl (fun c9 => ?_) (fun c9 => ?_)
            · replace hF := eg_it c9 hF
              refine eg_aload_n (i := 2) 3 dX5_worth_98 rfl rfl ?_
              refine eg_iload_n (i := 3) 4 dX5_worth_99 rfl rfl ?_
              refine eg_iconst (v := (1 : Int32)) dX5_worth_100 (by decide) ?_
              refine eg_isub dX5_worth_101 ?_
              refine eg_iconst (v := (1 : Int32)) dX5_worth_102 (by decide) ?_
              refine eg_aload_n (i := 2) 3 dX5_worth_103 rfl rfl ?_
              refine eg_iload_n (i := 3) 4 dX5_worth_104 rfl rfl ?_
              refine eg_iconst (v := (1 : Int32)) dX5_worth_105 (by decide) ?_
              refine eg_isub dX5_worth_106 ?_
              replace hF := eg_bind hF; obtain ⟨v10, e11, hF⟩ := hF
              refine eg_iald dX5_worth_107 e11 ?_
              refine eg_isub dX5_worth_108 ?_
              replace hF := eg_bind hF; obtain ⟨h12, e13, hF⟩ := hF
              refine eg_iast dX5_worth_109 e13 ?_
              refine eg_goto 369 dX5_worth_110 rfl ?_
              refine eg_iinc (i := 4) (v := (l4 + (1 : Int32))) 5 [(4, .int (l4 + (1 : Int32))), (5, .int v4), (0, .ref l0), (1, .ref l1), (2, .ref l2), (3, .int l3)] dX5_worth_369 rfl rfl (Nat.le_of_ble_eq_true rfl) rfl ?_
              refine eg_goto 15 dX5_worth_372 rfl ?_
              exact eg_sub [2, 3, 4, 5, 0] [(0, .ref l0), (1, .ref l1), (2, .ref l2), (3, .int l3), (4, .int (l4 + (1 : Int32)))] rfl (hrec h12 l0 l1 l2 l3 (l4 + (1 : Int32)) hF)
            · replace hF := eg_if c9 hF
              refine eg_iload (i := 5) 0 dX5_worth_113 rfl ?_
              refine eg_bipush (v := (-16 : Int32)) dX5_worth_115 (by decide) ?_
              refine eg_ic_ne 151 dX5_worth_117 rfl (fun c14 => ?_) (fun c14 => ?_)
              · replace hF := eg_it c14 hF
                refine eg_iinc (i := 3) (v := (l3 + (-1 : Int32))) 4 [(3, .int (l3 + (-1 : Int32))), (5, .int v4), (0, .ref l0), (1, .ref l1), (2, .ref l2), (4, .int l4)] dX5_worth_120 rfl rfl (Nat.le_of_ble_eq_true rfl) rfl ?_
                replace hF := eg_bind hF; obtain ⟨x16, e15, hF⟩ := hF
                refine eg_sub [2, 3, 4, 0, 5] [(0, .ref l0), (1, .ref l1), (2, .ref l2), (3, .int (l3 + (-1 : Int32))), (4, .int l4)] rfl (fX5_worth_L123_ok eg_F h l0 l1 l2 (l3 + (-1 : Int32)) l4 x16 e15 ?_)
                · intro p17 p18 p19 v20 v21 h22 e23
                  subst e23
                  refine eg_iinc (i := 4) (v := (v21 + (1 : Int32))) 4 [(4, .int (v21 + (1 : Int32))), (0, .ref p17), (1, .ref p18), (2, .ref p19), (3, .int v20)] dX5_worth_369 rfl rfl (Nat.le_of_ble_eq_true rfl) rfl ?_
                  refine eg_goto 15 dX5_worth_372 rfl ?_
                  exact eg_sub [1, 2, 3, 4, 0] [(0, .ref p17), (1, .ref p18), (2, .ref p19), (3, .int v20), (4, .int (v21 + (1 : Int32)))] rfl (hrec h22 p17 p18 p19 v20 (v21 + (1 : Int32)) hF)
              · replace hF := eg_if c14 hF
                refine eg_iload_n (i := 3) 4 dX5_worth_151 rfl rfl ?_
                refine eg_iconst (v := (2 : Int32)) dX5_worth_152 (by decide) ?_
                refine eg_ic_ge 158 dX5_worth_153 rfl (fun c24 => ?_) (fun c24 => ?_)
                · replace hF := eg_it c24 hF
                  refine eg_iinc (i := 3) (v := (l3 + (-1 : Int32))) 4 [(3, .int (l3 + (-1 : Int32))), (5, .int v4), (0, .ref l0), (1, .ref l1), (2, .ref l2), (4, .int l4)] dX5_worth_158 rfl rfl (Nat.le_of_ble_eq_true rfl) rfl ?_
                  refine eg_aload_n (i := 2) 4 dX5_worth_161 rfl rfl ?_
                  refine eg_iload_n (i := 3) 0 dX5_worth_162 rfl rfl ?_
                  refine eg_iconst (v := (1 : Int32)) dX5_worth_163 (by decide) ?_
                  refine eg_isub dX5_worth_164 ?_
                  replace hF := eg_bind hF; obtain ⟨v25, e26, hF⟩ := hF
                  refine eg_iald dX5_worth_165 e26 ?_
                  refine eg_istore (i := 6) [(6, .int v25), (3, .int (l3 + (-1 : Int32))), (5, .int v4), (0, .ref l0), (1, .ref l1), (2, .ref l2), (4, .int l4)] dX5_worth_166 (Nat.le_of_ble_eq_true rfl) rfl ?_
                  refine eg_aload_n (i := 2) 5 dX5_worth_168 rfl rfl ?_
                  refine eg_iload_n (i := 3) 1 dX5_worth_169 rfl rfl ?_
                  replace hF := eg_bind hF; obtain ⟨v27, e28, hF⟩ := hF
                  refine eg_iald dX5_worth_170 e28 ?_
                  refine eg_istore (i := 7) [(7, .int v27), (6, .int v25), (3, .int (l3 + (-1 : Int32))), (5, .int v4), (0, .ref l0), (1, .ref l1), (2, .ref l2), (4, .int l4)] dX5_worth_171 (Nat.le_of_ble_eq_true rfl) rfl ?_
                  refine eg_iload (i := 5) 3 dX5_worth_173 rfl ?_
                  by_cases c29 : v4 = (-13 : Int32)
                  · replace hF := eg_it c29 hF
                    refine eg_tIn 242 c29 dX5_worth_175 (by decide) (by decide) rfl rfl ?_
                    exact eg_sub [4, 5, 6, 2, 7, 1, 0] [(0, .ref l0), (1, .ref l1), (2, .ref l2), (3, .int (l3 + (-1 : Int32))), (4, .int l4), (6, .int v25), (7, .int v27)] rfl (fX5_worth_j242_ok h l0 l1 l2 (l3 + (-1 : Int32)) l4 v25 v27 eE hF hrec hk0 hk1 hk2 hk3 hk4)
                  replace hF := eg_if c29 hF
                  by_cases c30 : v4 = (-12 : Int32)
                  · replace hF := eg_it c30 hF
                    refine eg_tIn 308 c30 dX5_worth_175 (by decide) (by decide) rfl rfl ?_
                    refine eg_iload (i := 6) 1 dX5_worth_308 rfl ?_
                    refine eg_iload (i := 7) 0 dX5_worth_310 rfl ?_
                    refine eg_ic_le 319 dX5_worth_312 rfl (fun c31 => ?_) (fun c31 => ?_)
                    · replace hF := eg_it c31 hF
                      refine eg_lconst (v := (0 : Int64)) dX5_worth_319 (by decide) ?_
                      exact eg_sub [4, 5, 6, 2, 7] [(0, .ref l0), (1, .ref l1), (2, .ref l2), (3, .int (l3 + (-1 : Int32))), (4, .int l4)] rfl (fX5_worth_j320_ok h l0 l1 l2 (l3 + (-1 : Int32)) l4 (0 : Int64) eE hF hrec hk0 hk1 hk2 hk3 hk4)
                    · replace hF := eg_if c31 hF
                      refine eg_lconst (v := (1 : Int64)) dX5_worth_315 (by decide) ?_
                      refine eg_goto 320 dX5_worth_316 rfl ?_
                      exact eg_sub [4, 5, 6, 2, 7] [(0, .ref l0), (1, .ref l1), (2, .ref l2), (3, .int (l3 + (-1 : Int32))), (4, .int l4)] rfl (fX5_worth_j320_ok h l0 l1 l2 (l3 + (-1 : Int32)) l4 (1 : Int64) eE hF hrec hk0 hk1 hk2 hk3 hk4)
                  replace hF := eg_if c30 hF
                  by_cases c32 : v4 = (-11 : Int32)
                  · replace hF := eg_it c32 hF
                    refine eg_tIn 291 c32 dX5_worth_175 (by decide) (by decide) rfl rfl ?_
                    refine eg_iload (i := 6) 1 dX5_worth_291 rfl ?_
                    refine eg_iload (i := 7) 0 dX5_worth_293 rfl ?_
                    refine eg_ic_ge 302 dX5_worth_295 rfl (fun c33 => ?_) (fun c33 => ?_)
                    · replace hF := eg_it c33 hF
                      refine eg_lconst (v := (0 : Int64)) dX5_worth_302 (by decide) ?_
                      exact eg_sub [4, 5, 6, 2, 7] [(0, .ref l0), (1, .ref l1), (2, .ref l2), (3, .int (l3 + (-1 : Int32))), (4, .int l4)] rfl (fX5_worth_j303_ok h l0 l1 l2 (l3 + (-1 : Int32)) l4 (0 : Int64) eE hF hrec hk0 hk1 hk2 hk3 hk4)
                    · replace hF := eg_if c33 hF
                      refine eg_lconst (v := (1 : Int64)) dX5_worth_298 (by decide) ?_
                      refine eg_goto 303 dX5_worth_299 rfl ?_
                      exact eg_sub [4, 5, 6, 2, 7] [(0, .ref l0), (1, .ref l1), (2, .ref l2), (3, .int (l3 + (-1 : Int32))), (4, .int l4)] rfl (fX5_worth_j303_ok h l0 l1 l2 (l3 + (-1 : Int32)) l4 (1 : Int64) eE hF hrec hk0 hk1 hk2 hk3 hk4)
                  replace hF := eg_if c32 hF
                  by_cases c34 : v4 = (-10 : Int32)
                  · replace hF := eg_it c34 hF
                    refine eg_tIn 274 c34 dX5_worth_175 (by decide) (by decide) rfl rfl ?_
                    refine eg_iload (i := 6) 1 dX5_worth_274 rfl ?_
                    refine eg_iload (i := 7) 0 dX5_worth_276 rfl ?_
                    refine eg_ic_ne 285 dX5_worth_278 rfl (fun c35 => ?_) (fun c35 => ?_)
                    · replace hF := eg_it c35 hF
                      refine eg_lconst (v := (1 : Int64)) dX5_worth_281 (by decide) ?_
                      refine eg_goto 286 dX5_worth_282 rfl ?_
                      exact eg_sub [4, 5, 6, 2, 7] [(0, .ref l0), (1, .ref l1), (2, .ref l2), (3, .int (l3 + (-1 : Int32))), (4, .int l4)] rfl (fX5_worth_j286_ok h l0 l1 l2 (l3 + (-1 : Int32)) l4 (1 : Int64) eE hF hrec hk0 hk1 hk2 hk3 hk4)
                    · replace hF := eg_if c35 hF
                      refine eg_lconst (v := (0 : Int64)) dX5_worth_285 (by decide) ?_
                      exact eg_sub [4, 5, 6, 2, 7] [(0, .ref l0), (1, .ref l1), (2, .ref l2), (3, .int (l3 + (-1 : Int32))), (4, .int l4)] rfl (fX5_worth_j286_ok h l0 l1 l2 (l3 + (-1 : Int32)) l4 (0 : Int64) eE hF hrec hk0 hk1 hk2 hk3 hk4)
                  replace hF := eg_if c34 hF
                  by_cases c36 : v4 = (-9 : Int32)
                  · replace hF := eg_it c36 hF
                    refine eg_tIn 254 c36 dX5_worth_175 (by decide) (by decide) rfl rfl ?_
                    refine eg_iload (i := 7) 0 dX5_worth_254 rfl ?_
                    refine eg_if_ne 263 dX5_worth_256 rfl (fun c37 => ?_) (fun c37 => ?_)
                    · replace hF := eg_it c37 hF
                      refine eg_lconst (v := (0 : Int64)) dX5_worth_259 (by decide) ?_
                      refine eg_goto 269 dX5_worth_260 rfl ?_
                      exact eg_sub [4, 5, 6, 2, 7] [(0, .ref l0), (1, .ref l1), (2, .ref l2), (3, .int (l3 + (-1 : Int32))), (4, .int l4)] rfl (fX5_worth_j269_ok h l0 l1 l2 (l3 + (-1 : Int32)) l4 (0 : Int64) eE hF hrec hk0 hk1 hk2 hk3 hk4)
                    · replace hF := eg_if c37 hF
                      refine eg_iload (i := 6) 1 dX5_worth_263 rfl ?_
                      refine eg_iload (i := 7) 0 dX5_worth_265 rfl ?_
                      replace hF := eg_nif hF; obtain ⟨c38, hF⟩ := hF
                      refine eg_idiv dX5_worth_267 c38 ?_
                      refine eg_i2l dX5_worth_268 ?_
                      exact eg_sub [4, 5, 6, 2, 7] [(0, .ref l0), (1, .ref l1), (2, .ref l2), (3, .int (l3 + (-1 : Int32))), (4, .int l4)] rfl (fX5_worth_j269_ok h l0 l1 l2 (l3 + (-1 : Int32)) l4 ((v25 / v27).toInt64) eE hF hrec hk0 hk1 hk2 hk3 hk4)
                  replace hF := eg_if c36 hF
                  by_cases c39 : v4 = (-8 : Int32)
                  · replace hF := eg_it c39 hF
                    refine eg_tIn 242 c39 dX5_worth_175 (by decide) (by decide) rfl rfl ?_
                    exact eg_sub [4, 5, 6, 2, 7, 1, 0] [(0, .ref l0), (1, .ref l1), (2, .ref l2), (3, .int (l3 + (-1 : Int32))), (4, .int l4), (6, .int v25), (7, .int v27)] rfl (fX5_worth_j242_ok h l0 l1 l2 (l3 + (-1 : Int32)) l4 v25 v27 eE hF hrec hk0 hk1 hk2 hk3 hk4)
                  replace hF := eg_if c39 hF
                  by_cases c40 : v4 = (-7 : Int32)
                  · replace hF := eg_it c40 hF
                    refine eg_tIn 231 c40 dX5_worth_175 (by decide) (by decide) rfl rfl ?_
                    refine eg_iload (i := 6) 1 dX5_worth_231 rfl ?_
                    refine eg_iload (i := 7) 0 dX5_worth_233 rfl ?_
                    refine eg_isub dX5_worth_235 ?_
                    refine eg_i2l dX5_worth_236 ?_
                    replace hF := eg_bind hF; obtain ⟨v41, e42, hF⟩ := hF
                    replace e42 := Option.some.inj e42
                    rw [e42]
                    refine eg_lstore (i := 8) [(8, .long v41), (7, .int v27), (6, .int v25), (3, .int (l3 + (-1 : Int32))), (5, .int v4), (0, .ref l0), (1, .ref l1), (2, .ref l2), (4, .int l4)] dX5_worth_237 (Nat.le_of_ble_eq_true rfl) rfl ?_
                    refine eg_goto 333 dX5_worth_239 rfl ?_
                    exact eg_sub [5, 6, 7, 3, 8, 0] [(0, .ref l0), (1, .ref l1), (2, .ref l2), (3, .int (l3 + (-1 : Int32))), (4, .int l4), (8, .long v41)] rfl (fX5_worth_j333_ok h l0 l1 l2 (l3 + (-1 : Int32)) l4 v41 eE hF hrec hk0 hk1 hk2 hk3 hk4)
                  replace hF := eg_if c40 hF
                  by_cases c43 : v4 = (-6 : Int32)
                  · replace hF := eg_it c43 hF
                    refine eg_tIn 220 c43 dX5_worth_175 (by decide) (by decide) rfl rfl ?_
                    refine eg_iload (i := 6) 1 dX5_worth_220 rfl ?_
                    refine eg_iload (i := 7) 0 dX5_worth_222 rfl ?_
                    refine eg_iadd dX5_worth_224 ?_
                    refine eg_i2l dX5_worth_225 ?_
                    replace hF := eg_bind hF; obtain ⟨v44, e45, hF⟩ := hF
                    replace e45 := Option.some.inj e45
                    rw [e45]
                    refine eg_lstore (i := 8) [(8, .long v44), (7, .int v27), (6, .int v25), (3, .int (l3 + (-1 : Int32))), (5, .int v4), (0, .ref l0), (1, .ref l1), (2, .ref l2), (4, .int l4)] dX5_worth_226 (Nat.le_of_ble_eq_true rfl) rfl ?_
                    refine eg_goto 333 dX5_worth_228 rfl ?_
                    exact eg_sub [5, 6, 7, 3, 8, 0] [(0, .ref l0), (1, .ref l1), (2, .ref l2), (3, .int (l3 + (-1 : Int32))), (4, .int l4), (8, .long v44)] rfl (fX5_worth_j333_ok h l0 l1 l2 (l3 + (-1 : Int32)) l4 v44 eE hF hrec hk0 hk1 hk2 hk3 hk4)
                  replace hF := eg_if c43 hF
                  refine eg_tOut 325 dX5_worth_175 (by
                    have z0 := lv_neT c29 (show ((-13 : Int32)).toInt = -13 from rfl)
                    have z1 := lv_neT c30 (show ((-12 : Int32)).toInt = -12 from rfl)
                    have z2 := lv_neT c32 (show ((-11 : Int32)).toInt = -11 from rfl)
                    have z3 := lv_neT c34 (show ((-10 : Int32)).toInt = -10 from rfl)
                    have z4 := lv_neT c36 (show ((-9 : Int32)).toInt = -9 from rfl)
                    have z5 := lv_neT c39 (show ((-8 : Int32)).toInt = -8 from rfl)
                    have z6 := lv_neT c40 (show ((-7 : Int32)).toInt = -7 from rfl)
                    have z7 := lv_neT c43 (show ((-6 : Int32)).toInt = -6 from rfl)
                    omega) rfl ?_
                  refine eg_iload (i := 6) 1 dX5_worth_325 rfl ?_
                  refine eg_iload (i := 7) 0 dX5_worth_327 rfl ?_
                  refine eg_ior dX5_worth_329 ?_
                  refine eg_i2l dX5_worth_330 ?_
                  replace hF := eg_bind hF; obtain ⟨v46, e47, hF⟩ := hF
                  replace e47 := Option.some.inj e47
                  rw [e47]
                  refine eg_lstore (i := 8) [(8, .long v46), (7, .int v27), (6, .int v25), (3, .int (l3 + (-1 : Int32))), (5, .int v4), (0, .ref l0), (1, .ref l1), (2, .ref l2), (4, .int l4)] dX5_worth_331 (Nat.le_of_ble_eq_true rfl) rfl ?_
                  exact eg_sub [5, 6, 7, 3, 8, 0] [(0, .ref l0), (1, .ref l1), (2, .ref l2), (3, .int (l3 + (-1 : Int32))), (4, .int l4), (8, .long v46)] rfl (fX5_worth_j333_ok h l0 l1 l2 (l3 + (-1 : Int32)) l4 v46 eE hF hrec hk0 hk1 hk2 hk3 hk4)
                · replace hF := eg_if c24 hF
                  exact eg_sub [] [] rfl (hk4 h (Option.some.inj hF).symm)
        · replace hF := eg_if c7 hF
          exact eg_sub [] [] rfl (hk2 h (Option.some.inj hF).symm)
      · replace hF := eg_if c6 hF
        refine eg_iload_n (i := 3) 4 dX5_worth_35 rfl rfl ?_
        refine eg_aload_n (i := 2) 3 dX5_worth_36 rfl rfl ?_
        replace hF := eg_bind hF; obtain ⟨v48, e49, hF⟩ := hF
        refine eg_alen dX5_worth_37 e49 ?_
        refine eg_ic_lt 43 dX5_worth_38 rfl (fun c50 => ?_) (fun c50 => ?_)
        · replace hF := eg_it c50 hF
          refine eg_aload_n (i := 2) 3 dX5_worth_43 rfl rfl ?_
          refine eg_iload_n (i := 3) 4 dX5_worth_44 rfl rfl ?_
          refine eg_iload (i := 5) 0 dX5_worth_45 rfl ?_
          refine eg_if_lt 55 dX5_worth_47 rfl (fun c51 => ?_) (fun c51 => ?_)
          · replace hF := eg_it c51 hF
            refine eg_aload_n (i := 0) 1 dX5_worth_55 rfl rfl ?_
            replace hF := eg_bind hF; obtain ⟨p52, e53, hF⟩ := hF
            refine eg_getR dX5_worth_56 e53 (Nat.le_of_ble_eq_true rfl) (Nat.le_of_ble_eq_true rfl) rfl ew_665 ?_
            refine eg_iconst (v := (-1 : Int32)) dX5_worth_59 (by decide) ?_
            refine eg_iload (i := 5) 0 dX5_worth_60 rfl ?_
            refine eg_isub dX5_worth_62 ?_
            replace hF := eg_bind hF; obtain ⟨v54, e55, hF⟩ := hF
            refine eg_iald dX5_worth_63 e55 ?_
            replace hF := eg_bind hF; obtain ⟨h56, e57, hF⟩ := hF
            refine eg_iast dX5_worth_64 e57 ?_
            refine eg_iinc (i := 3) (v := (l3 + (1 : Int32))) 4 [(3, .int (l3 + (1 : Int32))), (5, .int v4), (0, .ref l0), (1, .ref l1), (2, .ref l2), (4, .int l4)] dX5_worth_65 rfl rfl (Nat.le_of_ble_eq_true rfl) rfl ?_
            refine eg_goto 369 dX5_worth_68 rfl ?_
            refine eg_iinc (i := 4) (v := (l4 + (1 : Int32))) 5 [(4, .int (l4 + (1 : Int32))), (3, .int (l3 + (1 : Int32))), (5, .int v4), (0, .ref l0), (1, .ref l1), (2, .ref l2)] dX5_worth_369 rfl rfl (Nat.le_of_ble_eq_true rfl) rfl ?_
            refine eg_goto 15 dX5_worth_372 rfl ?_
            exact eg_sub [3, 4, 5, 1, 0] [(0, .ref l0), (1, .ref l1), (2, .ref l2), (3, .int (l3 + (1 : Int32))), (4, .int (l4 + (1 : Int32)))] rfl (hrec h56 l0 l1 l2 (l3 + (1 : Int32)) (l4 + (1 : Int32)) hF)
          · replace hF := eg_if c51 hF
            refine eg_iload (i := 5) 0 dX5_worth_50 rfl ?_
            refine eg_goto 64 dX5_worth_52 rfl ?_
            replace hF := eg_bind hF; obtain ⟨h58, e59, hF⟩ := hF
            refine eg_iast dX5_worth_64 e59 ?_
            refine eg_iinc (i := 3) (v := (l3 + (1 : Int32))) 4 [(3, .int (l3 + (1 : Int32))), (5, .int v4), (0, .ref l0), (1, .ref l1), (2, .ref l2), (4, .int l4)] dX5_worth_65 rfl rfl (Nat.le_of_ble_eq_true rfl) rfl ?_
            refine eg_goto 369 dX5_worth_68 rfl ?_
            refine eg_iinc (i := 4) (v := (l4 + (1 : Int32))) 5 [(4, .int (l4 + (1 : Int32))), (3, .int (l3 + (1 : Int32))), (5, .int v4), (0, .ref l0), (1, .ref l1), (2, .ref l2)] dX5_worth_369 rfl rfl (Nat.le_of_ble_eq_true rfl) rfl ?_
            refine eg_goto 15 dX5_worth_372 rfl ?_
            exact eg_sub [3, 4, 5, 1, 0] [(0, .ref l0), (1, .ref l1), (2, .ref l2), (3, .int (l3 + (1 : Int32))), (4, .int (l4 + (1 : Int32)))] rfl (hrec h58 l0 l1 l2 (l3 + (1 : Int32)) (l4 + (1 : Int32)) hF)
        · replace hF := eg_if c50 hF
          exact eg_sub [] [] rfl (hk1 h (Option.some.inj hF).symm)
def fX5_worth (h : eg_H) (l0 : Nat) : Option (Int32 × eg_H) :=
  if eg_isO h 5 l0 then (
    (eg_gR h 5 0 l0).bind fun p1 =>
    (eg_gR h 5 1 l0).bind fun p3 =>
    (fX5_worth_L15 eg_F h l0 p1 p3 (0 : Int32) (0 : Int32)).bind fun e =>
    match e with
    | .inl h7 =>
      some ((0 : Int32), h7)
    | .inr (.inl h9) =>
      some ((0 : Int32), h9)
    | .inr (.inr (.inl h11)) =>
      some ((0 : Int32), h11)
    | .inr (.inr (.inr (.inl (p13, v14, h15)))) =>
      (eg_aI h15 100 p13 (v14 - (1 : Int32))).bind fun v16 =>
      some (v16, h15)
    | .inr (.inr (.inr (.inr (h19)))) =>
      some ((0 : Int32), h19)) else none
theorem fX5_worth_O {h : eg_H} {l0 : Nat} {rE : Int32} {hE : eg_H} (hF : fX5_worth h l0 = some (rE, hE)) : eg_isO h 5 l0 := (eg_ifn hF).1
set_option maxRecDepth 20000 in
theorem mX5_worth {h : eg_H} {l0 : Nat} {rE : Int32} {hE : eg_H} (hF : fX5_worth h l0 = some (rE, hE)) : eg_Met yX5_worth cX5_worth 10 (some .int) 1 [.ref l0] h (some (.int rE)) hE := by
  refine eg_enter rfl (Nat.le_of_ble_eq_true rfl) ?_
  show eg_AW (RX5, cX5_worth, 10, 1, none, "worth", (some .int)) (eg_Zm (some (.int rE)) hE h) (eg_nc hE) (eg_ns hE) h 0 [(0, .ref l0)] [] h
  replace hF := (eg_ifn hF).2
  refine eg_aload_n (i := 0) 0 dX5_worth_0 rfl rfl ?_
  replace hF := eg_bind hF; obtain ⟨p1, e2, hF⟩ := hF
  refine eg_getR dX5_worth_1 e2 (Nat.le_of_ble_eq_true rfl) (Nat.le_of_ble_eq_true rfl) rfl ew_663 ?_
  refine eg_astore_n (i := 1) [(1, .ref p1), (0, .ref l0)] dX5_worth_4 rfl (Nat.le_of_ble_eq_true rfl) rfl ?_
  refine eg_aload_n (i := 0) 1 dX5_worth_5 rfl rfl ?_
  replace hF := eg_bind hF; obtain ⟨p3, e4, hF⟩ := hF
  refine eg_getR dX5_worth_6 e4 (Nat.le_of_ble_eq_true rfl) (Nat.le_of_ble_eq_true rfl) rfl ew_664 ?_
  refine eg_astore_n (i := 2) [(2, .ref p3), (1, .ref p1), (0, .ref l0)] dX5_worth_9 rfl (Nat.le_of_ble_eq_true rfl) rfl ?_
  refine eg_iconst (v := (0 : Int32)) dX5_worth_10 (by decide) ?_
  refine eg_istore_n (i := 3) [(3, .int (0 : Int32)), (2, .ref p3), (1, .ref p1), (0, .ref l0)] dX5_worth_11 rfl (Nat.le_of_ble_eq_true rfl) rfl ?_
  refine eg_iconst (v := (0 : Int32)) dX5_worth_12 (by decide) ?_
  refine eg_istore (i := 4) [(4, .int (0 : Int32)), (3, .int (0 : Int32)), (2, .ref p3), (1, .ref p1), (0, .ref l0)] dX5_worth_13 (Nat.le_of_ble_eq_true rfl) rfl ?_
  replace hF := eg_bind hF; obtain ⟨x6, e5, hF⟩ := hF
  refine eg_sub [4, 3, 2, 1, 0] [(0, .ref l0), (1, .ref p1), (2, .ref p3), (3, .int (0 : Int32)), (4, .int (0 : Int32))] rfl (fX5_worth_L15_ok eg_F h l0 p1 p3 (0 : Int32) (0 : Int32) x6 e5 ?_ ?_ ?_ ?_ ?_)
  · intro h7 e8
    subst e8
    refine eg_iconst (v := (0 : Int32)) dX5_worth_375 (by decide) ?_
    exact eg_iretE dX5_worth_376 hF
  · intro h9 e10
    subst e10
    refine eg_iconst (v := (0 : Int32)) dX5_worth_41 (by decide) ?_
    exact eg_iretE dX5_worth_42 hF
  · intro h11 e12
    subst e12
    refine eg_iconst (v := (0 : Int32)) dX5_worth_76 (by decide) ?_
    exact eg_iretE dX5_worth_77 hF
  · intro p13 v14 h15 e18
    subst e18
    refine eg_aload_n (i := 2) 0 dX5_worth_85 rfl rfl ?_
    refine eg_iload_n (i := 3) 1 dX5_worth_86 rfl rfl ?_
    refine eg_iconst (v := (1 : Int32)) dX5_worth_87 (by decide) ?_
    refine eg_isub dX5_worth_88 ?_
    replace hF := eg_bind hF; obtain ⟨v16, e17, hF⟩ := hF
    refine eg_iald dX5_worth_89 e17 ?_
    exact eg_iretE dX5_worth_90 hF
  · intro h19 e20
    subst e20
    refine eg_iconst (v := (0 : Int32)) dX5_worth_156 (by decide) ?_
    exact eg_iretE dX5_worth_157 hF
