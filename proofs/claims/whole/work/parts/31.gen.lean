theorem dX12_gatherHopes_0 : decode cX12_gatherHopes 0 = .ok (.iconst 0, 1) := by decide +kernel
theorem dX12_gatherHopes_1 : decode cX12_gatherHopes 1 = .ok (.istore_n 2, 1) := by decide +kernel
theorem dX12_gatherHopes_2 : decode cX12_gatherHopes 2 = .ok (.iload_n 2, 1) := by decide +kernel
theorem dX12_gatherHopes_3 : decode cX12_gatherHopes 3 = .ok (.aload_n 0, 1) := by decide +kernel
theorem dX12_gatherHopes_4 : decode cX12_gatherHopes 4 = .ok (.getfield 35, 3) := by decide +kernel
theorem dX12_gatherHopes_7 : decode cX12_gatherHopes 7 = .ok (.invokevirtual 159, 3) := by decide +kernel
theorem dX12_gatherHopes_10 : decode cX12_gatherHopes 10 = .ok (.if_icmp .ge 87, 3) := by decide +kernel
theorem dX12_gatherHopes_13 : decode cX12_gatherHopes 13 = .ok (.iload_n 2, 1) := by decide +kernel
theorem dX12_gatherHopes_14 : decode cX12_gatherHopes 14 = .ok (.iconst 1, 1) := by decide +kernel
theorem dX12_gatherHopes_15 : decode cX12_gatherHopes 15 = .ok (.iadd, 1) := by decide +kernel
theorem dX12_gatherHopes_16 : decode cX12_gatherHopes 16 = .ok (.istore_n 3, 1) := by decide +kernel
theorem dX12_gatherHopes_17 : decode cX12_gatherHopes 17 = .ok (.iload_n 3, 1) := by decide +kernel
theorem dX12_gatherHopes_18 : decode cX12_gatherHopes 18 = .ok (.aload_n 0, 1) := by decide +kernel
theorem dX12_gatherHopes_19 : decode cX12_gatherHopes 19 = .ok (.getfield 35, 3) := by decide +kernel
theorem dX12_gatherHopes_22 : decode cX12_gatherHopes 22 = .ok (.invokevirtual 159, 3) := by decide +kernel
theorem dX12_gatherHopes_25 : decode cX12_gatherHopes 25 = .ok (.if_icmp .ge 66, 3) := by decide +kernel
theorem dX12_gatherHopes_28 : decode cX12_gatherHopes 28 = .ok (.aload_n 0, 1) := by decide +kernel
theorem dX12_gatherHopes_29 : decode cX12_gatherHopes 29 = .ok (.getfield 107, 3) := by decide +kernel
theorem dX12_gatherHopes_32 : decode cX12_gatherHopes 32 = .ok (.iconst 0, 1) := by decide +kernel
theorem dX12_gatherHopes_33 : decode cX12_gatherHopes 33 = .ok (.aaload, 1) := by decide +kernel
theorem dX12_gatherHopes_34 : decode cX12_gatherHopes 34 = .ok (.astore 4, 2) := by decide +kernel
theorem dX12_gatherHopes_36 : decode cX12_gatherHopes 36 = .ok (.aload 4, 2) := by decide +kernel
theorem dX12_gatherHopes_38 : decode cX12_gatherHopes 38 = .ok (.aload_n 0, 1) := by decide +kernel
theorem dX12_gatherHopes_39 : decode cX12_gatherHopes 39 = .ok (.getfield 101, 3) := by decide +kernel
theorem dX12_gatherHopes_42 : decode cX12_gatherHopes 42 = .ok (.bipush 10, 2) := by decide +kernel
theorem dX12_gatherHopes_44 : decode cX12_gatherHopes 44 = .ok (.iload_n 2, 1) := by decide +kernel
theorem dX12_gatherHopes_45 : decode cX12_gatherHopes 45 = .ok (.imul, 1) := by decide +kernel
theorem dX12_gatherHopes_46 : decode cX12_gatherHopes 46 = .ok (.iload_n 3, 1) := by decide +kernel
theorem dX12_gatherHopes_47 : decode cX12_gatherHopes 47 = .ok (.iadd, 1) := by decide +kernel
theorem dX12_gatherHopes_48 : decode cX12_gatherHopes 48 = .ok (.bipush 10, 2) := by decide +kernel
theorem dX12_gatherHopes_50 : decode cX12_gatherHopes 50 = .ok (.iload_n 1, 1) := by decide +kernel
theorem dX12_gatherHopes_51 : decode cX12_gatherHopes 51 = .ok (.imul, 1) := by decide +kernel
theorem dX12_gatherHopes_52 : decode cX12_gatherHopes 52 = .ok (.aload_n 0, 1) := by decide +kernel
theorem dX12_gatherHopes_53 : decode cX12_gatherHopes 53 = .ok (.getfield 35, 3) := by decide +kernel
theorem dX12_gatherHopes_56 : decode cX12_gatherHopes 56 = .ok (.iconst 2, 1) := by decide +kernel
theorem dX12_gatherHopes_57 : decode cX12_gatherHopes 57 = .ok (.invokevirtual 209, 3) := by decide +kernel
theorem dX12_gatherHopes_60 : decode cX12_gatherHopes 60 = .ok (.aload_n 0, 1) := by decide +kernel
theorem dX12_gatherHopes_61 : decode cX12_gatherHopes 61 = .ok (.getfield 35, 3) := by decide +kernel
theorem dX12_gatherHopes_64 : decode cX12_gatherHopes 64 = .ok (.iconst 0, 1) := by decide +kernel
theorem dX12_gatherHopes_65 : decode cX12_gatherHopes 65 = .ok (.invokevirtual 209, 3) := by decide +kernel
theorem dX12_gatherHopes_68 : decode cX12_gatherHopes 68 = .ok (.invokevirtual 331, 3) := by decide +kernel
theorem dX12_gatherHopes_71 : decode cX12_gatherHopes 71 = .ok (.aload_n 0, 1) := by decide +kernel
theorem dX12_gatherHopes_72 : decode cX12_gatherHopes 72 = .ok (.getfield 115, 3) := by decide +kernel
theorem dX12_gatherHopes_75 : decode cX12_gatherHopes 75 = .ok (.iload_n 2, 1) := by decide +kernel
theorem dX12_gatherHopes_76 : decode cX12_gatherHopes 76 = .ok (.iload_n 3, 1) := by decide +kernel
theorem dX12_gatherHopes_77 : decode cX12_gatherHopes 77 = .ok (.aload 4, 2) := by decide +kernel
theorem dX12_gatherHopes_79 : decode cX12_gatherHopes 79 = .ok (.invokevirtual 316, 3) := by decide +kernel
theorem dX12_gatherHopes_82 : decode cX12_gatherHopes 82 = .ok (.invokevirtual 378, 3) := by decide +kernel
theorem dX12_gatherHopes_85 : decode cX12_gatherHopes 85 = .ok (.iinc 3 1, 3) := by decide +kernel
theorem dX12_gatherHopes_88 : decode cX12_gatherHopes 88 = .ok (.goto (-71), 3) := by decide +kernel
theorem dX12_gatherHopes_91 : decode cX12_gatherHopes 91 = .ok (.iinc 2 1, 3) := by decide +kernel
theorem dX12_gatherHopes_94 : decode cX12_gatherHopes 94 = .ok (.goto (-92), 3) := by decide +kernel
theorem dX12_gatherHopes_97 : decode cX12_gatherHopes 97 = .ok (.return_, 1) := by decide +kernel
def fX12_gatherHopes_L17 : Nat → eg_H → Nat → Int32 → Int32 → Int32 → Option (Nat × Int32 × Int32 × eg_H)
  | 0, _, _, _, _, _ => none
  | n + 1, h, l0, l1, l2, l3 =>
    (eg_gR h 12 3 l0).bind fun p1 =>
    (fX7_persons h p1).bind fun ⟨v4, h3⟩ =>
    if v4 ≤ l3 then
      (some (l0, l1, l2, h3))
    else
      (eg_gR h3 12 17 l0).bind fun p7 =>
      (eg_aR h3 112 p7 (0 : Int32)).bind fun p9 =>
      (eg_gR h3 12 16 l0).bind fun p11 =>
      (eg_gR h3 12 3 l0).bind fun p13 =>
      (fX7_told h3 p13 (2 : Int32)).bind fun ⟨v16, h15⟩ =>
      (eg_gR h15 12 3 l0).bind fun p18 =>
      (fX7_told h15 p18 (0 : Int32)).bind fun ⟨v21, h20⟩ =>
      (fX2_fill h20 p9 p11 (((10 : Int32) * l2) + l3) ((10 : Int32) * l1) v16 v21).bind fun h23 =>
      (eg_gR h23 12 18 l0).bind fun p25 =>
      (fX2_hopes h23 p9).bind fun ⟨v28, h27⟩ =>
      (fX9_keepHope h27 p25 l2 l3 v28).bind fun h30 =>
      fX12_gatherHopes_L17 n h30 l0 l1 l2 (l3 + (1 : Int32))
set_option maxRecDepth 20000 in
theorem fX12_gatherHopes_L17_ok {h0 : eg_H} {Z : eg_C → State → Prop} {N S : Nat} : ∀ (n : Nat) (h : eg_H) (l0 : Nat) (l1 : Int32) (l2 : Int32) (l3 : Int32) (eE : Nat × Int32 × Int32 × eg_H), fX12_gatherHopes_L17 n h l0 l1 l2 l3 = some eE → (hk0 : ∀ (l0 : Nat) (l1 : Int32) (l2 : Int32) (h : eg_H), eE = (l0, l1, l2, h) → eg_AW (RX12, cX12_gatherHopes, 5, 7, none, "gatherHopes", none) Z N S h0 91 [(0, .ref l0), (1, .int l1), (2, .int l2)] [] h) → eg_AW (RX12, cX12_gatherHopes, 5, 7, none, "gatherHopes", none) Z N S h0 17 [(0, .ref l0), (1, .int l1), (2, .int l2), (3, .int l3)] [] h := by
  intro n
  induction n with
  | zero => intro h l0 l1 l2 l3 eE hF; exact absurd hF (by intro q; cases q)
  | succ n ih =>
    intro h l0 l1 l2 l3 eE hF hk0
    have hrec := fun (h' : eg_H) (l0 : Nat) (l1 : Int32) (l2 : Int32) (l3 : Int32) hq => ih h' l0 l1 l2 l3 eE hq hk0
    refine eg_iload_n (i := 3) 3 dX12_gatherHopes_17 rfl rfl ?_
    refine eg_aload_n (i := 0) 0 dX12_gatherHopes_18 rfl rfl ?_
    replace hF := eg_bind hF; obtain ⟨p1, e2, hF⟩ := hF
    refine eg_getR dX12_gatherHopes_19 e2 (Nat.le_of_ble_eq_true rfl) (Nat.le_of_ble_eq_true rfl) rfl ew_359 ?_
    replace hF := eg_bind hF; obtain ⟨⟨v4, h3⟩, e5, hF⟩ := hF
    refine eg_callV (c := 7) (n := 0) [] dX12_gatherHopes_22 (mX7_persons e5) rfl (fX7_persons_O e5) (Nat.le_of_ble_eq_true rfl) rfl ew_629 ew_630 ew_631 ew_104 ew_632 hy_X7_persons rfl (Nat.le_of_ble_eq_true rfl) (Nat.le_of_ble_eq_true rfl) (Nat.le_of_ble_eq_true rfl) ?_
    refine eg_ic_ge 91 dX12_gatherHopes_25 rfl (fun c6 => ?_) (fun c6 => ?_)
    · replace hF := eg_it c6 hF
      exact eg_sub [0, 1, 2] [(0, .ref l0), (1, .int l1), (2, .int l2)] rfl (hk0 l0 l1 l2 h3 (Option.some.inj hF).symm)
    · replace hF := eg_if c6 hF
      refine eg_aload_n (i := 0) 0 dX12_gatherHopes_28 rfl rfl ?_
      replace hF := eg_bind hF; obtain ⟨p7, e8, hF⟩ := hF
      refine eg_getR dX12_gatherHopes_29 e8 (Nat.le_of_ble_eq_true rfl) (Nat.le_of_ble_eq_true rfl) rfl ew_373 ?_
      refine eg_iconst (v := (0 : Int32)) dX12_gatherHopes_32 (by decide) ?_
      replace hF := eg_bind hF; obtain ⟨p9, e10, hF⟩ := hF
      refine eg_aaldr (c := 2) dX12_gatherHopes_33 e10 (Nat.le_of_ble_eq_true rfl) (Nat.le_of_ble_eq_true rfl) ?_
      refine eg_astore (i := 4) [(4, .ref p9), (0, .ref l0), (1, .int l1), (2, .int l2), (3, .int l3)] dX12_gatherHopes_34 (Nat.le_of_ble_eq_true rfl) rfl ?_
      refine eg_aload (i := 4) 0 dX12_gatherHopes_36 rfl ?_
      refine eg_aload_n (i := 0) 1 dX12_gatherHopes_38 rfl rfl ?_
      replace hF := eg_bind hF; obtain ⟨p11, e12, hF⟩ := hF
      refine eg_getR dX12_gatherHopes_39 e12 (Nat.le_of_ble_eq_true rfl) (Nat.le_of_ble_eq_true rfl) rfl ew_372 ?_
      refine eg_bipush (v := (10 : Int32)) dX12_gatherHopes_42 (by decide) ?_
      refine eg_iload_n (i := 2) 3 dX12_gatherHopes_44 rfl rfl ?_
      refine eg_imul dX12_gatherHopes_45 ?_
      refine eg_iload_n (i := 3) 4 dX12_gatherHopes_46 rfl rfl ?_
      refine eg_iadd dX12_gatherHopes_47 ?_
      refine eg_bipush (v := (10 : Int32)) dX12_gatherHopes_48 (by decide) ?_
      refine eg_iload_n (i := 1) 2 dX12_gatherHopes_50 rfl rfl ?_
      refine eg_imul dX12_gatherHopes_51 ?_
      refine eg_aload_n (i := 0) 1 dX12_gatherHopes_52 rfl rfl ?_
      replace hF := eg_bind hF; obtain ⟨p13, e14, hF⟩ := hF
      refine eg_getR dX12_gatherHopes_53 e14 (Nat.le_of_ble_eq_true rfl) (Nat.le_of_ble_eq_true rfl) rfl ew_359 ?_
      refine eg_iconst (v := (2 : Int32)) dX12_gatherHopes_56 (by decide) ?_
      replace hF := eg_bind hF; obtain ⟨⟨v16, h15⟩, e17, hF⟩ := hF
      refine eg_callV (c := 7) (n := 1) [.int (2 : Int32)] dX12_gatherHopes_57 (mX7_told e17) rfl (fX7_told_O e17) (Nat.le_of_ble_eq_true rfl) rfl ew_717 ew_718 ew_719 ew_104 ew_720 hy_X7_told rfl (Nat.le_of_ble_eq_true rfl) (Nat.le_of_ble_eq_true rfl) (Nat.le_of_ble_eq_true rfl) ?_
      refine eg_aload_n (i := 0) 1 dX12_gatherHopes_60 rfl rfl ?_
      replace hF := eg_bind hF; obtain ⟨p18, e19, hF⟩ := hF
      refine eg_getR dX12_gatherHopes_61 e19 (Nat.le_of_ble_eq_true rfl) (Nat.le_of_ble_eq_true rfl) rfl ew_359 ?_
      refine eg_iconst (v := (0 : Int32)) dX12_gatherHopes_64 (by decide) ?_
      replace hF := eg_bind hF; obtain ⟨⟨v21, h20⟩, e22, hF⟩ := hF
      refine eg_callV (c := 7) (n := 1) [.int (0 : Int32)] dX12_gatherHopes_65 (mX7_told e22) rfl (fX7_told_O e22) (Nat.le_of_ble_eq_true rfl) rfl ew_717 ew_718 ew_719 ew_104 ew_720 hy_X7_told rfl (Nat.le_of_ble_eq_true rfl) (Nat.le_of_ble_eq_true rfl) (Nat.le_of_ble_eq_true rfl) ?_
      replace hF := eg_bind hF; obtain ⟨h23, e24, hF⟩ := hF
      refine eg_callV (c := 2) (n := 5) [.ref p11, .int (((10 : Int32) * l2) + l3), .int ((10 : Int32) * l1), .int v16, .int v21] dX12_gatherHopes_68 (mX2_fill e24) rfl (fX2_fill_O e24) (Nat.le_of_ble_eq_true rfl) rfl ew_948 ew_949 ew_950 ew_108 ew_951 hy_X2_fill rfl (Nat.le_of_ble_eq_true rfl) (Nat.le_of_ble_eq_true rfl) (Nat.le_of_ble_eq_true rfl) ?_
      refine eg_aload_n (i := 0) 1 dX12_gatherHopes_71 rfl rfl ?_
      replace hF := eg_bind hF; obtain ⟨p25, e26, hF⟩ := hF
      refine eg_getR dX12_gatherHopes_72 e26 (Nat.le_of_ble_eq_true rfl) (Nat.le_of_ble_eq_true rfl) rfl ew_374 ?_
      refine eg_iload_n (i := 2) 3 dX12_gatherHopes_75 rfl rfl ?_
      refine eg_iload_n (i := 3) 4 dX12_gatherHopes_76 rfl rfl ?_
      refine eg_aload (i := 4) 0 dX12_gatherHopes_77 rfl ?_
      replace hF := eg_bind hF; obtain ⟨⟨v28, h27⟩, e29, hF⟩ := hF
      refine eg_callV (c := 2) (n := 0) [] dX12_gatherHopes_79 (mX2_hopes e29) rfl (fX2_hopes_O e29) (Nat.le_of_ble_eq_true rfl) rfl ew_985 ew_986 ew_987 ew_108 ew_988 hy_X2_hopes rfl (Nat.le_of_ble_eq_true rfl) (Nat.le_of_ble_eq_true rfl) (Nat.le_of_ble_eq_true rfl) ?_
      replace hF := eg_bind hF; obtain ⟨h30, e31, hF⟩ := hF
      refine eg_callV (c := 9) (n := 3) [.int l2, .int l3, .long v28] dX12_gatherHopes_82 (mX9_keepHope e31) rfl (fX9_keepHope_O e31) (Nat.le_of_ble_eq_true rfl) rfl ew_1073 ew_1074 ew_1075 ew_109 ew_1076 hy_X9_keepHope rfl (Nat.le_of_ble_eq_true rfl) (Nat.le_of_ble_eq_true rfl) (Nat.le_of_ble_eq_true rfl) ?_
      refine eg_iinc (i := 3) (v := (l3 + (1 : Int32))) 4 [(3, .int (l3 + (1 : Int32))), (4, .ref p9), (0, .ref l0), (1, .int l1), (2, .int l2)] dX12_gatherHopes_85 rfl rfl (Nat.le_of_ble_eq_true rfl) rfl ?_
      refine eg_goto 17 dX12_gatherHopes_88 rfl ?_
      exact eg_sub [2, 3, 4, 0] [(0, .ref l0), (1, .int l1), (2, .int l2), (3, .int (l3 + (1 : Int32)))] rfl (hrec h30 l0 l1 l2 (l3 + (1 : Int32)) hF)
def fX12_gatherHopes_L2 : Nat → eg_H → Nat → Int32 → Int32 → Option (eg_H)
  | 0, _, _, _, _ => none
  | n + 1, h, l0, l1, l2 =>
    (eg_gR h 12 3 l0).bind fun p1 =>
    (fX7_persons h p1).bind fun ⟨v4, h3⟩ =>
    if v4 ≤ l2 then
      (some h3)
    else
      (some ((l2 + (1 : Int32)))).bind fun v7 =>
      (fX12_gatherHopes_L17 eg_F h3 l0 l1 l2 v7).bind fun e =>
      match e with
      | (p11, v12, v13, h14) =>
        fX12_gatherHopes_L2 n h14 p11 v12 (v13 + (1 : Int32))
set_option maxRecDepth 20000 in
theorem fX12_gatherHopes_L2_ok {h0 : eg_H} {Z : eg_C → State → Prop} {N S : Nat} : ∀ (n : Nat) (h : eg_H) (l0 : Nat) (l1 : Int32) (l2 : Int32) (eE : eg_H), fX12_gatherHopes_L2 n h l0 l1 l2 = some eE → (hk0 : ∀  (h : eg_H), eE = h → eg_AW (RX12, cX12_gatherHopes, 5, 7, none, "gatherHopes", none) Z N S h0 97 [] [] h) → eg_AW (RX12, cX12_gatherHopes, 5, 7, none, "gatherHopes", none) Z N S h0 2 [(0, .ref l0), (1, .int l1), (2, .int l2)] [] h := by
  intro n
  induction n with
  | zero => intro h l0 l1 l2 eE hF; exact absurd hF (by intro q; cases q)
  | succ n ih =>
    intro h l0 l1 l2 eE hF hk0
    have hrec := fun (h' : eg_H) (l0 : Nat) (l1 : Int32) (l2 : Int32) hq => ih h' l0 l1 l2 eE hq hk0
    refine eg_iload_n (i := 2) 2 dX12_gatherHopes_2 rfl rfl ?_
    refine eg_aload_n (i := 0) 0 dX12_gatherHopes_3 rfl rfl ?_
    replace hF := eg_bind hF; obtain ⟨p1, e2, hF⟩ := hF
    refine eg_getR dX12_gatherHopes_4 e2 (Nat.le_of_ble_eq_true rfl) (Nat.le_of_ble_eq_true rfl) rfl ew_359 ?_
    replace hF := eg_bind hF; obtain ⟨⟨v4, h3⟩, e5, hF⟩ := hF
    refine eg_callV (c := 7) (n := 0) [] dX12_gatherHopes_7 (mX7_persons e5) rfl (fX7_persons_O e5) (Nat.le_of_ble_eq_true rfl) rfl ew_629 ew_630 ew_631 ew_104 ew_632 hy_X7_persons rfl (Nat.le_of_ble_eq_true rfl) (Nat.le_of_ble_eq_true rfl) (Nat.le_of_ble_eq_true rfl) ?_
    refine eg_ic_ge 97 dX12_gatherHopes_10 rfl (fun c6 => ?_) (fun c6 => ?_)
    · replace hF := eg_it c6 hF
      exact eg_sub [] [] rfl (hk0 h3 (Option.some.inj hF).symm)
    · replace hF := eg_if c6 hF
      refine eg_iload_n (i := 2) 2 dX12_gatherHopes_13 rfl rfl ?_
      refine eg_iconst (v := (1 : Int32)) dX12_gatherHopes_14 (by decide) ?_
      refine eg_iadd dX12_gatherHopes_15 ?_
      replace hF := eg_bind hF; obtain ⟨v7, e8, hF⟩ := hF
      replace e8 := Option.some.inj e8
      rw [e8]
      refine eg_istore_n (i := 3) [(3, .int v7), (0, .ref l0), (1, .int l1), (2, .int l2)] dX12_gatherHopes_16 rfl (Nat.le_of_ble_eq_true rfl) rfl ?_
      replace hF := eg_bind hF; obtain ⟨x10, e9, hF⟩ := hF
      refine eg_sub [1, 2, 3, 0] [(0, .ref l0), (1, .int l1), (2, .int l2), (3, .int v7)] rfl (fX12_gatherHopes_L17_ok eg_F h3 l0 l1 l2 v7 x10 e9 ?_)
      · intro p11 v12 v13 h14 e15
        subst e15
        refine eg_iinc (i := 2) (v := (v13 + (1 : Int32))) 2 [(2, .int (v13 + (1 : Int32))), (0, .ref p11), (1, .int v12)] dX12_gatherHopes_91 rfl rfl (Nat.le_of_ble_eq_true rfl) rfl ?_
        refine eg_goto 2 dX12_gatherHopes_94 rfl ?_
        exact eg_sub [1, 2, 0] [(0, .ref p11), (1, .int v12), (2, .int (v13 + (1 : Int32)))] rfl (hrec h14 p11 v12 (v13 + (1 : Int32)) hF)
def fX12_gatherHopes (h : eg_H) (l0 : Nat) (l1 : Int32) : Option (eg_H) :=
  if eg_isO h 12 l0 then (
    (fX12_gatherHopes_L2 eg_F h l0 l1 (0 : Int32)).bind fun e =>
    match e with
    | h3 =>
      some h3) else none
theorem fX12_gatherHopes_O {h : eg_H} {l0 : Nat} {l1 : Int32} {hE : eg_H} (hF : fX12_gatherHopes h l0 l1 = some hE) : eg_isO h 12 l0 := (eg_ifn hF).1
set_option maxRecDepth 20000 in
theorem mX12_gatherHopes {h : eg_H} {l0 : Nat} {l1 : Int32} {hE : eg_H} (hF : fX12_gatherHopes h l0 l1 = some hE) : eg_Met yX12_gatherHopes cX12_gatherHopes 5 none 7 [.ref l0, .int l1] h none hE := by
  refine eg_enter rfl (Nat.le_of_ble_eq_true rfl) ?_
  show eg_AW (RX12, cX12_gatherHopes, 5, 7, none, "gatherHopes", none) (eg_Zm none hE h) (eg_nc hE) (eg_ns hE) h 0 [(0, .ref l0), (1, .int l1)] [] h
  replace hF := (eg_ifn hF).2
  refine eg_iconst (v := (0 : Int32)) dX12_gatherHopes_0 (by decide) ?_
  refine eg_istore_n (i := 2) [(2, .int (0 : Int32)), (0, .ref l0), (1, .int l1)] dX12_gatherHopes_1 rfl (Nat.le_of_ble_eq_true rfl) rfl ?_
  replace hF := eg_bind hF; obtain ⟨x2, e1, hF⟩ := hF
  refine eg_sub [1, 2, 0] [(0, .ref l0), (1, .int l1), (2, .int (0 : Int32))] rfl (fX12_gatherHopes_L2_ok eg_F h l0 l1 (0 : Int32) x2 e1 ?_)
  · intro h3 e4
    subst e4
    exact eg_vretE dX12_gatherHopes_97 hF
theorem dX12_whom_0 : decode cX12_whom 0 = .ok (.aload_n 0, 1) := by decide +kernel
theorem dX12_whom_1 : decode cX12_whom 1 = .ok (.getfield 35, 3) := by decide +kernel
theorem dX12_whom_4 : decode cX12_whom 4 = .ok (.invokevirtual 188, 3) := by decide +kernel
theorem dX12_whom_7 : decode cX12_whom 7 = .ok (.ifCond .eq 22, 3) := by decide +kernel
theorem dX12_whom_10 : decode cX12_whom 10 = .ok (.aload_n 0, 1) := by decide +kernel
theorem dX12_whom_11 : decode cX12_whom 11 = .ok (.getfield 35, 3) := by decide +kernel
theorem dX12_whom_14 : decode cX12_whom 14 = .ok (.invokevirtual 159, 3) := by decide +kernel
theorem dX12_whom_17 : decode cX12_whom 17 = .ok (.iconst 2, 1) := by decide +kernel
theorem dX12_whom_18 : decode cX12_whom 18 = .ok (.irem, 1) := by decide +kernel
theorem dX12_whom_19 : decode cX12_whom 19 = .ok (.ifCond .ne 10, 3) := by decide +kernel
theorem dX12_whom_22 : decode cX12_whom 22 = .ok (.iload_n 1, 1) := by decide +kernel
theorem dX12_whom_23 : decode cX12_whom 23 = .ok (.invokestatic 320, 3) := by decide +kernel
theorem dX12_whom_26 : decode cX12_whom 26 = .ok (.ifCond .ne 7, 3) := by decide +kernel
theorem dX12_whom_29 : decode cX12_whom 29 = .ok (.ldc2_w 314, 3) := by decide +kernel
theorem dX12_whom_32 : decode cX12_whom 32 = .ok (.lreturn, 1) := by decide +kernel
theorem dX12_whom_33 : decode cX12_whom 33 = .ok (.aload_n 0, 1) := by decide +kernel
theorem dX12_whom_34 : decode cX12_whom 34 = .ok (.iconst 0, 1) := by decide +kernel
theorem dX12_whom_35 : decode cX12_whom 35 = .ok (.invokevirtual 363, 3) := by decide +kernel
theorem dX12_whom_38 : decode cX12_whom 38 = .ok (.aload_n 0, 1) := by decide +kernel
theorem dX12_whom_39 : decode cX12_whom 39 = .ok (.getfield 115, 3) := by decide +kernel
theorem dX12_whom_42 : decode cX12_whom 42 = .ok (.aload_n 0, 1) := by decide +kernel
theorem dX12_whom_43 : decode cX12_whom 43 = .ok (.getfield 35, 3) := by decide +kernel
theorem dX12_whom_46 : decode cX12_whom 46 = .ok (.invokevirtual 159, 3) := by decide +kernel
theorem dX12_whom_49 : decode cX12_whom 49 = .ok (.invokevirtual 366, 3) := by decide +kernel
theorem dX12_whom_52 : decode cX12_whom 52 = .ok (.iload_n 1, 1) := by decide +kernel
theorem dX12_whom_53 : decode cX12_whom 53 = .ok (.ifCond .ne 14, 3) := by decide +kernel
theorem dX12_whom_56 : decode cX12_whom 56 = .ok (.aload_n 0, 1) := by decide +kernel
theorem dX12_whom_57 : decode cX12_whom 57 = .ok (.getfield 115, 3) := by decide +kernel
theorem dX12_whom_60 : decode cX12_whom 60 = .ok (.invokevirtual 369, 3) := by decide +kernel
theorem dX12_whom_63 : decode cX12_whom 63 = .ok (.i2l, 1) := by decide +kernel
theorem dX12_whom_64 : decode cX12_whom 64 = .ok (.goto 10, 3) := by decide +kernel
theorem dX12_whom_67 : decode cX12_whom 67 = .ok (.aload_n 0, 1) := by decide +kernel
theorem dX12_whom_68 : decode cX12_whom 68 = .ok (.getfield 115, 3) := by decide +kernel
theorem dX12_whom_71 : decode cX12_whom 71 = .ok (.invokevirtual 372, 3) := by decide +kernel
theorem dX12_whom_74 : decode cX12_whom 74 = .ok (.lreturn, 1) := by decide +kernel
def fX12_whom (h : eg_H) (l0 : Nat) (l1 : Int32) : Option (Int64 × eg_H) :=
  if eg_isO h 12 l0 then (
    (eg_gR h 12 3 l0).bind fun p1 =>
    (fX7_isTold h p1).bind fun ⟨v4, h3⟩ =>
    if v4 = 0 then
      (some ((-1 : Int64), h3))
    else
      (eg_gR h3 12 3 l0).bind fun p7 =>
      (fX7_persons h3 p7).bind fun ⟨v10, h9⟩ =>
      if (v10 % (2 : Int32)) = 0 then
        ((fX12_isEither h9 l1).bind fun ⟨v14, h13⟩ =>
        if v14 = 0 then
          (some ((-1 : Int64), h13))
        else
          (fX12_gatherHopes h13 l0 (0 : Int32)).bind fun h17 =>
          (eg_gR h17 12 18 l0).bind fun p19 =>
          (eg_gR h17 12 3 l0).bind fun p21 =>
          (fX7_persons h17 p21).bind fun ⟨v24, h23⟩ =>
          (fX9_pairAll h23 p19 v24).bind fun h26 =>
          if l1 = 0 then
            ((eg_gR h26 12 18 l0).bind fun p29 =>
            (fX9_digits h26 p29).bind fun ⟨v32, h31⟩ =>
            some (v32.toInt64, h31))
          else
            (eg_gR h26 12 18 l0).bind fun p34 =>
            (fX9_hopesTogether h26 p34).bind fun ⟨v37, h36⟩ =>
            some (v37, h36))
      else
        some ((-1 : Int64), h9)) else none
theorem fX12_whom_O {h : eg_H} {l0 : Nat} {l1 : Int32} {rE : Int64} {hE : eg_H} (hF : fX12_whom h l0 l1 = some (rE, hE)) : eg_isO h 12 l0 := (eg_ifn hF).1
set_option maxRecDepth 20000 in
theorem mX12_whom {h : eg_H} {l0 : Nat} {l1 : Int32} {rE : Int64} {hE : eg_H} (hF : fX12_whom h l0 l1 = some (rE, hE)) : eg_Met yX12_whom cX12_whom 2 (some .long) 67 [.ref l0, .int l1] h (some (.long rE)) hE := by
  refine eg_enter rfl (Nat.le_of_ble_eq_true rfl) ?_
  show eg_AW (RX12, cX12_whom, 2, 67, none, "whom", (some .long)) (eg_Zm (some (.long rE)) hE h) (eg_nc hE) (eg_ns hE) h 0 [(0, .ref l0), (1, .int l1)] [] h
  replace hF := (eg_ifn hF).2
  refine eg_aload_n (i := 0) 0 dX12_whom_0 rfl rfl ?_
  replace hF := eg_bind hF; obtain ⟨p1, e2, hF⟩ := hF
  refine eg_getR dX12_whom_1 e2 (Nat.le_of_ble_eq_true rfl) (Nat.le_of_ble_eq_true rfl) rfl ew_359 ?_
  replace hF := eg_bind hF; obtain ⟨⟨v4, h3⟩, e5, hF⟩ := hF
  refine eg_callV (c := 7) (n := 0) [] dX12_whom_4 (mX7_isTold e5) rfl (fX7_isTold_O e5) (Nat.le_of_ble_eq_true rfl) rfl ew_707 ew_708 ew_709 ew_104 ew_710 hy_X7_isTold rfl (Nat.le_of_ble_eq_true rfl) (Nat.le_of_ble_eq_true rfl) (Nat.le_of_ble_eq_true rfl) ?_
  refine eg_if_eq 29 dX12_whom_7 rfl (fun c6 => ?_) (fun c6 => ?_)
  · replace hF := eg_it c6 hF
    refine eg_ldc2 (v := (-1 : Int64)) dX12_whom_29 ew_984 ?_
    exact eg_lretE dX12_whom_32 hF
  · replace hF := eg_if c6 hF
    refine eg_aload_n (i := 0) 0 dX12_whom_10 rfl rfl ?_
    replace hF := eg_bind hF; obtain ⟨p7, e8, hF⟩ := hF
    refine eg_getR dX12_whom_11 e8 (Nat.le_of_ble_eq_true rfl) (Nat.le_of_ble_eq_true rfl) rfl ew_359 ?_
    replace hF := eg_bind hF; obtain ⟨⟨v10, h9⟩, e11, hF⟩ := hF
    refine eg_callV (c := 7) (n := 0) [] dX12_whom_14 (mX7_persons e11) rfl (fX7_persons_O e11) (Nat.le_of_ble_eq_true rfl) rfl ew_629 ew_630 ew_631 ew_104 ew_632 hy_X7_persons rfl (Nat.le_of_ble_eq_true rfl) (Nat.le_of_ble_eq_true rfl) (Nat.le_of_ble_eq_true rfl) ?_
    refine eg_iconst (v := (2 : Int32)) dX12_whom_17 (by decide) ?_
    refine eg_irem dX12_whom_18 (by decide) ?_
    refine eg_if_ne 29 dX12_whom_19 rfl (fun c12 => ?_) (fun c12 => ?_)
    · replace hF := eg_it c12 hF
      refine eg_iload_n (i := 1) 1 dX12_whom_22 rfl rfl ?_
      replace hF := eg_bind hF; obtain ⟨⟨v14, h13⟩, e15, hF⟩ := hF
      refine eg_callS (n := 1) [.int l1] dX12_whom_23 (mX12_isEither e15) rfl ew_993 ew_994 ew_100 ew_995 hy_X12_isEither.2 rfl (Nat.le_of_ble_eq_true rfl) (Nat.le_of_ble_eq_true rfl) (Nat.le_of_ble_eq_true rfl) ?_
      refine eg_if_ne 33 dX12_whom_26 rfl (fun c16 => ?_) (fun c16 => ?_)
      · replace hF := eg_it c16 hF
        refine eg_ldc2 (v := (-1 : Int64)) dX12_whom_29 ew_984 ?_
        exact eg_lretE dX12_whom_32 hF
      · replace hF := eg_if c16 hF
        refine eg_aload_n (i := 0) 0 dX12_whom_33 rfl rfl ?_
        refine eg_iconst (v := (0 : Int32)) dX12_whom_34 (by decide) ?_
        replace hF := eg_bind hF; obtain ⟨h17, e18, hF⟩ := hF
        refine eg_callV (c := 12) (n := 1) [.int (0 : Int32)] dX12_whom_35 (mX12_gatherHopes e18) rfl (fX12_gatherHopes_O e18) (Nat.le_of_ble_eq_true rfl) rfl ew_1069 ew_1071 ew_32 ew_100 ew_1072 hy_X12_gatherHopes rfl (Nat.le_of_ble_eq_true rfl) (Nat.le_of_ble_eq_true rfl) (Nat.le_of_ble_eq_true rfl) ?_
        refine eg_aload_n (i := 0) 0 dX12_whom_38 rfl rfl ?_
        replace hF := eg_bind hF; obtain ⟨p19, e20, hF⟩ := hF
        refine eg_getR dX12_whom_39 e20 (Nat.le_of_ble_eq_true rfl) (Nat.le_of_ble_eq_true rfl) rfl ew_374 ?_
        refine eg_aload_n (i := 0) 0 dX12_whom_42 rfl rfl ?_
        replace hF := eg_bind hF; obtain ⟨p21, e22, hF⟩ := hF
        refine eg_getR dX12_whom_43 e22 (Nat.le_of_ble_eq_true rfl) (Nat.le_of_ble_eq_true rfl) rfl ew_359 ?_
        replace hF := eg_bind hF; obtain ⟨⟨v24, h23⟩, e25, hF⟩ := hF
        refine eg_callV (c := 7) (n := 0) [] dX12_whom_46 (mX7_persons e25) rfl (fX7_persons_O e25) (Nat.le_of_ble_eq_true rfl) rfl ew_629 ew_630 ew_631 ew_104 ew_632 hy_X7_persons rfl (Nat.le_of_ble_eq_true rfl) (Nat.le_of_ble_eq_true rfl) (Nat.le_of_ble_eq_true rfl) ?_
        replace hF := eg_bind hF; obtain ⟨h26, e27, hF⟩ := hF
        refine eg_callV (c := 9) (n := 1) [.int v24] dX12_whom_49 (mX9_pairAll e27) rfl (fX9_pairAll_O e27) (Nat.le_of_ble_eq_true rfl) rfl ew_1077 ew_1078 ew_1079 ew_109 ew_1080 hy_X9_pairAll rfl (Nat.le_of_ble_eq_true rfl) (Nat.le_of_ble_eq_true rfl) (Nat.le_of_ble_eq_true rfl) ?_
        refine eg_iload_n (i := 1) 1 dX12_whom_52 rfl rfl ?_
        refine eg_if_ne 67 dX12_whom_53 rfl (fun c28 => ?_) (fun c28 => ?_)
        · replace hF := eg_it c28 hF
          refine eg_aload_n (i := 0) 0 dX12_whom_56 rfl rfl ?_
          replace hF := eg_bind hF; obtain ⟨p29, e30, hF⟩ := hF
          refine eg_getR dX12_whom_57 e30 (Nat.le_of_ble_eq_true rfl) (Nat.le_of_ble_eq_true rfl) rfl ew_374 ?_
          replace hF := eg_bind hF; obtain ⟨⟨v32, h31⟩, e33, hF⟩ := hF
          refine eg_callV (c := 9) (n := 0) [] dX12_whom_60 (mX9_digits e33) rfl (fX9_digits_O e33) (Nat.le_of_ble_eq_true rfl) rfl ew_1090 ew_1091 ew_1092 ew_109 ew_1093 hy_X9_digits rfl (Nat.le_of_ble_eq_true rfl) (Nat.le_of_ble_eq_true rfl) (Nat.le_of_ble_eq_true rfl) ?_
          refine eg_i2l dX12_whom_63 ?_
          refine eg_goto 74 dX12_whom_64 rfl ?_
          exact eg_lretE dX12_whom_74 hF
        · replace hF := eg_if c28 hF
          refine eg_aload_n (i := 0) 0 dX12_whom_67 rfl rfl ?_
          replace hF := eg_bind hF; obtain ⟨p34, e35, hF⟩ := hF
          refine eg_getR dX12_whom_68 e35 (Nat.le_of_ble_eq_true rfl) (Nat.le_of_ble_eq_true rfl) rfl ew_374 ?_
          replace hF := eg_bind hF; obtain ⟨⟨v37, h36⟩, e38, hF⟩ := hF
          refine eg_callV (c := 9) (n := 0) [] dX12_whom_71 (mX9_hopesTogether e38) rfl (fX9_hopesTogether_O e38) (Nat.le_of_ble_eq_true rfl) rfl ew_1094 ew_1095 ew_1096 ew_109 ew_1097 hy_X9_hopesTogether rfl (Nat.le_of_ble_eq_true rfl) (Nat.le_of_ble_eq_true rfl) (Nat.le_of_ble_eq_true rfl) ?_
          exact eg_lretE dX12_whom_74 hF
    · replace hF := eg_if c12 hF
      refine eg_ldc2 (v := (-1 : Int64)) dX12_whom_29 ew_984 ?_
      exact eg_lretE dX12_whom_32 hF
theorem dX12_rank_0 : decode cX12_rank 0 = .ok (.aload_n 0, 1) := by decide +kernel
theorem dX12_rank_1 : decode cX12_rank 1 = .ok (.getfield 35, 3) := by decide +kernel
theorem dX12_rank_4 : decode cX12_rank 4 = .ok (.iload_n 1, 1) := by decide +kernel
theorem dX12_rank_5 : decode cX12_rank 5 = .ok (.invokevirtual 182, 3) := by decide +kernel
theorem dX12_rank_8 : decode cX12_rank 8 = .ok (.ifCond .eq 30, 3) := by decide +kernel
theorem dX12_rank_11 : decode cX12_rank 11 = .ok (.iload_n 2, 1) := by decide +kernel
theorem dX12_rank_12 : decode cX12_rank 12 = .ok (.ifCond .lt 26, 3) := by decide +kernel
theorem dX12_rank_15 : decode cX12_rank 15 = .ok (.iload_n 2, 1) := by decide +kernel
theorem dX12_rank_16 : decode cX12_rank 16 = .ok (.aload_n 0, 1) := by decide +kernel
theorem dX12_rank_17 : decode cX12_rank 17 = .ok (.getfield 35, 3) := by decide +kernel
theorem dX12_rank_20 : decode cX12_rank 20 = .ok (.invokevirtual 159, 3) := by decide +kernel
theorem dX12_rank_23 : decode cX12_rank 23 = .ok (.aload_n 0, 1) := by decide +kernel
theorem dX12_rank_24 : decode cX12_rank 24 = .ok (.getfield 35, 3) := by decide +kernel
theorem dX12_rank_27 : decode cX12_rank 27 = .ok (.invokevirtual 159, 3) := by decide +kernel
theorem dX12_rank_30 : decode cX12_rank 30 = .ok (.iconst 1, 1) := by decide +kernel
theorem dX12_rank_31 : decode cX12_rank 31 = .ok (.isub, 1) := by decide +kernel
theorem dX12_rank_32 : decode cX12_rank 32 = .ok (.imul, 1) := by decide +kernel
theorem dX12_rank_33 : decode cX12_rank 33 = .ok (.iconst 2, 1) := by decide +kernel
theorem dX12_rank_34 : decode cX12_rank 34 = .ok (.idiv, 1) := by decide +kernel
theorem dX12_rank_35 : decode cX12_rank 35 = .ok (.if_icmp .lt 5, 3) := by decide +kernel
theorem dX12_rank_38 : decode cX12_rank 38 = .ok (.iconst (-1), 1) := by decide +kernel
theorem dX12_rank_39 : decode cX12_rank 39 = .ok (.ireturn, 1) := by decide +kernel
theorem dX12_rank_40 : decode cX12_rank 40 = .ok (.aload_n 0, 1) := by decide +kernel
theorem dX12_rank_41 : decode cX12_rank 41 = .ok (.iload_n 1, 1) := by decide +kernel
theorem dX12_rank_42 : decode cX12_rank 42 = .ok (.invokevirtual 363, 3) := by decide +kernel
theorem dX12_rank_45 : decode cX12_rank 45 = .ok (.aload_n 0, 1) := by decide +kernel
theorem dX12_rank_46 : decode cX12_rank 46 = .ok (.getfield 115, 3) := by decide +kernel
theorem dX12_rank_49 : decode cX12_rank 49 = .ok (.aload_n 0, 1) := by decide +kernel
theorem dX12_rank_50 : decode cX12_rank 50 = .ok (.getfield 35, 3) := by decide +kernel
theorem dX12_rank_53 : decode cX12_rank 53 = .ok (.invokevirtual 159, 3) := by decide +kernel
theorem dX12_rank_56 : decode cX12_rank 56 = .ok (.iload_n 2, 1) := by decide +kernel
theorem dX12_rank_57 : decode cX12_rank 57 = .ok (.invokevirtual 375, 3) := by decide +kernel
theorem dX12_rank_60 : decode cX12_rank 60 = .ok (.ireturn, 1) := by decide +kernel
def fX12_rank (h : eg_H) (l0 : Nat) (l1 : Int32) (l2 : Int32) : Option (Int32 × eg_H) :=
  if eg_isO h 12 l0 then (
    (eg_gR h 12 3 l0).bind fun p1 =>
    (fX7_isEgg h p1 l1).bind fun ⟨v4, h3⟩ =>
    if v4 = 0 then
      (some ((-1 : Int32), h3))
    else
      if l2 < 0 then
        (some ((-1 : Int32), h3))
      else
        (eg_gR h3 12 3 l0).bind fun p8 =>
        (fX7_persons h3 p8).bind fun ⟨v11, h10⟩ =>
        (eg_gR h10 12 3 l0).bind fun p13 =>
        (fX7_persons h10 p13).bind fun ⟨v16, h15⟩ =>
        if l2 < ((v11 * (v16 - (1 : Int32))) / (2 : Int32)) then
          ((fX12_gatherHopes h15 l0 l1).bind fun h19 =>
          (eg_gR h19 12 18 l0).bind fun p21 =>
          (eg_gR h19 12 3 l0).bind fun p23 =>
          (fX7_persons h19 p23).bind fun ⟨v26, h25⟩ =>
          (fX9_ranked h25 p21 v26 l2).bind fun ⟨v29, h28⟩ =>
          some (v29, h28))
        else
          some ((-1 : Int32), h15)) else none
theorem fX12_rank_O {h : eg_H} {l0 : Nat} {l1 : Int32} {l2 : Int32} {rE : Int32} {hE : eg_H} (hF : fX12_rank h l0 l1 l2 = some (rE, hE)) : eg_isO h 12 l0 := (eg_ifn hF).1
set_option maxRecDepth 20000 in
theorem mX12_rank {h : eg_H} {l0 : Nat} {l1 : Int32} {l2 : Int32} {rE : Int32} {hE : eg_H} (hF : fX12_rank h l0 l1 l2 = some (rE, hE)) : eg_Met yX12_rank cX12_rank 3 (some .int) 8 [.ref l0, .int l1, .int l2] h (some (.int rE)) hE := by
  refine eg_enter rfl (Nat.le_of_ble_eq_true rfl) ?_
  show eg_AW (RX12, cX12_rank, 3, 8, none, "rank", (some .int)) (eg_Zm (some (.int rE)) hE h) (eg_nc hE) (eg_ns hE) h 0 [(0, .ref l0), (1, .int l1), (2, .int l2)] [] h
  replace hF := (eg_ifn hF).2
  refine eg_aload_n (i := 0) 0 dX12_rank_0 rfl rfl ?_
  replace hF := eg_bind hF; obtain ⟨p1, e2, hF⟩ := hF
  refine eg_getR dX12_rank_1 e2 (Nat.le_of_ble_eq_true rfl) (Nat.le_of_ble_eq_true rfl) rfl ew_359 ?_
  refine eg_iload_n (i := 1) 1 dX12_rank_4 rfl rfl ?_
  replace hF := eg_bind hF; obtain ⟨⟨v4, h3⟩, e5, hF⟩ := hF
  refine eg_callV (c := 7) (n := 1) [.int l1] dX12_rank_5 (mX7_isEgg e5) rfl (fX7_isEgg_O e5) (Nat.le_of_ble_eq_true rfl) rfl ew_695 ew_696 ew_697 ew_104 ew_698 hy_X7_isEgg rfl (Nat.le_of_ble_eq_true rfl) (Nat.le_of_ble_eq_true rfl) (Nat.le_of_ble_eq_true rfl) ?_
  refine eg_if_eq 38 dX12_rank_8 rfl (fun c6 => ?_) (fun c6 => ?_)
  · replace hF := eg_it c6 hF
    refine eg_iconst (v := (-1 : Int32)) dX12_rank_38 (by decide) ?_
    exact eg_iretE dX12_rank_39 hF
  · replace hF := eg_if c6 hF
    refine eg_iload_n (i := 2) 2 dX12_rank_11 rfl rfl ?_
    refine eg_if_lt 38 dX12_rank_12 rfl (fun c7 => ?_) (fun c7 => ?_)
    · replace hF := eg_it c7 hF
      refine eg_iconst (v := (-1 : Int32)) dX12_rank_38 (by decide) ?_
      exact eg_iretE dX12_rank_39 hF
    · replace hF := eg_if c7 hF
      refine eg_iload_n (i := 2) 2 dX12_rank_15 rfl rfl ?_
      refine eg_aload_n (i := 0) 0 dX12_rank_16 rfl rfl ?_
      replace hF := eg_bind hF; obtain ⟨p8, e9, hF⟩ := hF
      refine eg_getR dX12_rank_17 e9 (Nat.le_of_ble_eq_true rfl) (Nat.le_of_ble_eq_true rfl) rfl ew_359 ?_
      replace hF := eg_bind hF; obtain ⟨⟨v11, h10⟩, e12, hF⟩ := hF
      refine eg_callV (c := 7) (n := 0) [] dX12_rank_20 (mX7_persons e12) rfl (fX7_persons_O e12) (Nat.le_of_ble_eq_true rfl) rfl ew_629 ew_630 ew_631 ew_104 ew_632 hy_X7_persons rfl (Nat.le_of_ble_eq_true rfl) (Nat.le_of_ble_eq_true rfl) (Nat.le_of_ble_eq_true rfl) ?_
      refine eg_aload_n (i := 0) 0 dX12_rank_23 rfl rfl ?_
      replace hF := eg_bind hF; obtain ⟨p13, e14, hF⟩ := hF
      refine eg_getR dX12_rank_24 e14 (Nat.le_of_ble_eq_true rfl) (Nat.le_of_ble_eq_true rfl) rfl ew_359 ?_
      replace hF := eg_bind hF; obtain ⟨⟨v16, h15⟩, e17, hF⟩ := hF
      refine eg_callV (c := 7) (n := 0) [] dX12_rank_27 (mX7_persons e17) rfl (fX7_persons_O e17) (Nat.le_of_ble_eq_true rfl) rfl ew_629 ew_630 ew_631 ew_104 ew_632 hy_X7_persons rfl (Nat.le_of_ble_eq_true rfl) (Nat.le_of_ble_eq_true rfl) (Nat.le_of_ble_eq_true rfl) ?_
      refine eg_iconst (v := (1 : Int32)) dX12_rank_30 (by decide) ?_
      refine eg_isub dX12_rank_31 ?_
      refine eg_imul dX12_rank_32 ?_
      refine eg_iconst (v := (2 : Int32)) dX12_rank_33 (by decide) ?_
      refine eg_idiv dX12_rank_34 (by decide) ?_
      refine eg_ic_lt 40 dX12_rank_35 rfl (fun c18 => ?_) (fun c18 => ?_)
      · replace hF := eg_it c18 hF
        refine eg_aload_n (i := 0) 0 dX12_rank_40 rfl rfl ?_
        refine eg_iload_n (i := 1) 1 dX12_rank_41 rfl rfl ?_
        replace hF := eg_bind hF; obtain ⟨h19, e20, hF⟩ := hF
        refine eg_callV (c := 12) (n := 1) [.int l1] dX12_rank_42 (mX12_gatherHopes e20) rfl (fX12_gatherHopes_O e20) (Nat.le_of_ble_eq_true rfl) rfl ew_1069 ew_1071 ew_32 ew_100 ew_1072 hy_X12_gatherHopes rfl (Nat.le_of_ble_eq_true rfl) (Nat.le_of_ble_eq_true rfl) (Nat.le_of_ble_eq_true rfl) ?_
        refine eg_aload_n (i := 0) 0 dX12_rank_45 rfl rfl ?_
        replace hF := eg_bind hF; obtain ⟨p21, e22, hF⟩ := hF
        refine eg_getR dX12_rank_46 e22 (Nat.le_of_ble_eq_true rfl) (Nat.le_of_ble_eq_true rfl) rfl ew_374 ?_
        refine eg_aload_n (i := 0) 0 dX12_rank_49 rfl rfl ?_
        replace hF := eg_bind hF; obtain ⟨p23, e24, hF⟩ := hF
        refine eg_getR dX12_rank_50 e24 (Nat.le_of_ble_eq_true rfl) (Nat.le_of_ble_eq_true rfl) rfl ew_359 ?_
        replace hF := eg_bind hF; obtain ⟨⟨v26, h25⟩, e27, hF⟩ := hF
        refine eg_callV (c := 7) (n := 0) [] dX12_rank_53 (mX7_persons e27) rfl (fX7_persons_O e27) (Nat.le_of_ble_eq_true rfl) rfl ew_629 ew_630 ew_631 ew_104 ew_632 hy_X7_persons rfl (Nat.le_of_ble_eq_true rfl) (Nat.le_of_ble_eq_true rfl) (Nat.le_of_ble_eq_true rfl) ?_
        refine eg_iload_n (i := 2) 2 dX12_rank_56 rfl rfl ?_
        replace hF := eg_bind hF; obtain ⟨⟨v29, h28⟩, e30, hF⟩ := hF
        refine eg_callV (c := 9) (n := 2) [.int v26, .int l2] dX12_rank_57 (mX9_ranked e30) rfl (fX9_ranked_O e30) (Nat.le_of_ble_eq_true rfl) rfl ew_1102 ew_1103 ew_1104 ew_109 ew_1105 hy_X9_ranked rfl (Nat.le_of_ble_eq_true rfl) (Nat.le_of_ble_eq_true rfl) (Nat.le_of_ble_eq_true rfl) ?_
        exact eg_iretE dX12_rank_60 hF
      · replace hF := eg_if c18 hF
        refine eg_iconst (v := (-1 : Int32)) dX12_rank_38 (by decide) ?_
        exact eg_iretE dX12_rank_39 hF
theorem dX12_areTwoPairs_0 : decode cX12_areTwoPairs 0 = .ok (.aload_n 0, 1) := by decide +kernel
theorem dX12_areTwoPairs_1 : decode cX12_areTwoPairs 1 = .ok (.getfield 35, 3) := by decide +kernel
theorem dX12_areTwoPairs_4 : decode cX12_areTwoPairs 4 = .ok (.iload_n 1, 1) := by decide +kernel
theorem dX12_areTwoPairs_5 : decode cX12_areTwoPairs 5 = .ok (.invokevirtual 284, 3) := by decide +kernel
theorem dX12_areTwoPairs_8 : decode cX12_areTwoPairs 8 = .ok (.ifCond .eq 50, 3) := by decide +kernel
theorem dX12_areTwoPairs_11 : decode cX12_areTwoPairs 11 = .ok (.aload_n 0, 1) := by decide +kernel
theorem dX12_areTwoPairs_12 : decode cX12_areTwoPairs 12 = .ok (.getfield 35, 3) := by decide +kernel
theorem dX12_areTwoPairs_15 : decode cX12_areTwoPairs 15 = .ok (.iload_n 2, 1) := by decide +kernel
theorem dX12_areTwoPairs_16 : decode cX12_areTwoPairs 16 = .ok (.invokevirtual 284, 3) := by decide +kernel
theorem dX12_areTwoPairs_19 : decode cX12_areTwoPairs 19 = .ok (.ifCond .eq 39, 3) := by decide +kernel
theorem dX12_areTwoPairs_22 : decode cX12_areTwoPairs 22 = .ok (.iload_n 3, 1) := by decide +kernel
theorem dX12_areTwoPairs_23 : decode cX12_areTwoPairs 23 = .ok (.ifCond .lt 35, 3) := by decide +kernel
theorem dX12_areTwoPairs_26 : decode cX12_areTwoPairs 26 = .ok (.aload_n 0, 1) := by decide +kernel
theorem dX12_areTwoPairs_27 : decode cX12_areTwoPairs 27 = .ok (.getfield 35, 3) := by decide +kernel
theorem dX12_areTwoPairs_30 : decode cX12_areTwoPairs 30 = .ok (.iload_n 3, 1) := by decide +kernel
theorem dX12_areTwoPairs_31 : decode cX12_areTwoPairs 31 = .ok (.bipush 10, 2) := by decide +kernel
theorem dX12_areTwoPairs_33 : decode cX12_areTwoPairs 33 = .ok (.idiv, 1) := by decide +kernel
theorem dX12_areTwoPairs_34 : decode cX12_areTwoPairs 34 = .ok (.invokevirtual 182, 3) := by decide +kernel
theorem dX12_areTwoPairs_37 : decode cX12_areTwoPairs 37 = .ok (.ifCond .eq 21, 3) := by decide +kernel
theorem dX12_areTwoPairs_40 : decode cX12_areTwoPairs 40 = .ok (.aload_n 0, 1) := by decide +kernel
theorem dX12_areTwoPairs_41 : decode cX12_areTwoPairs 41 = .ok (.getfield 35, 3) := by decide +kernel
theorem dX12_areTwoPairs_44 : decode cX12_areTwoPairs 44 = .ok (.iload_n 3, 1) := by decide +kernel
theorem dX12_areTwoPairs_45 : decode cX12_areTwoPairs 45 = .ok (.bipush 10, 2) := by decide +kernel
theorem dX12_areTwoPairs_47 : decode cX12_areTwoPairs 47 = .ok (.irem, 1) := by decide +kernel
theorem dX12_areTwoPairs_48 : decode cX12_areTwoPairs 48 = .ok (.invokevirtual 182, 3) := by decide +kernel
theorem dX12_areTwoPairs_51 : decode cX12_areTwoPairs 51 = .ok (.ifCond .eq 7, 3) := by decide +kernel
theorem dX12_areTwoPairs_54 : decode cX12_areTwoPairs 54 = .ok (.iconst 1, 1) := by decide +kernel
theorem dX12_areTwoPairs_55 : decode cX12_areTwoPairs 55 = .ok (.goto 4, 3) := by decide +kernel
theorem dX12_areTwoPairs_58 : decode cX12_areTwoPairs 58 = .ok (.iconst 0, 1) := by decide +kernel
theorem dX12_areTwoPairs_59 : decode cX12_areTwoPairs 59 = .ok (.ireturn, 1) := by decide +kernel
def fX12_areTwoPairs (h : eg_H) (l0 : Nat) (l1 : Int32) (l2 : Int32) (l3 : Int32) : Option (Int32 × eg_H) :=
  if eg_isO h 12 l0 then (
    (eg_gR h 12 3 l0).bind fun p1 =>
    (fX7_isPair h p1 l1).bind fun ⟨v4, h3⟩ =>
    if v4 = 0 then
      (some ((0 : Int32), h3))
    else
      (eg_gR h3 12 3 l0).bind fun p7 =>
      (fX7_isPair h3 p7 l2).bind fun ⟨v10, h9⟩ =>
      if v10 = 0 then
        (some ((0 : Int32), h9))
      else
        if l3 < 0 then
          (some ((0 : Int32), h9))
        else
          (eg_gR h9 12 3 l0).bind fun p14 =>
          (fX7_isEgg h9 p14 (l3 / (10 : Int32))).bind fun ⟨v17, h16⟩ =>
          if v17 = 0 then
            (some ((0 : Int32), h16))
          else
            (eg_gR h16 12 3 l0).bind fun p20 =>
            (fX7_isEgg h16 p20 (l3 % (10 : Int32))).bind fun ⟨v23, h22⟩ =>
            if v23 = 0 then
              (some ((0 : Int32), h22))
            else
              some ((1 : Int32), h22)) else none
theorem fX12_areTwoPairs_O {h : eg_H} {l0 : Nat} {l1 : Int32} {l2 : Int32} {l3 : Int32} {rE : Int32} {hE : eg_H} (hF : fX12_areTwoPairs h l0 l1 l2 l3 = some (rE, hE)) : eg_isO h 12 l0 := (eg_ifn hF).1
set_option maxRecDepth 20000 in
theorem mX12_areTwoPairs {h : eg_H} {l0 : Nat} {l1 : Int32} {l2 : Int32} {l3 : Int32} {rE : Int32} {hE : eg_H} (hF : fX12_areTwoPairs h l0 l1 l2 l3 = some (rE, hE)) : eg_Met yX12_areTwoPairs cX12_areTwoPairs 4 (some .boolean) 2 [.ref l0, .int l1, .int l2, .int l3] h (some (.int rE)) hE := by
  refine eg_enter rfl (Nat.le_of_ble_eq_true rfl) ?_
  show eg_AW (RX12, cX12_areTwoPairs, 4, 2, none, "areTwoPairs", (some .boolean)) (eg_Zm (some (.int rE)) hE h) (eg_nc hE) (eg_ns hE) h 0 [(0, .ref l0), (1, .int l1), (2, .int l2), (3, .int l3)] [] h
  replace hF := (eg_ifn hF).2
  refine eg_aload_n (i := 0) 0 dX12_areTwoPairs_0 rfl rfl ?_
  replace hF := eg_bind hF; obtain ⟨p1, e2, hF⟩ := hF
  refine eg_getR dX12_areTwoPairs_1 e2 (Nat.le_of_ble_eq_true rfl) (Nat.le_of_ble_eq_true rfl) rfl ew_359 ?_
  refine eg_iload_n (i := 1) 1 dX12_areTwoPairs_4 rfl rfl ?_
  replace hF := eg_bind hF; obtain ⟨⟨v4, h3⟩, e5, hF⟩ := hF
  refine eg_callV (c := 7) (n := 1) [.int l1] dX12_areTwoPairs_5 (mX7_isPair e5) rfl (fX7_isPair_O e5) (Nat.le_of_ble_eq_true rfl) rfl ew_790 ew_791 ew_792 ew_104 ew_793 hy_X7_isPair rfl (Nat.le_of_ble_eq_true rfl) (Nat.le_of_ble_eq_true rfl) (Nat.le_of_ble_eq_true rfl) ?_
  refine eg_if_eq 58 dX12_areTwoPairs_8 rfl (fun c6 => ?_) (fun c6 => ?_)
  · replace hF := eg_it c6 hF
    refine eg_iconst (v := (0 : Int32)) dX12_areTwoPairs_58 (by decide) ?_
    exact eg_zretE dX12_areTwoPairs_59 (Or.inl rfl) hF
  · replace hF := eg_if c6 hF
    refine eg_aload_n (i := 0) 0 dX12_areTwoPairs_11 rfl rfl ?_
    replace hF := eg_bind hF; obtain ⟨p7, e8, hF⟩ := hF
    refine eg_getR dX12_areTwoPairs_12 e8 (Nat.le_of_ble_eq_true rfl) (Nat.le_of_ble_eq_true rfl) rfl ew_359 ?_
    refine eg_iload_n (i := 2) 2 dX12_areTwoPairs_15 rfl rfl ?_
    replace hF := eg_bind hF; obtain ⟨⟨v10, h9⟩, e11, hF⟩ := hF
    refine eg_callV (c := 7) (n := 1) [.int l2] dX12_areTwoPairs_16 (mX7_isPair e11) rfl (fX7_isPair_O e11) (Nat.le_of_ble_eq_true rfl) rfl ew_790 ew_791 ew_792 ew_104 ew_793 hy_X7_isPair rfl (Nat.le_of_ble_eq_true rfl) (Nat.le_of_ble_eq_true rfl) (Nat.le_of_ble_eq_true rfl) ?_
    refine eg_if_eq 58 dX12_areTwoPairs_19 rfl (fun c12 => ?_) (fun c12 => ?_)
    · replace hF := eg_it c12 hF
      refine eg_iconst (v := (0 : Int32)) dX12_areTwoPairs_58 (by decide) ?_
      exact eg_zretE dX12_areTwoPairs_59 (Or.inl rfl) hF
    · replace hF := eg_if c12 hF
      refine eg_iload_n (i := 3) 3 dX12_areTwoPairs_22 rfl rfl ?_
      refine eg_if_lt 58 dX12_areTwoPairs_23 rfl (fun c13 => ?_) (fun c13 => ?_)
      · replace hF := eg_it c13 hF
        refine eg_iconst (v := (0 : Int32)) dX12_areTwoPairs_58 (by decide) ?_
        exact eg_zretE dX12_areTwoPairs_59 (Or.inl rfl) hF
      · replace hF := eg_if c13 hF
        refine eg_aload_n (i := 0) 0 dX12_areTwoPairs_26 rfl rfl ?_
        replace hF := eg_bind hF; obtain ⟨p14, e15, hF⟩ := hF
        refine eg_getR dX12_areTwoPairs_27 e15 (Nat.le_of_ble_eq_true rfl) (Nat.le_of_ble_eq_true rfl) rfl ew_359 ?_
        refine eg_iload_n (i := 3) 3 dX12_areTwoPairs_30 rfl rfl ?_
        refine eg_bipush (v := (10 : Int32)) dX12_areTwoPairs_31 (by decide) ?_
        refine eg_idiv dX12_areTwoPairs_33 (by decide) ?_
        replace hF := eg_bind hF; obtain ⟨⟨v17, h16⟩, e18, hF⟩ := hF
        refine eg_callV (c := 7) (n := 1) [.int (l3 / (10 : Int32))] dX12_areTwoPairs_34 (mX7_isEgg e18) rfl (fX7_isEgg_O e18) (Nat.le_of_ble_eq_true rfl) rfl ew_695 ew_696 ew_697 ew_104 ew_698 hy_X7_isEgg rfl (Nat.le_of_ble_eq_true rfl) (Nat.le_of_ble_eq_true rfl) (Nat.le_of_ble_eq_true rfl) ?_
        refine eg_if_eq 58 dX12_areTwoPairs_37 rfl (fun c19 => ?_) (fun c19 => ?_)
        · replace hF := eg_it c19 hF
          refine eg_iconst (v := (0 : Int32)) dX12_areTwoPairs_58 (by decide) ?_
          exact eg_zretE dX12_areTwoPairs_59 (Or.inl rfl) hF
        · replace hF := eg_if c19 hF
          refine eg_aload_n (i := 0) 0 dX12_areTwoPairs_40 rfl rfl ?_
          replace hF := eg_bind hF; obtain ⟨p20, e21, hF⟩ := hF
          refine eg_getR dX12_areTwoPairs_41 e21 (Nat.le_of_ble_eq_true rfl) (Nat.le_of_ble_eq_true rfl) rfl ew_359 ?_
          refine eg_iload_n (i := 3) 3 dX12_areTwoPairs_44 rfl rfl ?_
          refine eg_bipush (v := (10 : Int32)) dX12_areTwoPairs_45 (by decide) ?_
          refine eg_irem dX12_areTwoPairs_47 (by decide) ?_
          replace hF := eg_bind hF; obtain ⟨⟨v23, h22⟩, e24, hF⟩ := hF
          refine eg_callV (c := 7) (n := 1) [.int (l3 % (10 : Int32))] dX12_areTwoPairs_48 (mX7_isEgg e24) rfl (fX7_isEgg_O e24) (Nat.le_of_ble_eq_true rfl) rfl ew_695 ew_696 ew_697 ew_104 ew_698 hy_X7_isEgg rfl (Nat.le_of_ble_eq_true rfl) (Nat.le_of_ble_eq_true rfl) (Nat.le_of_ble_eq_true rfl) ?_
          refine eg_if_eq 58 dX12_areTwoPairs_51 rfl (fun c25 => ?_) (fun c25 => ?_)
          · replace hF := eg_it c25 hF
            refine eg_iconst (v := (0 : Int32)) dX12_areTwoPairs_58 (by decide) ?_
            exact eg_zretE dX12_areTwoPairs_59 (Or.inl rfl) hF
          · replace hF := eg_if c25 hF
            refine eg_iconst (v := (1 : Int32)) dX12_areTwoPairs_54 (by decide) ?_
            refine eg_goto 59 dX12_areTwoPairs_55 rfl ?_
            exact eg_zretE dX12_areTwoPairs_59 (Or.inr rfl) hF
theorem dX12_boldest_0 : decode cX12_boldest 0 = .ok (.iconst (-1), 1) := by decide +kernel
theorem dX12_boldest_1 : decode cX12_boldest 1 = .ok (.istore 4, 2) := by decide +kernel
theorem dX12_boldest_3 : decode cX12_boldest 3 = .ok (.iconst 0, 1) := by decide +kernel
theorem dX12_boldest_4 : decode cX12_boldest 4 = .ok (.istore 5, 2) := by decide +kernel
theorem dX12_boldest_6 : decode cX12_boldest 6 = .ok (.iconst 1, 1) := by decide +kernel
theorem dX12_boldest_7 : decode cX12_boldest 7 = .ok (.istore 6, 2) := by decide +kernel
theorem dX12_boldest_9 : decode cX12_boldest 9 = .ok (.iload 6, 2) := by decide +kernel
theorem dX12_boldest_11 : decode cX12_boldest 11 = .ok (.iconst 3, 1) := by decide +kernel
theorem dX12_boldest_12 : decode cX12_boldest 12 = .ok (.if_icmp .gt 79, 3) := by decide +kernel
theorem dX12_boldest_15 : decode cX12_boldest 15 = .ok (.aload_n 0, 1) := by decide +kernel
theorem dX12_boldest_16 : decode cX12_boldest 16 = .ok (.getfield 107, 3) := by decide +kernel
theorem dX12_boldest_19 : decode cX12_boldest 19 = .ok (.iconst 0, 1) := by decide +kernel
theorem dX12_boldest_20 : decode cX12_boldest 20 = .ok (.aaload, 1) := by decide +kernel
theorem dX12_boldest_21 : decode cX12_boldest 21 = .ok (.aload_n 0, 1) := by decide +kernel
theorem dX12_boldest_22 : decode cX12_boldest 22 = .ok (.getfield 101, 3) := by decide +kernel
theorem dX12_boldest_25 : decode cX12_boldest 25 = .ok (.iload_n 1, 1) := by decide +kernel
theorem dX12_boldest_26 : decode cX12_boldest 26 = .ok (.bipush 10, 2) := by decide +kernel
theorem dX12_boldest_28 : decode cX12_boldest 28 = .ok (.iload_n 2, 1) := by decide +kernel
theorem dX12_boldest_29 : decode cX12_boldest 29 = .ok (.imul, 1) := by decide +kernel
theorem dX12_boldest_30 : decode cX12_boldest 30 = .ok (.iload 6, 2) := by decide +kernel
theorem dX12_boldest_32 : decode cX12_boldest 32 = .ok (.aload_n 0, 1) := by decide +kernel
theorem dX12_boldest_33 : decode cX12_boldest 33 = .ok (.getfield 35, 3) := by decide +kernel
theorem dX12_boldest_36 : decode cX12_boldest 36 = .ok (.iconst 0, 1) := by decide +kernel
theorem dX12_boldest_37 : decode cX12_boldest 37 = .ok (.invokevirtual 209, 3) := by decide +kernel
theorem dX12_boldest_40 : decode cX12_boldest 40 = .ok (.invokevirtual 331, 3) := by decide +kernel
theorem dX12_boldest_43 : decode cX12_boldest 43 = .ok (.aload_n 0, 1) := by decide +kernel
theorem dX12_boldest_44 : decode cX12_boldest 44 = .ok (.getfield 107, 3) := by decide +kernel
theorem dX12_boldest_47 : decode cX12_boldest 47 = .ok (.iconst 0, 1) := by decide +kernel
theorem dX12_boldest_48 : decode cX12_boldest 48 = .ok (.aaload, 1) := by decide +kernel
theorem dX12_boldest_49 : decode cX12_boldest 49 = .ok (.iload_n 3, 1) := by decide +kernel
theorem dX12_boldest_50 : decode cX12_boldest 50 = .ok (.invokevirtual 388, 3) := by decide +kernel
theorem dX12_boldest_53 : decode cX12_boldest 53 = .ok (.istore 7, 2) := by decide +kernel
theorem dX12_boldest_55 : decode cX12_boldest 55 = .ok (.iload 7, 2) := by decide +kernel
theorem dX12_boldest_57 : decode cX12_boldest 57 = .ok (.iload 4, 2) := by decide +kernel
theorem dX12_boldest_59 : decode cX12_boldest 59 = .ok (.if_icmp .le 10, 3) := by decide +kernel
theorem dX12_boldest_62 : decode cX12_boldest 62 = .ok (.iload 7, 2) := by decide +kernel
theorem dX12_boldest_64 : decode cX12_boldest 64 = .ok (.istore 4, 2) := by decide +kernel
theorem dX12_boldest_66 : decode cX12_boldest 66 = .ok (.iconst 0, 1) := by decide +kernel
theorem dX12_boldest_67 : decode cX12_boldest 67 = .ok (.istore 5, 2) := by decide +kernel
theorem dX12_boldest_69 : decode cX12_boldest 69 = .ok (.iload 7, 2) := by decide +kernel
theorem dX12_boldest_71 : decode cX12_boldest 71 = .ok (.iload 4, 2) := by decide +kernel
theorem dX12_boldest_73 : decode cX12_boldest 73 = .ok (.if_icmp .ne 12, 3) := by decide +kernel
theorem dX12_boldest_76 : decode cX12_boldest 76 = .ok (.iload 5, 2) := by decide +kernel
theorem dX12_boldest_78 : decode cX12_boldest 78 = .ok (.iconst 1, 1) := by decide +kernel
theorem dX12_boldest_79 : decode cX12_boldest 79 = .ok (.iload 6, 2) := by decide +kernel
theorem dX12_boldest_81 : decode cX12_boldest 81 = .ok (.ishl, 1) := by decide +kernel
theorem dX12_boldest_82 : decode cX12_boldest 82 = .ok (.ior, 1) := by decide +kernel
theorem dX12_boldest_83 : decode cX12_boldest 83 = .ok (.istore 5, 2) := by decide +kernel
theorem dX12_boldest_85 : decode cX12_boldest 85 = .ok (.iinc 6 1, 3) := by decide +kernel
theorem dX12_boldest_88 : decode cX12_boldest 88 = .ok (.goto (-79), 3) := by decide +kernel
theorem dX12_boldest_91 : decode cX12_boldest 91 = .ok (.iload 5, 2) := by decide +kernel
theorem dX12_boldest_93 : decode cX12_boldest 93 = .ok (.ireturn, 1) := by decide +kernel
def fX12_boldest_j69 (rec : eg_H → Nat → Int32 → Int32 → Int32 → Int32 → Int32 → Int32 → Option (Int32 × eg_H)) (h : eg_H) (l0 : Nat) (l1 : Int32) (l2 : Int32) (l3 : Int32) (l4 : Int32) (l5 : Int32) (l6 : Int32) (l7 : Int32) : Option (Int32 × eg_H) :=
  if l7 = l4 then
    ((some ((l5 ||| ((1 : Int32) <<< (l6 &&& 31))))).bind fun v2 =>
    rec h l0 l1 l2 l3 l4 v2 (l6 + (1 : Int32)))
  else
    rec h l0 l1 l2 l3 l4 l5 (l6 + (1 : Int32))
set_option maxRecDepth 20000 in
theorem fX12_boldest_j69_ok {rec : eg_H → Nat → Int32 → Int32 → Int32 → Int32 → Int32 → Int32 → Option (Int32 × eg_H)} {h0 : eg_H} {Z : eg_C → State → Prop} {N S : Nat} (h : eg_H) (l0 : Nat) (l1 : Int32) (l2 : Int32) (l3 : Int32) (l4 : Int32) (l5 : Int32) (l6 : Int32) (l7 : Int32) (eE : Int32 × eg_H) (hF : fX12_boldest_j69 rec h l0 l1 l2 l3 l4 l5 l6 l7 = some eE) (hrec : ∀ (h : eg_H) (l0 : Nat) (l1 : Int32) (l2 : Int32) (l3 : Int32) (l4 : Int32) (l5 : Int32) (l6 : Int32), rec h l0 l1 l2 l3 l4 l5 l6 = some eE → eg_AW (RX12, cX12_boldest, 8, 7, none, "boldest", (some .int)) Z N S h0 9 [(0, .ref l0), (1, .int l1), (2, .int l2), (3, .int l3), (4, .int l4), (5, .int l5), (6, .int l6)] [] h) (hk0 : ∀ (l5 : Int32) (h : eg_H), eE = (l5, h) → eg_AW (RX12, cX12_boldest, 8, 7, none, "boldest", (some .int)) Z N S h0 91 [(5, .int l5)] [] h) : eg_AW (RX12, cX12_boldest, 8, 7, none, "boldest", (some .int)) Z N S h0 69 [(0, .ref l0), (1, .int l1), (2, .int l2), (3, .int l3), (4, .int l4), (5, .int l5), (6, .int l6), (7, .int l7)] [] h := by
  refine eg_iload (i := 7) 7 dX12_boldest_69 rfl ?_
  refine eg_iload (i := 4) 4 dX12_boldest_71 rfl ?_
  refine eg_ic_ne 85 dX12_boldest_73 rfl (fun c1 => ?_) (fun c1 => ?_)
  · replace hF := eg_it c1 hF
    refine eg_iload (i := 5) 5 dX12_boldest_76 rfl ?_
    refine eg_iconst (v := (1 : Int32)) dX12_boldest_78 (by decide) ?_
    refine eg_iload (i := 6) 6 dX12_boldest_79 rfl ?_
    refine eg_ishl dX12_boldest_81 ?_
    refine eg_ior dX12_boldest_82 ?_
    replace hF := eg_bind hF; obtain ⟨v2, e3, hF⟩ := hF
    replace e3 := Option.some.inj e3
    rw [e3]
    refine eg_istore (i := 5) [(5, .int v2), (0, .ref l0), (1, .int l1), (2, .int l2), (3, .int l3), (4, .int l4), (6, .int l6), (7, .int l7)] dX12_boldest_83 (Nat.le_of_ble_eq_true rfl) rfl ?_
    refine eg_iinc (i := 6) (v := (l6 + (1 : Int32))) 6 [(6, .int (l6 + (1 : Int32))), (5, .int v2), (0, .ref l0), (1, .int l1), (2, .int l2), (3, .int l3), (4, .int l4), (7, .int l7)] dX12_boldest_85 rfl rfl (Nat.le_of_ble_eq_true rfl) rfl ?_
    refine eg_goto 9 dX12_boldest_88 rfl ?_
    exact eg_sub [2, 3, 4, 5, 6, 1, 0] [(0, .ref l0), (1, .int l1), (2, .int l2), (3, .int l3), (4, .int l4), (5, .int v2), (6, .int (l6 + (1 : Int32)))] rfl (hrec h l0 l1 l2 l3 l4 v2 (l6 + (1 : Int32)) hF)
  · replace hF := eg_if c1 hF
    refine eg_iinc (i := 6) (v := (l6 + (1 : Int32))) 6 [(6, .int (l6 + (1 : Int32))), (0, .ref l0), (1, .int l1), (2, .int l2), (3, .int l3), (4, .int l4), (5, .int l5), (7, .int l7)] dX12_boldest_85 rfl rfl (Nat.le_of_ble_eq_true rfl) rfl ?_
    refine eg_goto 9 dX12_boldest_88 rfl ?_
    exact eg_sub [1, 2, 3, 4, 5, 6, 0] [(0, .ref l0), (1, .int l1), (2, .int l2), (3, .int l3), (4, .int l4), (5, .int l5), (6, .int (l6 + (1 : Int32)))] rfl (hrec h l0 l1 l2 l3 l4 l5 (l6 + (1 : Int32)) hF)
def fX12_boldest_L9 : Nat → eg_H → Nat → Int32 → Int32 → Int32 → Int32 → Int32 → Int32 → Option (Int32 × eg_H)
  | 0, _, _, _, _, _, _, _, _ => none
  | n + 1, h, l0, l1, l2, l3, l4, l5, l6 =>
    if (3 : Int32) < l6 then
      (some (l5, h))
    else
      (eg_gR h 12 17 l0).bind fun p2 =>
      (eg_aR h 112 p2 (0 : Int32)).bind fun p4 =>
      (eg_gR h 12 16 l0).bind fun p6 =>
      (eg_gR h 12 3 l0).bind fun p8 =>
      (fX7_told h p8 (0 : Int32)).bind fun ⟨v11, h10⟩ =>
      (fX2_fill h10 p4 p6 l1 ((10 : Int32) * l2) l6 v11).bind fun h13 =>
      (eg_gR h13 12 17 l0).bind fun p15 =>
      (eg_aR h13 112 p15 (0 : Int32)).bind fun p17 =>
      (fX2_gainOf h13 p17 l3).bind fun ⟨v20, h19⟩ =>
      if v20 ≤ l4 then
        (fX12_boldest_j69 (fX12_boldest_L9 n) h19 l0 l1 l2 l3 l4 l5 l6 v20)
      else
        fX12_boldest_j69 (fX12_boldest_L9 n) h19 l0 l1 l2 l3 v20 (0 : Int32) l6 v20
set_option maxRecDepth 20000 in
theorem fX12_boldest_L9_ok {h0 : eg_H} {Z : eg_C → State → Prop} {N S : Nat} : ∀ (n : Nat) (h : eg_H) (l0 : Nat) (l1 : Int32) (l2 : Int32) (l3 : Int32) (l4 : Int32) (l5 : Int32) (l6 : Int32) (eE : Int32 × eg_H), fX12_boldest_L9 n h l0 l1 l2 l3 l4 l5 l6 = some eE → (hk0 : ∀ (l5 : Int32) (h : eg_H), eE = (l5, h) → eg_AW (RX12, cX12_boldest, 8, 7, none, "boldest", (some .int)) Z N S h0 91 [(5, .int l5)] [] h) → eg_AW (RX12, cX12_boldest, 8, 7, none, "boldest", (some .int)) Z N S h0 9 [(0, .ref l0), (1, .int l1), (2, .int l2), (3, .int l3), (4, .int l4), (5, .int l5), (6, .int l6)] [] h := by
  intro n
  induction n with
  | zero => intro h l0 l1 l2 l3 l4 l5 l6 eE hF; exact absurd hF (by intro q; cases q)
  | succ n ih =>
    intro h l0 l1 l2 l3 l4 l5 l6 eE hF hk0
    have hrec := fun (h' : eg_H) (l0 : Nat) (l1 : Int32) (l2 : Int32) (l3 : Int32) (l4 : Int32) (l5 : Int32) (l6 : Int32) hq => ih h' l0 l1 l2 l3 l4 l5 l6 eE hq hk0
    refine eg_iload (i := 6) 6 dX12_boldest_9 rfl ?_
    refine eg_iconst (v := (3 : Int32)) dX12_boldest_11 (by decide) ?_
    refine eg_ic_gt 91 dX12_boldest_12 rfl (fun c1 => ?_) (fun c1 => ?_)
    · replace hF := eg_it c1 hF
      exact eg_sub [5] [(5, .int l5)] rfl (hk0 l5 h (Option.some.inj hF).symm)
    · replace hF := eg_if c1 hF
      refine eg_aload_n (i := 0) 0 dX12_boldest_15 rfl rfl ?_
      replace hF := eg_bind hF; obtain ⟨p2, e3, hF⟩ := hF
      refine eg_getR dX12_boldest_16 e3 (Nat.le_of_ble_eq_true rfl) (Nat.le_of_ble_eq_true rfl) rfl ew_373 ?_
      refine eg_iconst (v := (0 : Int32)) dX12_boldest_19 (by decide) ?_
      replace hF := eg_bind hF; obtain ⟨p4, e5, hF⟩ := hF
      refine eg_aaldr (c := 2) dX12_boldest_20 e5 (Nat.le_of_ble_eq_true rfl) (Nat.le_of_ble_eq_true rfl) ?_
      refine eg_aload_n (i := 0) 0 dX12_boldest_21 rfl rfl ?_
      replace hF := eg_bind hF; obtain ⟨p6, e7, hF⟩ := hF
      refine eg_getR dX12_boldest_22 e7 (Nat.le_of_ble_eq_true rfl) (Nat.le_of_ble_eq_true rfl) rfl ew_372 ?_
      refine eg_iload_n (i := 1) 1 dX12_boldest_25 rfl rfl ?_
      refine eg_bipush (v := (10 : Int32)) dX12_boldest_26 (by decide) ?_
      refine eg_iload_n (i := 2) 2 dX12_boldest_28 rfl rfl ?_
      refine eg_imul dX12_boldest_29 ?_
      refine eg_iload (i := 6) 6 dX12_boldest_30 rfl ?_
      refine eg_aload_n (i := 0) 0 dX12_boldest_32 rfl rfl ?_
      replace hF := eg_bind hF; obtain ⟨p8, e9, hF⟩ := hF
      refine eg_getR dX12_boldest_33 e9 (Nat.le_of_ble_eq_true rfl) (Nat.le_of_ble_eq_true rfl) rfl ew_359 ?_
      refine eg_iconst (v := (0 : Int32)) dX12_boldest_36 (by decide) ?_
      replace hF := eg_bind hF; obtain ⟨⟨v11, h10⟩, e12, hF⟩ := hF
      refine eg_callV (c := 7) (n := 1) [.int (0 : Int32)] dX12_boldest_37 (mX7_told e12) rfl (fX7_told_O e12) (Nat.le_of_ble_eq_true rfl) rfl ew_717 ew_718 ew_719 ew_104 ew_720 hy_X7_told rfl (Nat.le_of_ble_eq_true rfl) (Nat.le_of_ble_eq_true rfl) (Nat.le_of_ble_eq_true rfl) ?_
      replace hF := eg_bind hF; obtain ⟨h13, e14, hF⟩ := hF
      refine eg_callV (c := 2) (n := 5) [.ref p6, .int l1, .int ((10 : Int32) * l2), .int l6, .int v11] dX12_boldest_40 (mX2_fill e14) rfl (fX2_fill_O e14) (Nat.le_of_ble_eq_true rfl) rfl ew_948 ew_949 ew_950 ew_108 ew_951 hy_X2_fill rfl (Nat.le_of_ble_eq_true rfl) (Nat.le_of_ble_eq_true rfl) (Nat.le_of_ble_eq_true rfl) ?_
      refine eg_aload_n (i := 0) 0 dX12_boldest_43 rfl rfl ?_
      replace hF := eg_bind hF; obtain ⟨p15, e16, hF⟩ := hF
      refine eg_getR dX12_boldest_44 e16 (Nat.le_of_ble_eq_true rfl) (Nat.le_of_ble_eq_true rfl) rfl ew_373 ?_
      refine eg_iconst (v := (0 : Int32)) dX12_boldest_47 (by decide) ?_
      replace hF := eg_bind hF; obtain ⟨p17, e18, hF⟩ := hF
      refine eg_aaldr (c := 2) dX12_boldest_48 e18 (Nat.le_of_ble_eq_true rfl) (Nat.le_of_ble_eq_true rfl) ?_
      refine eg_iload_n (i := 3) 3 dX12_boldest_49 rfl rfl ?_
      replace hF := eg_bind hF; obtain ⟨⟨v20, h19⟩, e21, hF⟩ := hF
      refine eg_callV (c := 2) (n := 1) [.int l3] dX12_boldest_50 (mX2_gainOf e21) rfl (fX2_gainOf_O e21) (Nat.le_of_ble_eq_true rfl) rfl ew_1122 ew_1017 ew_1018 ew_108 ew_1019 hy_X2_gainOf rfl (Nat.le_of_ble_eq_true rfl) (Nat.le_of_ble_eq_true rfl) (Nat.le_of_ble_eq_true rfl) ?_
      refine eg_istore (i := 7) [(7, .int v20), (0, .ref l0), (1, .int l1), (2, .int l2), (3, .int l3), (4, .int l4), (5, .int l5), (6, .int l6)] dX12_boldest_53 (Nat.le_of_ble_eq_true rfl) rfl ?_
      refine eg_iload (i := 7) 0 dX12_boldest_55 rfl ?_
      refine eg_iload (i := 4) 5 dX12_boldest_57 rfl ?_
      refine eg_ic_le 69 dX12_boldest_59 rfl (fun c22 => ?_) (fun c22 => ?_)
      · replace hF := eg_it c22 hF
        exact eg_sub [1, 2, 3, 4, 5, 6, 7, 0] [(0, .ref l0), (1, .int l1), (2, .int l2), (3, .int l3), (4, .int l4), (5, .int l5), (6, .int l6), (7, .int v20)] rfl (fX12_boldest_j69_ok h19 l0 l1 l2 l3 l4 l5 l6 v20 eE hF hrec hk0)
      · replace hF := eg_if c22 hF
        refine eg_iload (i := 7) 0 dX12_boldest_62 rfl ?_
        refine eg_istore (i := 4) [(4, .int v20), (7, .int v20), (0, .ref l0), (1, .int l1), (2, .int l2), (3, .int l3), (5, .int l5), (6, .int l6)] dX12_boldest_64 (Nat.le_of_ble_eq_true rfl) rfl ?_
        refine eg_iconst (v := (0 : Int32)) dX12_boldest_66 (by decide) ?_
        refine eg_istore (i := 5) [(5, .int (0 : Int32)), (4, .int v20), (7, .int v20), (0, .ref l0), (1, .int l1), (2, .int l2), (3, .int l3), (6, .int l6)] dX12_boldest_67 (Nat.le_of_ble_eq_true rfl) rfl ?_
        exact eg_sub [3, 4, 5, 6, 1, 0, 7, 2] [(0, .ref l0), (1, .int l1), (2, .int l2), (3, .int l3), (4, .int v20), (5, .int (0 : Int32)), (6, .int l6), (7, .int v20)] rfl (fX12_boldest_j69_ok h19 l0 l1 l2 l3 v20 (0 : Int32) l6 v20 eE hF hrec hk0)
def fX12_boldest (h : eg_H) (l0 : Nat) (l1 : Int32) (l2 : Int32) (l3 : Int32) : Option (Int32 × eg_H) :=
  if eg_isO h 12 l0 then (
    (fX12_boldest_L9 eg_F h l0 l1 l2 l3 (-1 : Int32) (0 : Int32) (1 : Int32)).bind fun e =>
    match e with
    | (v3, h4) =>
      some (v3, h4)) else none
theorem fX12_boldest_O {h : eg_H} {l0 : Nat} {l1 : Int32} {l2 : Int32} {l3 : Int32} {rE : Int32} {hE : eg_H} (hF : fX12_boldest h l0 l1 l2 l3 = some (rE, hE)) : eg_isO h 12 l0 := (eg_ifn hF).1
set_option maxRecDepth 20000 in
theorem mX12_boldest {h : eg_H} {l0 : Nat} {l1 : Int32} {l2 : Int32} {l3 : Int32} {rE : Int32} {hE : eg_H} (hF : fX12_boldest h l0 l1 l2 l3 = some (rE, hE)) : eg_Met yX12_boldest cX12_boldest 8 (some .int) 7 [.ref l0, .int l1, .int l2, .int l3] h (some (.int rE)) hE := by
  refine eg_enter rfl (Nat.le_of_ble_eq_true rfl) ?_
  show eg_AW (RX12, cX12_boldest, 8, 7, none, "boldest", (some .int)) (eg_Zm (some (.int rE)) hE h) (eg_nc hE) (eg_ns hE) h 0 [(0, .ref l0), (1, .int l1), (2, .int l2), (3, .int l3)] [] h
  replace hF := (eg_ifn hF).2
  refine eg_iconst (v := (-1 : Int32)) dX12_boldest_0 (by decide) ?_
  refine eg_istore (i := 4) [(4, .int (-1 : Int32)), (0, .ref l0), (1, .int l1), (2, .int l2), (3, .int l3)] dX12_boldest_1 (Nat.le_of_ble_eq_true rfl) rfl ?_
  refine eg_iconst (v := (0 : Int32)) dX12_boldest_3 (by decide) ?_
  refine eg_istore (i := 5) [(5, .int (0 : Int32)), (4, .int (-1 : Int32)), (0, .ref l0), (1, .int l1), (2, .int l2), (3, .int l3)] dX12_boldest_4 (Nat.le_of_ble_eq_true rfl) rfl ?_
  refine eg_iconst (v := (1 : Int32)) dX12_boldest_6 (by decide) ?_
  refine eg_istore (i := 6) [(6, .int (1 : Int32)), (5, .int (0 : Int32)), (4, .int (-1 : Int32)), (0, .ref l0), (1, .int l1), (2, .int l2), (3, .int l3)] dX12_boldest_7 (Nat.le_of_ble_eq_true rfl) rfl ?_
  replace hF := eg_bind hF; obtain ⟨x2, e1, hF⟩ := hF
  refine eg_sub [3, 4, 5, 6, 2, 1, 0] [(0, .ref l0), (1, .int l1), (2, .int l2), (3, .int l3), (4, .int (-1 : Int32)), (5, .int (0 : Int32)), (6, .int (1 : Int32))] rfl (fX12_boldest_L9_ok eg_F h l0 l1 l2 l3 (-1 : Int32) (0 : Int32) (1 : Int32) x2 e1 ?_)
  · intro v3 h4 e5
    subst e5
    refine eg_iload (i := 5) 0 dX12_boldest_91 rfl ?_
    exact eg_iretE dX12_boldest_93 hF
theorem dX12_bold_0 : decode cX12_bold 0 = .ok (.aload_n 0, 1) := by decide +kernel
theorem dX12_bold_1 : decode cX12_bold 1 = .ok (.iload_n 1, 1) := by decide +kernel
theorem dX12_bold_2 : decode cX12_bold 2 = .ok (.iload_n 2, 1) := by decide +kernel
theorem dX12_bold_3 : decode cX12_bold 3 = .ok (.iload_n 3, 1) := by decide +kernel
theorem dX12_bold_4 : decode cX12_bold 4 = .ok (.invokevirtual 382, 3) := by decide +kernel
theorem dX12_bold_7 : decode cX12_bold 7 = .ok (.ifCond .eq 22, 3) := by decide +kernel
theorem dX12_bold_10 : decode cX12_bold 10 = .ok (.iload 4, 2) := by decide +kernel
theorem dX12_bold_12 : decode cX12_bold 12 = .ok (.iconst 1, 1) := by decide +kernel
theorem dX12_bold_13 : decode cX12_bold 13 = .ok (.if_icmp .lt 16, 3) := by decide +kernel
theorem dX12_bold_16 : decode cX12_bold 16 = .ok (.iload 4, 2) := by decide +kernel
theorem dX12_bold_18 : decode cX12_bold 18 = .ok (.bipush 9, 2) := by decide +kernel
theorem dX12_bold_20 : decode cX12_bold 20 = .ok (.if_icmp .gt 9, 3) := by decide +kernel
theorem dX12_bold_23 : decode cX12_bold 23 = .ok (.iload 5, 2) := by decide +kernel
theorem dX12_bold_25 : decode cX12_bold 25 = .ok (.iconst (-1), 1) := by decide +kernel
theorem dX12_bold_26 : decode cX12_bold 26 = .ok (.if_icmp .ge 5, 3) := by decide +kernel
theorem dX12_bold_29 : decode cX12_bold 29 = .ok (.iconst (-1), 1) := by decide +kernel
theorem dX12_bold_30 : decode cX12_bold 30 = .ok (.ireturn, 1) := by decide +kernel
theorem dX12_bold_31 : decode cX12_bold 31 = .ok (.aload_n 0, 1) := by decide +kernel
theorem dX12_bold_32 : decode cX12_bold 32 = .ok (.iload_n 1, 1) := by decide +kernel
theorem dX12_bold_33 : decode cX12_bold 33 = .ok (.iload_n 3, 1) := by decide +kernel
theorem dX12_bold_34 : decode cX12_bold 34 = .ok (.bipush 10, 2) := by decide +kernel
theorem dX12_bold_36 : decode cX12_bold 36 = .ok (.idiv, 1) := by decide +kernel
theorem dX12_bold_37 : decode cX12_bold 37 = .ok (.iload 4, 2) := by decide +kernel
theorem dX12_bold_39 : decode cX12_bold 39 = .ok (.invokevirtual 385, 3) := by decide +kernel
theorem dX12_bold_42 : decode cX12_bold 42 = .ok (.istore 6, 2) := by decide +kernel
theorem dX12_bold_44 : decode cX12_bold 44 = .ok (.aload_n 0, 1) := by decide +kernel
theorem dX12_bold_45 : decode cX12_bold 45 = .ok (.iload_n 2, 1) := by decide +kernel
theorem dX12_bold_46 : decode cX12_bold 46 = .ok (.iload_n 3, 1) := by decide +kernel
theorem dX12_bold_47 : decode cX12_bold 47 = .ok (.bipush 10, 2) := by decide +kernel
theorem dX12_bold_49 : decode cX12_bold 49 = .ok (.irem, 1) := by decide +kernel
theorem dX12_bold_50 : decode cX12_bold 50 = .ok (.iload 4, 2) := by decide +kernel
theorem dX12_bold_52 : decode cX12_bold 52 = .ok (.invokevirtual 385, 3) := by decide +kernel
theorem dX12_bold_55 : decode cX12_bold 55 = .ok (.istore 7, 2) := by decide +kernel
theorem dX12_bold_57 : decode cX12_bold 57 = .ok (.iconst 0, 1) := by decide +kernel
theorem dX12_bold_58 : decode cX12_bold 58 = .ok (.istore 8, 2) := by decide +kernel
theorem dX12_bold_60 : decode cX12_bold 60 = .ok (.iconst 1, 1) := by decide +kernel
theorem dX12_bold_61 : decode cX12_bold 61 = .ok (.istore 9, 2) := by decide +kernel
theorem dX12_bold_63 : decode cX12_bold 63 = .ok (.iload 9, 2) := by decide +kernel
theorem dX12_bold_65 : decode cX12_bold 65 = .ok (.iconst 3, 1) := by decide +kernel
theorem dX12_bold_66 : decode cX12_bold 66 = .ok (.if_icmp .gt 65, 3) := by decide +kernel
theorem dX12_bold_69 : decode cX12_bold 69 = .ok (.iconst 1, 1) := by decide +kernel
theorem dX12_bold_70 : decode cX12_bold 70 = .ok (.istore 10, 2) := by decide +kernel
theorem dX12_bold_72 : decode cX12_bold 72 = .ok (.iload 10, 2) := by decide +kernel
theorem dX12_bold_74 : decode cX12_bold 74 = .ok (.iconst 3, 1) := by decide +kernel
theorem dX12_bold_75 : decode cX12_bold 75 = .ok (.if_icmp .gt 50, 3) := by decide +kernel
theorem dX12_bold_78 : decode cX12_bold 78 = .ok (.iload 6, 2) := by decide +kernel
theorem dX12_bold_80 : decode cX12_bold 80 = .ok (.iload 9, 2) := by decide +kernel
theorem dX12_bold_82 : decode cX12_bold 82 = .ok (.ishr, 1) := by decide +kernel
theorem dX12_bold_83 : decode cX12_bold 83 = .ok (.iconst 1, 1) := by decide +kernel
theorem dX12_bold_84 : decode cX12_bold 84 = .ok (.iand, 1) := by decide +kernel
theorem dX12_bold_85 : decode cX12_bold 85 = .ok (.iconst 1, 1) := by decide +kernel
theorem dX12_bold_86 : decode cX12_bold 86 = .ok (.if_icmp .ne 33, 3) := by decide +kernel
theorem dX12_bold_89 : decode cX12_bold 89 = .ok (.iload 7, 2) := by decide +kernel
theorem dX12_bold_91 : decode cX12_bold 91 = .ok (.iload 10, 2) := by decide +kernel
theorem dX12_bold_93 : decode cX12_bold 93 = .ok (.ishr, 1) := by decide +kernel
theorem dX12_bold_94 : decode cX12_bold 94 = .ok (.iconst 1, 1) := by decide +kernel
theorem dX12_bold_95 : decode cX12_bold 95 = .ok (.iand, 1) := by decide +kernel
theorem dX12_bold_96 : decode cX12_bold 96 = .ok (.iconst 1, 1) := by decide +kernel
theorem dX12_bold_97 : decode cX12_bold 97 = .ok (.if_icmp .ne 22, 3) := by decide +kernel
theorem dX12_bold_100 : decode cX12_bold 100 = .ok (.iload 8, 2) := by decide +kernel
theorem dX12_bold_102 : decode cX12_bold 102 = .ok (.iload 5, 2) := by decide +kernel
theorem dX12_bold_104 : decode cX12_bold 104 = .ok (.if_icmp .ne 12, 3) := by decide +kernel
theorem dX12_bold_107 : decode cX12_bold 107 = .ok (.bipush 10, 2) := by decide +kernel
theorem dX12_bold_109 : decode cX12_bold 109 = .ok (.iload 9, 2) := by decide +kernel
theorem dX12_bold_111 : decode cX12_bold 111 = .ok (.imul, 1) := by decide +kernel
theorem dX12_bold_112 : decode cX12_bold 112 = .ok (.iload 10, 2) := by decide +kernel
theorem dX12_bold_114 : decode cX12_bold 114 = .ok (.iadd, 1) := by decide +kernel
theorem dX12_bold_115 : decode cX12_bold 115 = .ok (.ireturn, 1) := by decide +kernel
theorem dX12_bold_116 : decode cX12_bold 116 = .ok (.iinc 8 1, 3) := by decide +kernel
theorem dX12_bold_119 : decode cX12_bold 119 = .ok (.iinc 10 1, 3) := by decide +kernel
theorem dX12_bold_122 : decode cX12_bold 122 = .ok (.goto (-50), 3) := by decide +kernel
theorem dX12_bold_125 : decode cX12_bold 125 = .ok (.iinc 9 1, 3) := by decide +kernel
theorem dX12_bold_128 : decode cX12_bold 128 = .ok (.goto (-65), 3) := by decide +kernel
theorem dX12_bold_131 : decode cX12_bold 131 = .ok (.iload 5, 2) := by decide +kernel
theorem dX12_bold_133 : decode cX12_bold 133 = .ok (.iconst (-1), 1) := by decide +kernel
theorem dX12_bold_134 : decode cX12_bold 134 = .ok (.if_icmp .ne 8, 3) := by decide +kernel
theorem dX12_bold_137 : decode cX12_bold 137 = .ok (.iload 8, 2) := by decide +kernel
theorem dX12_bold_139 : decode cX12_bold 139 = .ok (.goto 4, 3) := by decide +kernel
theorem dX12_bold_142 : decode cX12_bold 142 = .ok (.iconst (-1), 1) := by decide +kernel
theorem dX12_bold_143 : decode cX12_bold 143 = .ok (.ireturn, 1) := by decide +kernel
def fX12_bold_L72 : Nat → eg_H → Int32 → Int32 → Int32 → Int32 → Int32 → Int32 → Option ((Int32 × Int32 × Int32 × Int32 × Int32 × eg_H) ⊕ (Int32 × Int32 × eg_H))
  | 0, _, _, _, _, _, _, _ => none
  | n + 1, h, l5, l6, l7, l8, l9, l10 =>
    if (3 : Int32) < l10 then
      (some (.inl (l5, l6, l7, l8, l9, h)))
    else
      if ((l6 >>> (l9 &&& 31)) &&& (1 : Int32)) = (1 : Int32) then
        (if ((l7 >>> (l10 &&& 31)) &&& (1 : Int32)) = (1 : Int32) then
          (if l8 = l5 then
            (some (.inr (l9, l10, h)))
          else
            fX12_bold_L72 n h l5 l6 l7 (l8 + (1 : Int32)) l9 (l10 + (1 : Int32)))
        else
          fX12_bold_L72 n h l5 l6 l7 l8 l9 (l10 + (1 : Int32)))
      else
        fX12_bold_L72 n h l5 l6 l7 l8 l9 (l10 + (1 : Int32))
set_option maxRecDepth 20000 in
theorem fX12_bold_L72_ok {h0 : eg_H} {Z : eg_C → State → Prop} {N S : Nat} : ∀ (n : Nat) (h : eg_H) (l5 : Int32) (l6 : Int32) (l7 : Int32) (l8 : Int32) (l9 : Int32) (l10 : Int32) (eE : (Int32 × Int32 × Int32 × Int32 × Int32 × eg_H) ⊕ (Int32 × Int32 × eg_H)), fX12_bold_L72 n h l5 l6 l7 l8 l9 l10 = some eE → (hk0 : ∀ (l5 : Int32) (l6 : Int32) (l7 : Int32) (l8 : Int32) (l9 : Int32) (h : eg_H), eE = (.inl (l5, l6, l7, l8, l9, h)) → eg_AW (RX12, cX12_bold, 11, 8, none, "bold", (some .int)) Z N S h0 125 [(5, .int l5), (6, .int l6), (7, .int l7), (8, .int l8), (9, .int l9)] [] h) → (hk1 : ∀ (l9 : Int32) (l10 : Int32) (h : eg_H), eE = (.inr (l9, l10, h)) → eg_AW (RX12, cX12_bold, 11, 8, none, "bold", (some .int)) Z N S h0 107 [(9, .int l9), (10, .int l10)] [] h) → eg_AW (RX12, cX12_bold, 11, 8, none, "bold", (some .int)) Z N S h0 72 [(5, .int l5), (6, .int l6), (7, .int l7), (8, .int l8), (9, .int l9), (10, .int l10)] [] h := by
  intro n
  induction n with
  | zero => intro h l5 l6 l7 l8 l9 l10 eE hF; exact absurd hF (by intro q; cases q)
  | succ n ih =>
    intro h l5 l6 l7 l8 l9 l10 eE hF hk0 hk1
    have hrec := fun (h' : eg_H) (l5 : Int32) (l6 : Int32) (l7 : Int32) (l8 : Int32) (l9 : Int32) (l10 : Int32) hq => ih h' l5 l6 l7 l8 l9 l10 eE hq hk0 hk1
    refine eg_iload (i := 10) 5 dX12_bold_72 rfl ?_
    refine eg_iconst (v := (3 : Int32)) dX12_bold_74 (by decide) ?_
    refine eg_ic_gt 125 dX12_bold_75 rfl (fun c1 => ?_) (fun c1 => ?_)
    · replace hF := eg_it c1 hF
      exact eg_sub [0, 1, 2, 3, 4] [(5, .int l5), (6, .int l6), (7, .int l7), (8, .int l8), (9, .int l9)] rfl (hk0 l5 l6 l7 l8 l9 h (Option.some.inj hF).symm)
    · replace hF := eg_if c1 hF
      refine eg_iload (i := 6) 1 dX12_bold_78 rfl ?_
      refine eg_iload (i := 9) 4 dX12_bold_80 rfl ?_
      refine eg_ishr dX12_bold_82 ?_
      refine eg_iconst (v := (1 : Int32)) dX12_bold_83 (by decide) ?_
      refine eg_iand dX12_bold_84 ?_
      refine eg_iconst (v := (1 : Int32)) dX12_bold_85 (by decide) ?_
      refine eg_ic_ne 119 dX12_bold_86 rfl (fun c2 => ?_) (fun c2 => ?_)
      · replace hF := eg_it c2 hF
        refine eg_iload (i := 7) 2 dX12_bold_89 rfl ?_
        refine eg_iload (i := 10) 5 dX12_bold_91 rfl ?_
        refine eg_ishr dX12_bold_93 ?_
        refine eg_iconst (v := (1 : Int32)) dX12_bold_94 (by decide) ?_
        refine eg_iand dX12_bold_95 ?_
        refine eg_iconst (v := (1 : Int32)) dX12_bold_96 (by decide) ?_
        refine eg_ic_ne 119 dX12_bold_97 rfl (fun c3 => ?_) (fun c3 => ?_)
        · replace hF := eg_it c3 hF
          refine eg_iload (i := 8) 3 dX12_bold_100 rfl ?_
          refine eg_iload (i := 5) 0 dX12_bold_102 rfl ?_
          refine eg_ic_ne 116 dX12_bold_104 rfl (fun c4 => ?_) (fun c4 => ?_)
          · replace hF := eg_it c4 hF
            exact eg_sub [4, 5] [(9, .int l9), (10, .int l10)] rfl (hk1 l9 l10 h (Option.some.inj hF).symm)
          · replace hF := eg_if c4 hF
            refine eg_iinc (i := 8) (v := (l8 + (1 : Int32))) 3 [(8, .int (l8 + (1 : Int32))), (5, .int l5), (6, .int l6), (7, .int l7), (9, .int l9), (10, .int l10)] dX12_bold_116 rfl rfl (Nat.le_of_ble_eq_true rfl) rfl ?_
            refine eg_iinc (i := 10) (v := (l10 + (1 : Int32))) 5 [(10, .int (l10 + (1 : Int32))), (8, .int (l8 + (1 : Int32))), (5, .int l5), (6, .int l6), (7, .int l7), (9, .int l9)] dX12_bold_119 rfl rfl (Nat.le_of_ble_eq_true rfl) rfl ?_
            refine eg_goto 72 dX12_bold_122 rfl ?_
            exact eg_sub [2, 3, 4, 1, 5, 0] [(5, .int l5), (6, .int l6), (7, .int l7), (8, .int (l8 + (1 : Int32))), (9, .int l9), (10, .int (l10 + (1 : Int32)))] rfl (hrec h l5 l6 l7 (l8 + (1 : Int32)) l9 (l10 + (1 : Int32)) hF)
        · replace hF := eg_if c3 hF
          refine eg_iinc (i := 10) (v := (l10 + (1 : Int32))) 5 [(10, .int (l10 + (1 : Int32))), (5, .int l5), (6, .int l6), (7, .int l7), (8, .int l8), (9, .int l9)] dX12_bold_119 rfl rfl (Nat.le_of_ble_eq_true rfl) rfl ?_
          refine eg_goto 72 dX12_bold_122 rfl ?_
          exact eg_sub [1, 2, 3, 4, 5, 0] [(5, .int l5), (6, .int l6), (7, .int l7), (8, .int l8), (9, .int l9), (10, .int (l10 + (1 : Int32)))] rfl (hrec h l5 l6 l7 l8 l9 (l10 + (1 : Int32)) hF)
      · replace hF := eg_if c2 hF
        refine eg_iinc (i := 10) (v := (l10 + (1 : Int32))) 5 [(10, .int (l10 + (1 : Int32))), (5, .int l5), (6, .int l6), (7, .int l7), (8, .int l8), (9, .int l9)] dX12_bold_119 rfl rfl (Nat.le_of_ble_eq_true rfl) rfl ?_
        refine eg_goto 72 dX12_bold_122 rfl ?_
        exact eg_sub [1, 2, 3, 4, 5, 0] [(5, .int l5), (6, .int l6), (7, .int l7), (8, .int l8), (9, .int l9), (10, .int (l10 + (1 : Int32)))] rfl (hrec h l5 l6 l7 l8 l9 (l10 + (1 : Int32)) hF)
def fX12_bold_L63 : Nat → eg_H → Int32 → Int32 → Int32 → Int32 → Int32 → Option ((Int32 × Int32 × eg_H) ⊕ (Int32 × Int32 × eg_H))
  | 0, _, _, _, _, _, _ => none
  | n + 1, h, l5, l6, l7, l8, l9 =>
    if (3 : Int32) < l9 then
      (some (.inl (l5, l8, h)))
    else
      (fX12_bold_L72 eg_F h l5 l6 l7 l8 l9 (1 : Int32)).bind fun e =>
      match e with
      | .inl (v4, v5, v6, v7, v8, h9) =>
        fX12_bold_L63 n h9 v4 v5 v6 v7 (v8 + (1 : Int32))
      | .inr (v11, v12, h13) =>
        some (.inr (v11, v12, h13))
set_option maxRecDepth 20000 in
theorem fX12_bold_L63_ok {h0 : eg_H} {Z : eg_C → State → Prop} {N S : Nat} : ∀ (n : Nat) (h : eg_H) (l5 : Int32) (l6 : Int32) (l7 : Int32) (l8 : Int32) (l9 : Int32) (eE : (Int32 × Int32 × eg_H) ⊕ (Int32 × Int32 × eg_H)), fX12_bold_L63 n h l5 l6 l7 l8 l9 = some eE → (hk0 : ∀ (l5 : Int32) (l8 : Int32) (h : eg_H), eE = (.inl (l5, l8, h)) → eg_AW (RX12, cX12_bold, 11, 8, none, "bold", (some .int)) Z N S h0 131 [(5, .int l5), (8, .int l8)] [] h) → (hk1 : ∀ (l9 : Int32) (l10 : Int32) (h : eg_H), eE = (.inr (l9, l10, h)) → eg_AW (RX12, cX12_bold, 11, 8, none, "bold", (some .int)) Z N S h0 107 [(9, .int l9), (10, .int l10)] [] h) → eg_AW (RX12, cX12_bold, 11, 8, none, "bold", (some .int)) Z N S h0 63 [(5, .int l5), (6, .int l6), (7, .int l7), (8, .int l8), (9, .int l9)] [] h := by
  intro n
  induction n with
  | zero => intro h l5 l6 l7 l8 l9 eE hF; exact absurd hF (by intro q; cases q)
  | succ n ih =>
    intro h l5 l6 l7 l8 l9 eE hF hk0 hk1
    have hrec := fun (h' : eg_H) (l5 : Int32) (l6 : Int32) (l7 : Int32) (l8 : Int32) (l9 : Int32) hq => ih h' l5 l6 l7 l8 l9 eE hq hk0 hk1
    refine eg_iload (i := 9) 4 dX12_bold_63 rfl ?_
    refine eg_iconst (v := (3 : Int32)) dX12_bold_65 (by decide) ?_
    refine eg_ic_gt 131 dX12_bold_66 rfl (fun c1 => ?_) (fun c1 => ?_)
    · replace hF := eg_it c1 hF
      exact eg_sub [0, 3] [(5, .int l5), (8, .int l8)] rfl (hk0 l5 l8 h (Option.some.inj hF).symm)
    · replace hF := eg_if c1 hF
      refine eg_iconst (v := (1 : Int32)) dX12_bold_69 (by decide) ?_
      refine eg_istore (i := 10) [(10, .int (1 : Int32)), (5, .int l5), (6, .int l6), (7, .int l7), (8, .int l8), (9, .int l9)] dX12_bold_70 (Nat.le_of_ble_eq_true rfl) rfl ?_
      replace hF := eg_bind hF; obtain ⟨x3, e2, hF⟩ := hF
      refine eg_sub [1, 2, 3, 4, 5, 0] [(5, .int l5), (6, .int l6), (7, .int l7), (8, .int l8), (9, .int l9), (10, .int (1 : Int32))] rfl (fX12_bold_L72_ok eg_F h l5 l6 l7 l8 l9 (1 : Int32) x3 e2 ?_ ?_)
      · intro v4 v5 v6 v7 v8 h9 e10
        subst e10
        refine eg_iinc (i := 9) (v := (v8 + (1 : Int32))) 4 [(9, .int (v8 + (1 : Int32))), (5, .int v4), (6, .int v5), (7, .int v6), (8, .int v7)] dX12_bold_125 rfl rfl (Nat.le_of_ble_eq_true rfl) rfl ?_
        refine eg_goto 63 dX12_bold_128 rfl ?_
        exact eg_sub [1, 2, 3, 4, 0] [(5, .int v4), (6, .int v5), (7, .int v6), (8, .int v7), (9, .int (v8 + (1 : Int32)))] rfl (hrec h9 v4 v5 v6 v7 (v8 + (1 : Int32)) hF)
      · intro v11 v12 h13 e14
        subst e14
        exact (hk1 v11 v12 h13 (Option.some.inj hF).symm)
def fX12_bold (h : eg_H) (l0 : Nat) (l1 : Int32) (l2 : Int32) (l3 : Int32) (l4 : Int32) (l5 : Int32) : Option (Int32 × eg_H) :=
  if eg_isO h 12 l0 then (
    (fX12_areTwoPairs h l0 l1 l2 l3).bind fun ⟨v2, h1⟩ =>
    if v2 = 0 then
      (some ((-1 : Int32), h1))
    else
      if l4 < (1 : Int32) then
        (some ((-1 : Int32), h1))
      else
        if (9 : Int32) < l4 then
          (some ((-1 : Int32), h1))
        else
          if (-1 : Int32) ≤ l5 then
            ((fX12_boldest h1 l0 l1 (l3 / (10 : Int32)) l4).bind fun ⟨v9, h8⟩ =>
            (fX12_boldest h8 l0 l2 (l3 % (10 : Int32)) l4).bind fun ⟨v12, h11⟩ =>
            (fX12_bold_L63 eg_F h11 l5 v9 v12 (0 : Int32) (1 : Int32)).bind fun e =>
            match e with
            | .inl (v16, v17, h18) =>
              if v16 = (-1 : Int32) then
                (some (v17, h18))
              else
                some ((-1 : Int32), h18)
            | .inr (v21, v22, h23) =>
              some ((((10 : Int32) * v21) + v22), h23))
          else
            some ((-1 : Int32), h1)) else none
theorem fX12_bold_O {h : eg_H} {l0 : Nat} {l1 : Int32} {l2 : Int32} {l3 : Int32} {l4 : Int32} {l5 : Int32} {rE : Int32} {hE : eg_H} (hF : fX12_bold h l0 l1 l2 l3 l4 l5 = some (rE, hE)) : eg_isO h 12 l0 := (eg_ifn hF).1
set_option maxRecDepth 20000 in
theorem mX12_bold {h : eg_H} {l0 : Nat} {l1 : Int32} {l2 : Int32} {l3 : Int32} {l4 : Int32} {l5 : Int32} {rE : Int32} {hE : eg_H} (hF : fX12_bold h l0 l1 l2 l3 l4 l5 = some (rE, hE)) : eg_Met yX12_bold cX12_bold 11 (some .int) 8 [.ref l0, .int l1, .int l2, .int l3, .int l4, .int l5] h (some (.int rE)) hE := by
  refine eg_enter rfl (Nat.le_of_ble_eq_true rfl) ?_
  show eg_AW (RX12, cX12_bold, 11, 8, none, "bold", (some .int)) (eg_Zm (some (.int rE)) hE h) (eg_nc hE) (eg_ns hE) h 0 [(0, .ref l0), (1, .int l1), (2, .int l2), (3, .int l3), (4, .int l4), (5, .int l5)] [] h
  replace hF := (eg_ifn hF).2
  refine eg_aload_n (i := 0) 0 dX12_bold_0 rfl rfl ?_
  refine eg_iload_n (i := 1) 1 dX12_bold_1 rfl rfl ?_
  refine eg_iload_n (i := 2) 2 dX12_bold_2 rfl rfl ?_
  refine eg_iload_n (i := 3) 3 dX12_bold_3 rfl rfl ?_
  replace hF := eg_bind hF; obtain ⟨⟨v2, h1⟩, e3, hF⟩ := hF
  refine eg_callV (c := 12) (n := 3) [.int l1, .int l2, .int l3] dX12_bold_4 (mX12_areTwoPairs e3) rfl (fX12_areTwoPairs_O e3) (Nat.le_of_ble_eq_true rfl) rfl ew_1114 ew_1116 ew_36 ew_100 ew_1117 hy_X12_areTwoPairs rfl (Nat.le_of_ble_eq_true rfl) (Nat.le_of_ble_eq_true rfl) (Nat.le_of_ble_eq_true rfl) ?_
  refine eg_if_eq 29 dX12_bold_7 rfl (fun c4 => ?_) (fun c4 => ?_)
  · replace hF := eg_it c4 hF
    refine eg_iconst (v := (-1 : Int32)) dX12_bold_29 (by decide) ?_
    exact eg_iretE dX12_bold_30 hF
  · replace hF := eg_if c4 hF
    refine eg_iload (i := 4) 4 dX12_bold_10 rfl ?_
    refine eg_iconst (v := (1 : Int32)) dX12_bold_12 (by decide) ?_
    refine eg_ic_lt 29 dX12_bold_13 rfl (fun c5 => ?_) (fun c5 => ?_)
    · replace hF := eg_it c5 hF
      refine eg_iconst (v := (-1 : Int32)) dX12_bold_29 (by decide) ?_
      exact eg_iretE dX12_bold_30 hF
    · replace hF := eg_if c5 hF
      refine eg_iload (i := 4) 4 dX12_bold_16 rfl ?_
      refine eg_bipush (v := (9 : Int32)) dX12_bold_18 (by decide) ?_
      refine eg_ic_gt 29 dX12_bold_20 rfl (fun c6 => ?_) (fun c6 => ?_)
      · replace hF := eg_it c6 hF
        refine eg_iconst (v := (-1 : Int32)) dX12_bold_29 (by decide) ?_
        exact eg_iretE dX12_bold_30 hF
      · replace hF := eg_if c6 hF
        refine eg_iload (i := 5) 5 dX12_bold_23 rfl ?_
        refine eg_iconst (v := (-1 : Int32)) dX12_bold_25 (by decide) ?_
        refine eg_ic_ge 31 dX12_bold_26 rfl (fun c7 => ?_) (fun c7 => ?_)
        · replace hF := eg_it c7 hF
          refine eg_aload_n (i := 0) 0 dX12_bold_31 rfl rfl ?_
          refine eg_iload_n (i := 1) 1 dX12_bold_32 rfl rfl ?_
          refine eg_iload_n (i := 3) 3 dX12_bold_33 rfl rfl ?_
          refine eg_bipush (v := (10 : Int32)) dX12_bold_34 (by decide) ?_
          refine eg_idiv dX12_bold_36 (by decide) ?_
          refine eg_iload (i := 4) 4 dX12_bold_37 rfl ?_
          replace hF := eg_bind hF; obtain ⟨⟨v9, h8⟩, e10, hF⟩ := hF
          refine eg_callV (c := 12) (n := 3) [.int l1, .int (l3 / (10 : Int32)), .int l4] dX12_bold_39 (mX12_boldest e10) rfl (fX12_boldest_O e10) (Nat.le_of_ble_eq_true rfl) rfl ew_1118 ew_1120 ew_37 ew_100 ew_1121 hy_X12_boldest rfl (Nat.le_of_ble_eq_true rfl) (Nat.le_of_ble_eq_true rfl) (Nat.le_of_ble_eq_true rfl) ?_
          refine eg_istore (i := 6) [(6, .int v9), (0, .ref l0), (1, .int l1), (2, .int l2), (3, .int l3), (4, .int l4), (5, .int l5)] dX12_bold_42 (Nat.le_of_ble_eq_true rfl) rfl ?_
          refine eg_aload_n (i := 0) 1 dX12_bold_44 rfl rfl ?_
          refine eg_iload_n (i := 2) 3 dX12_bold_45 rfl rfl ?_
          refine eg_iload_n (i := 3) 4 dX12_bold_46 rfl rfl ?_
          refine eg_bipush (v := (10 : Int32)) dX12_bold_47 (by decide) ?_
          refine eg_irem dX12_bold_49 (by decide) ?_
          refine eg_iload (i := 4) 5 dX12_bold_50 rfl ?_
          replace hF := eg_bind hF; obtain ⟨⟨v12, h11⟩, e13, hF⟩ := hF
          refine eg_callV (c := 12) (n := 3) [.int l2, .int (l3 % (10 : Int32)), .int l4] dX12_bold_52 (mX12_boldest e13) rfl (fX12_boldest_O e13) (Nat.le_of_ble_eq_true rfl) rfl ew_1118 ew_1120 ew_37 ew_100 ew_1121 hy_X12_boldest rfl (Nat.le_of_ble_eq_true rfl) (Nat.le_of_ble_eq_true rfl) (Nat.le_of_ble_eq_true rfl) ?_
          refine eg_istore (i := 7) [(7, .int v12), (6, .int v9), (0, .ref l0), (1, .int l1), (2, .int l2), (3, .int l3), (4, .int l4), (5, .int l5)] dX12_bold_55 (Nat.le_of_ble_eq_true rfl) rfl ?_
          refine eg_iconst (v := (0 : Int32)) dX12_bold_57 (by decide) ?_
          refine eg_istore (i := 8) [(8, .int (0 : Int32)), (7, .int v12), (6, .int v9), (0, .ref l0), (1, .int l1), (2, .int l2), (3, .int l3), (4, .int l4), (5, .int l5)] dX12_bold_58 (Nat.le_of_ble_eq_true rfl) rfl ?_
          refine eg_iconst (v := (1 : Int32)) dX12_bold_60 (by decide) ?_
          refine eg_istore (i := 9) [(9, .int (1 : Int32)), (8, .int (0 : Int32)), (7, .int v12), (6, .int v9), (0, .ref l0), (1, .int l1), (2, .int l2), (3, .int l3), (4, .int l4), (5, .int l5)] dX12_bold_61 (Nat.le_of_ble_eq_true rfl) rfl ?_
          replace hF := eg_bind hF; obtain ⟨x15, e14, hF⟩ := hF
          refine eg_sub [9, 3, 2, 1, 0] [(5, .int l5), (6, .int v9), (7, .int v12), (8, .int (0 : Int32)), (9, .int (1 : Int32))] rfl (fX12_bold_L63_ok eg_F h11 l5 v9 v12 (0 : Int32) (1 : Int32) x15 e14 ?_ ?_)
          · intro v16 v17 h18 e20
            subst e20
            refine eg_iload (i := 5) 0 dX12_bold_131 rfl ?_
            refine eg_iconst (v := (-1 : Int32)) dX12_bold_133 (by decide) ?_
            refine eg_ic_ne 142 dX12_bold_134 rfl (fun c19 => ?_) (fun c19 => ?_)
            · replace hF := eg_it c19 hF
              refine eg_iload (i := 8) 1 dX12_bold_137 rfl ?_
              refine eg_goto 143 dX12_bold_139 rfl ?_
              exact eg_iretE dX12_bold_143 hF
            · replace hF := eg_if c19 hF
              refine eg_iconst (v := (-1 : Int32)) dX12_bold_142 (by decide) ?_
              exact eg_iretE dX12_bold_143 hF
          · intro v21 v22 h23 e24
            subst e24
            refine eg_bipush (v := (10 : Int32)) dX12_bold_107 (by decide) ?_
            refine eg_iload (i := 9) 0 dX12_bold_109 rfl ?_
            refine eg_imul dX12_bold_111 ?_
            refine eg_iload (i := 10) 1 dX12_bold_112 rfl ?_
            refine eg_iadd dX12_bold_114 ?_
            exact eg_iretE dX12_bold_115 hF
        · replace hF := eg_if c7 hF
          refine eg_iconst (v := (-1 : Int32)) dX12_bold_29 (by decide) ?_
          exact eg_iretE dX12_bold_30 hF
theorem dX12_duel_0 : decode cX12_duel 0 = .ok (.aload_n 0, 1) := by decide +kernel
theorem dX12_duel_1 : decode cX12_duel 1 = .ok (.iload_n 1, 1) := by decide +kernel
theorem dX12_duel_2 : decode cX12_duel 2 = .ok (.iload_n 2, 1) := by decide +kernel
theorem dX12_duel_3 : decode cX12_duel 3 = .ok (.iload_n 3, 1) := by decide +kernel
theorem dX12_duel_4 : decode cX12_duel 4 = .ok (.invokevirtual 382, 3) := by decide +kernel
theorem dX12_duel_7 : decode cX12_duel 7 = .ok (.ifCond .eq 11, 3) := by decide +kernel
theorem dX12_duel_10 : decode cX12_duel 10 = .ok (.iload 4, 2) := by decide +kernel
theorem dX12_duel_12 : decode cX12_duel 12 = .ok (.invokestatic 320, 3) := by decide +kernel
theorem dX12_duel_15 : decode cX12_duel 15 = .ok (.ifCond .ne 7, 3) := by decide +kernel
theorem dX12_duel_18 : decode cX12_duel 18 = .ok (.ldc2_w 314, 3) := by decide +kernel
theorem dX12_duel_21 : decode cX12_duel 21 = .ok (.lreturn, 1) := by decide +kernel
theorem dX12_duel_22 : decode cX12_duel 22 = .ok (.aload_n 0, 1) := by decide +kernel
theorem dX12_duel_23 : decode cX12_duel 23 = .ok (.iconst 0, 1) := by decide +kernel
theorem dX12_duel_24 : decode cX12_duel 24 = .ok (.iload_n 1, 1) := by decide +kernel
theorem dX12_duel_25 : decode cX12_duel 25 = .ok (.iload_n 3, 1) := by decide +kernel
theorem dX12_duel_26 : decode cX12_duel 26 = .ok (.bipush 10, 2) := by decide +kernel
theorem dX12_duel_28 : decode cX12_duel 28 = .ok (.idiv, 1) := by decide +kernel
theorem dX12_duel_29 : decode cX12_duel 29 = .ok (.bipush 10, 2) := by decide +kernel
theorem dX12_duel_31 : decode cX12_duel 31 = .ok (.imul, 1) := by decide +kernel
theorem dX12_duel_32 : decode cX12_duel 32 = .ok (.invokevirtual 304, 3) := by decide +kernel
theorem dX12_duel_35 : decode cX12_duel 35 = .ok (.astore 5, 2) := by decide +kernel
theorem dX12_duel_37 : decode cX12_duel 37 = .ok (.aload_n 0, 1) := by decide +kernel
theorem dX12_duel_38 : decode cX12_duel 38 = .ok (.iconst 1, 1) := by decide +kernel
theorem dX12_duel_39 : decode cX12_duel 39 = .ok (.iload_n 2, 1) := by decide +kernel
theorem dX12_duel_40 : decode cX12_duel 40 = .ok (.iload_n 3, 1) := by decide +kernel
theorem dX12_duel_41 : decode cX12_duel 41 = .ok (.bipush 10, 2) := by decide +kernel
theorem dX12_duel_43 : decode cX12_duel 43 = .ok (.irem, 1) := by decide +kernel
theorem dX12_duel_44 : decode cX12_duel 44 = .ok (.bipush 10, 2) := by decide +kernel
theorem dX12_duel_46 : decode cX12_duel 46 = .ok (.imul, 1) := by decide +kernel
theorem dX12_duel_47 : decode cX12_duel 47 = .ok (.invokevirtual 304, 3) := by decide +kernel
theorem dX12_duel_50 : decode cX12_duel 50 = .ok (.astore 6, 2) := by decide +kernel
theorem dX12_duel_52 : decode cX12_duel 52 = .ok (.lconst 0, 1) := by decide +kernel
theorem dX12_duel_53 : decode cX12_duel 53 = .ok (.lstore 7, 2) := by decide +kernel
theorem dX12_duel_55 : decode cX12_duel 55 = .ok (.iconst 0, 1) := by decide +kernel
theorem dX12_duel_56 : decode cX12_duel 56 = .ok (.istore 9, 2) := by decide +kernel
theorem dX12_duel_58 : decode cX12_duel 58 = .ok (.iload 9, 2) := by decide +kernel
theorem dX12_duel_60 : decode cX12_duel 60 = .ok (.bipush 60, 2) := by decide +kernel
theorem dX12_duel_62 : decode cX12_duel 62 = .ok (.if_icmp .gt 52, 3) := by decide +kernel
theorem dX12_duel_65 : decode cX12_duel 65 = .ok (.iload 4, 2) := by decide +kernel
theorem dX12_duel_67 : decode cX12_duel 67 = .ok (.ifCond .ne 13, 3) := by decide +kernel
theorem dX12_duel_70 : decode cX12_duel 70 = .ok (.aload 6, 2) := by decide +kernel
theorem dX12_duel_72 : decode cX12_duel 72 = .ok (.iload 9, 2) := by decide +kernel
theorem dX12_duel_74 : decode cX12_duel 74 = .ok (.invokevirtual 391, 3) := by decide +kernel
theorem dX12_duel_77 : decode cX12_duel 77 = .ok (.goto 10, 3) := by decide +kernel
theorem dX12_duel_80 : decode cX12_duel 80 = .ok (.aload 6, 2) := by decide +kernel
theorem dX12_duel_82 : decode cX12_duel 82 = .ok (.iload 9, 2) := by decide +kernel
theorem dX12_duel_84 : decode cX12_duel 84 = .ok (.invokevirtual 395, 3) := by decide +kernel
theorem dX12_duel_87 : decode cX12_duel 87 = .ok (.lstore 10, 2) := by decide +kernel
theorem dX12_duel_89 : decode cX12_duel 89 = .ok (.lload 7, 2) := by decide +kernel
theorem dX12_duel_91 : decode cX12_duel 91 = .ok (.aload 5, 2) := by decide +kernel
theorem dX12_duel_93 : decode cX12_duel 93 = .ok (.iload 9, 2) := by decide +kernel
theorem dX12_duel_95 : decode cX12_duel 95 = .ok (.invokevirtual 395, 3) := by decide +kernel
theorem dX12_duel_98 : decode cX12_duel 98 = .ok (.lload 10, 2) := by decide +kernel
theorem dX12_duel_100 : decode cX12_duel 100 = .ok (.lmul, 1) := by decide +kernel
theorem dX12_duel_101 : decode cX12_duel 101 = .ok (.ldc2_w 398, 3) := by decide +kernel
theorem dX12_duel_104 : decode cX12_duel 104 = .ok (.ldiv, 1) := by decide +kernel
theorem dX12_duel_105 : decode cX12_duel 105 = .ok (.ladd, 1) := by decide +kernel
theorem dX12_duel_106 : decode cX12_duel 106 = .ok (.lstore 7, 2) := by decide +kernel
theorem dX12_duel_108 : decode cX12_duel 108 = .ok (.iinc 9 1, 3) := by decide +kernel
theorem dX12_duel_111 : decode cX12_duel 111 = .ok (.goto (-53), 3) := by decide +kernel
theorem dX12_duel_114 : decode cX12_duel 114 = .ok (.lload 7, 2) := by decide +kernel
theorem dX12_duel_116 : decode cX12_duel 116 = .ok (.lreturn, 1) := by decide +kernel
def fX12_duel_j87 (rec : eg_H → Int32 → Nat → Nat → Int64 → Int32 → Option (Int64 × eg_H)) (h : eg_H) (l4 : Int32) (l5 : Nat) (l6 : Nat) (l7 : Int64) (l9 : Int32) (s0 : Int64) : Option (Int64 × eg_H) :=
  (fX2_just h l5 l9).bind fun ⟨v2, h1⟩ =>
  (some ((l7 + ((v2 * s0) / (1000000000 : Int64))))).bind fun v4 =>
  rec h1 l4 l5 l6 v4 (l9 + (1 : Int32))
set_option maxRecDepth 20000 in
theorem fX12_duel_j87_ok {rec : eg_H → Int32 → Nat → Nat → Int64 → Int32 → Option (Int64 × eg_H)} {h0 : eg_H} {Z : eg_C → State → Prop} {N S : Nat} (h : eg_H) (l4 : Int32) (l5 : Nat) (l6 : Nat) (l7 : Int64) (l9 : Int32) (s0 : Int64) (eE : Int64 × eg_H) (hF : fX12_duel_j87 rec h l4 l5 l6 l7 l9 s0 = some eE) (hrec : ∀ (h : eg_H) (l4 : Int32) (l5 : Nat) (l6 : Nat) (l7 : Int64) (l9 : Int32), rec h l4 l5 l6 l7 l9 = some eE → eg_AW (RX12, cX12_duel, 12, 8, none, "duel", (some .long)) Z N S h0 58 [(4, .int l4), (5, .ref l5), (6, .ref l6), (7, .long l7), (9, .int l9)] [] h) (hk0 : ∀ (l7 : Int64) (h : eg_H), eE = (l7, h) → eg_AW (RX12, cX12_duel, 12, 8, none, "duel", (some .long)) Z N S h0 114 [(7, .long l7)] [] h) : eg_AW (RX12, cX12_duel, 12, 8, none, "duel", (some .long)) Z N S h0 87 [(4, .int l4), (5, .ref l5), (6, .ref l6), (7, .long l7), (9, .int l9)] [.long s0] h := by
  refine eg_lstore (i := 10) [(10, .long s0), (4, .int l4), (5, .ref l5), (6, .ref l6), (7, .long l7), (9, .int l9)] dX12_duel_87 (Nat.le_of_ble_eq_true rfl) rfl ?_
  refine eg_lload (i := 7) 4 dX12_duel_89 rfl ?_
  refine eg_aload (i := 5) 2 dX12_duel_91 rfl ?_
  refine eg_iload (i := 9) 5 dX12_duel_93 rfl ?_
  replace hF := eg_bind hF; obtain ⟨⟨v2, h1⟩, e3, hF⟩ := hF
  refine eg_callV (c := 2) (n := 1) [.int l9] dX12_duel_95 (mX2_just e3) rfl (fX2_just_O e3) (Nat.le_of_ble_eq_true rfl) rfl ew_1131 ew_1132 ew_1133 ew_108 ew_1134 hy_X2_just rfl (Nat.le_of_ble_eq_true rfl) (Nat.le_of_ble_eq_true rfl) (Nat.le_of_ble_eq_true rfl) ?_
  refine eg_lload (i := 10) 0 dX12_duel_98 rfl ?_
  refine eg_lmul dX12_duel_100 ?_
  refine eg_ldc2 (v := (1000000000 : Int64)) dX12_duel_101 ew_1135 ?_
  refine eg_ldiv dX12_duel_104 (by decide) ?_
  refine eg_ladd dX12_duel_105 ?_
  replace hF := eg_bind hF; obtain ⟨v4, e5, hF⟩ := hF
  replace e5 := Option.some.inj e5
  rw [e5]
  refine eg_lstore (i := 7) [(7, .long v4), (10, .long s0), (4, .int l4), (5, .ref l5), (6, .ref l6), (9, .int l9)] dX12_duel_106 (Nat.le_of_ble_eq_true rfl) rfl ?_
  refine eg_iinc (i := 9) (v := (l9 + (1 : Int32))) 5 [(9, .int (l9 + (1 : Int32))), (7, .long v4), (10, .long s0), (4, .int l4), (5, .ref l5), (6, .ref l6)] dX12_duel_108 rfl rfl (Nat.le_of_ble_eq_true rfl) rfl ?_
  refine eg_goto 58 dX12_duel_111 rfl ?_
  exact eg_sub [3, 4, 5, 1, 0] [(4, .int l4), (5, .ref l5), (6, .ref l6), (7, .long v4), (9, .int (l9 + (1 : Int32)))] rfl (hrec h1 l4 l5 l6 v4 (l9 + (1 : Int32)) hF)
def fX12_duel_L58 : Nat → eg_H → Int32 → Nat → Nat → Int64 → Int32 → Option (Int64 × eg_H)
  | 0, _, _, _, _, _, _ => none
  | n + 1, h, l4, l5, l6, l7, l9 =>
    if (60 : Int32) < l9 then
      (some (l7, h))
    else
      if l4 = 0 then
        ((fX2_fewerThan h l6 l9).bind fun ⟨v4, h3⟩ =>
        fX12_duel_j87 (fX12_duel_L58 n) h3 l4 l5 l6 l7 l9 v4)
      else
        (fX2_just h l6 l9).bind fun ⟨v7, h6⟩ =>
        fX12_duel_j87 (fX12_duel_L58 n) h6 l4 l5 l6 l7 l9 v7
set_option maxRecDepth 20000 in
theorem fX12_duel_L58_ok {h0 : eg_H} {Z : eg_C → State → Prop} {N S : Nat} : ∀ (n : Nat) (h : eg_H) (l4 : Int32) (l5 : Nat) (l6 : Nat) (l7 : Int64) (l9 : Int32) (eE : Int64 × eg_H), fX12_duel_L58 n h l4 l5 l6 l7 l9 = some eE → (hk0 : ∀ (l7 : Int64) (h : eg_H), eE = (l7, h) → eg_AW (RX12, cX12_duel, 12, 8, none, "duel", (some .long)) Z N S h0 114 [(7, .long l7)] [] h) → eg_AW (RX12, cX12_duel, 12, 8, none, "duel", (some .long)) Z N S h0 58 [(4, .int l4), (5, .ref l5), (6, .ref l6), (7, .long l7), (9, .int l9)] [] h := by
  intro n
  induction n with
  | zero => intro h l4 l5 l6 l7 l9 eE hF; exact absurd hF (by intro q; cases q)
  | succ n ih =>
    intro h l4 l5 l6 l7 l9 eE hF hk0
    have hrec := fun (h' : eg_H) (l4 : Int32) (l5 : Nat) (l6 : Nat) (l7 : Int64) (l9 : Int32) hq => ih h' l4 l5 l6 l7 l9 eE hq hk0
    refine eg_iload (i := 9) 4 dX12_duel_58 rfl ?_
    refine eg_bipush (v := (60 : Int32)) dX12_duel_60 (by decide) ?_
    refine eg_ic_gt 114 dX12_duel_62 rfl (fun c1 => ?_) (fun c1 => ?_)
    · replace hF := eg_it c1 hF
      exact eg_sub [3] [(7, .long l7)] rfl (hk0 l7 h (Option.some.inj hF).symm)
    · replace hF := eg_if c1 hF
      refine eg_iload (i := 4) 0 dX12_duel_65 rfl ?_
      refine eg_if_ne 80 dX12_duel_67 rfl (fun c2 => ?_) (fun c2 => ?_)
      · replace hF := eg_it c2 hF
        refine eg_aload (i := 6) 2 dX12_duel_70 rfl ?_
        refine eg_iload (i := 9) 4 dX12_duel_72 rfl ?_
        replace hF := eg_bind hF; obtain ⟨⟨v4, h3⟩, e5, hF⟩ := hF
        refine eg_callV (c := 2) (n := 1) [.int l9] dX12_duel_74 (mX2_fewerThan e5) rfl (fX2_fewerThan_O e5) (Nat.le_of_ble_eq_true rfl) rfl ew_1127 ew_1128 ew_1129 ew_108 ew_1130 hy_X2_fewerThan rfl (Nat.le_of_ble_eq_true rfl) (Nat.le_of_ble_eq_true rfl) (Nat.le_of_ble_eq_true rfl) ?_
        refine eg_goto 87 dX12_duel_77 rfl ?_
        exact (fX12_duel_j87_ok h3 l4 l5 l6 l7 l9 v4 eE hF hrec hk0)
      · replace hF := eg_if c2 hF
        refine eg_aload (i := 6) 2 dX12_duel_80 rfl ?_
        refine eg_iload (i := 9) 4 dX12_duel_82 rfl ?_
        replace hF := eg_bind hF; obtain ⟨⟨v7, h6⟩, e8, hF⟩ := hF
        refine eg_callV (c := 2) (n := 1) [.int l9] dX12_duel_84 (mX2_just e8) rfl (fX2_just_O e8) (Nat.le_of_ble_eq_true rfl) rfl ew_1131 ew_1132 ew_1133 ew_108 ew_1134 hy_X2_just rfl (Nat.le_of_ble_eq_true rfl) (Nat.le_of_ble_eq_true rfl) (Nat.le_of_ble_eq_true rfl) ?_
        exact (fX12_duel_j87_ok h6 l4 l5 l6 l7 l9 v7 eE hF hrec hk0)
def fX12_duel (h : eg_H) (l0 : Nat) (l1 : Int32) (l2 : Int32) (l3 : Int32) (l4 : Int32) : Option (Int64 × eg_H) :=
  if eg_isO h 12 l0 then (
    (fX12_areTwoPairs h l0 l1 l2 l3).bind fun ⟨v2, h1⟩ =>
    if v2 = 0 then
      (some ((-1 : Int64), h1))
    else
      (fX12_isEither h1 l4).bind fun ⟨v6, h5⟩ =>
      if v6 = 0 then
        (some ((-1 : Int64), h5))
      else
        (fX12_goAlong h5 l0 (0 : Int32) l1 ((l3 / (10 : Int32)) * (10 : Int32))).bind fun ⟨p10, h9⟩ =>
        (fX12_goAlong h9 l0 (1 : Int32) l2 ((l3 % (10 : Int32)) * (10 : Int32))).bind fun ⟨p13, h12⟩ =>
        (fX12_duel_L58 eg_F h12 l4 p10 p13 (0 : Int64) (0 : Int32)).bind fun e =>
        match e with
        | (v17, h18) =>
          some (v17, h18)) else none
theorem fX12_duel_O {h : eg_H} {l0 : Nat} {l1 : Int32} {l2 : Int32} {l3 : Int32} {l4 : Int32} {rE : Int64} {hE : eg_H} (hF : fX12_duel h l0 l1 l2 l3 l4 = some (rE, hE)) : eg_isO h 12 l0 := (eg_ifn hF).1
set_option maxRecDepth 20000 in
theorem mX12_duel {h : eg_H} {l0 : Nat} {l1 : Int32} {l2 : Int32} {l3 : Int32} {l4 : Int32} {rE : Int64} {hE : eg_H} (hF : fX12_duel h l0 l1 l2 l3 l4 = some (rE, hE)) : eg_Met yX12_duel cX12_duel 12 (some .long) 8 [.ref l0, .int l1, .int l2, .int l3, .int l4] h (some (.long rE)) hE := by
  refine eg_enter rfl (Nat.le_of_ble_eq_true rfl) ?_
  show eg_AW (RX12, cX12_duel, 12, 8, none, "duel", (some .long)) (eg_Zm (some (.long rE)) hE h) (eg_nc hE) (eg_ns hE) h 0 [(0, .ref l0), (1, .int l1), (2, .int l2), (3, .int l3), (4, .int l4)] [] h
  replace hF := (eg_ifn hF).2
  refine eg_aload_n (i := 0) 0 dX12_duel_0 rfl rfl ?_
  refine eg_iload_n (i := 1) 1 dX12_duel_1 rfl rfl ?_
  refine eg_iload_n (i := 2) 2 dX12_duel_2 rfl rfl ?_
  refine eg_iload_n (i := 3) 3 dX12_duel_3 rfl rfl ?_
  replace hF := eg_bind hF; obtain ⟨⟨v2, h1⟩, e3, hF⟩ := hF
  refine eg_callV (c := 12) (n := 3) [.int l1, .int l2, .int l3] dX12_duel_4 (mX12_areTwoPairs e3) rfl (fX12_areTwoPairs_O e3) (Nat.le_of_ble_eq_true rfl) rfl ew_1114 ew_1116 ew_36 ew_100 ew_1117 hy_X12_areTwoPairs rfl (Nat.le_of_ble_eq_true rfl) (Nat.le_of_ble_eq_true rfl) (Nat.le_of_ble_eq_true rfl) ?_
  refine eg_if_eq 18 dX12_duel_7 rfl (fun c4 => ?_) (fun c4 => ?_)
  · replace hF := eg_it c4 hF
    refine eg_ldc2 (v := (-1 : Int64)) dX12_duel_18 ew_984 ?_
    exact eg_lretE dX12_duel_21 hF
  · replace hF := eg_if c4 hF
    refine eg_iload (i := 4) 4 dX12_duel_10 rfl ?_
    replace hF := eg_bind hF; obtain ⟨⟨v6, h5⟩, e7, hF⟩ := hF
    refine eg_callS (n := 1) [.int l4] dX12_duel_12 (mX12_isEither e7) rfl ew_993 ew_994 ew_100 ew_995 hy_X12_isEither.2 rfl (Nat.le_of_ble_eq_true rfl) (Nat.le_of_ble_eq_true rfl) (Nat.le_of_ble_eq_true rfl) ?_
    refine eg_if_ne 22 dX12_duel_15 rfl (fun c8 => ?_) (fun c8 => ?_)
    · replace hF := eg_it c8 hF
      refine eg_ldc2 (v := (-1 : Int64)) dX12_duel_18 ew_984 ?_
      exact eg_lretE dX12_duel_21 hF
    · replace hF := eg_if c8 hF
      refine eg_aload_n (i := 0) 0 dX12_duel_22 rfl rfl ?_
      refine eg_iconst (v := (0 : Int32)) dX12_duel_23 (by decide) ?_
      refine eg_iload_n (i := 1) 1 dX12_duel_24 rfl rfl ?_
      refine eg_iload_n (i := 3) 3 dX12_duel_25 rfl rfl ?_
      refine eg_bipush (v := (10 : Int32)) dX12_duel_26 (by decide) ?_
      refine eg_idiv dX12_duel_28 (by decide) ?_
      refine eg_bipush (v := (10 : Int32)) dX12_duel_29 (by decide) ?_
      refine eg_imul dX12_duel_31 ?_
      replace hF := eg_bind hF; obtain ⟨⟨p10, h9⟩, e11, hF⟩ := hF
      refine eg_callV (c := 12) (n := 3) [.int (0 : Int32), .int l1, .int ((l3 / (10 : Int32)) * (10 : Int32))] dX12_duel_32 (mX12_goAlong e11) rfl (fX12_goAlong_O e11) (Nat.le_of_ble_eq_true rfl) rfl ew_944 ew_946 ew_29 ew_100 ew_947 hy_X12_goAlong rfl (Nat.le_of_ble_eq_true rfl) (Nat.le_of_ble_eq_true rfl) (Nat.le_of_ble_eq_true rfl) ?_
      refine eg_astore (i := 5) [(5, .ref p10), (0, .ref l0), (1, .int l1), (2, .int l2), (3, .int l3), (4, .int l4)] dX12_duel_35 (Nat.le_of_ble_eq_true rfl) rfl ?_
      refine eg_aload_n (i := 0) 1 dX12_duel_37 rfl rfl ?_
      refine eg_iconst (v := (1 : Int32)) dX12_duel_38 (by decide) ?_
      refine eg_iload_n (i := 2) 3 dX12_duel_39 rfl rfl ?_
      refine eg_iload_n (i := 3) 4 dX12_duel_40 rfl rfl ?_
      refine eg_bipush (v := (10 : Int32)) dX12_duel_41 (by decide) ?_
      refine eg_irem dX12_duel_43 (by decide) ?_
      refine eg_bipush (v := (10 : Int32)) dX12_duel_44 (by decide) ?_
      refine eg_imul dX12_duel_46 ?_
      replace hF := eg_bind hF; obtain ⟨⟨p13, h12⟩, e14, hF⟩ := hF
      refine eg_callV (c := 12) (n := 3) [.int (1 : Int32), .int l2, .int ((l3 % (10 : Int32)) * (10 : Int32))] dX12_duel_47 (mX12_goAlong e14) rfl (fX12_goAlong_O e14) (Nat.le_of_ble_eq_true rfl) rfl ew_944 ew_946 ew_29 ew_100 ew_947 hy_X12_goAlong rfl (Nat.le_of_ble_eq_true rfl) (Nat.le_of_ble_eq_true rfl) (Nat.le_of_ble_eq_true rfl) ?_
      refine eg_astore (i := 6) [(6, .ref p13), (5, .ref p10), (0, .ref l0), (1, .int l1), (2, .int l2), (3, .int l3), (4, .int l4)] dX12_duel_50 (Nat.le_of_ble_eq_true rfl) rfl ?_
      refine eg_lconst (v := (0 : Int64)) dX12_duel_52 (by decide) ?_
      refine eg_lstore (i := 7) [(7, .long (0 : Int64)), (6, .ref p13), (5, .ref p10), (0, .ref l0), (1, .int l1), (2, .int l2), (3, .int l3), (4, .int l4)] dX12_duel_53 (Nat.le_of_ble_eq_true rfl) rfl ?_
      refine eg_iconst (v := (0 : Int32)) dX12_duel_55 (by decide) ?_
      refine eg_istore (i := 9) [(9, .int (0 : Int32)), (7, .long (0 : Int64)), (6, .ref p13), (5, .ref p10), (0, .ref l0), (1, .int l1), (2, .int l2), (3, .int l3), (4, .int l4)] dX12_duel_56 (Nat.le_of_ble_eq_true rfl) rfl ?_
      replace hF := eg_bind hF; obtain ⟨x16, e15, hF⟩ := hF
      refine eg_sub [8, 3, 2, 1, 0] [(4, .int l4), (5, .ref p10), (6, .ref p13), (7, .long (0 : Int64)), (9, .int (0 : Int32))] rfl (fX12_duel_L58_ok eg_F h12 l4 p10 p13 (0 : Int64) (0 : Int32) x16 e15 ?_)
      · intro v17 h18 e19
        subst e19
        refine eg_lload (i := 7) 0 dX12_duel_114 rfl ?_
        exact eg_lretE dX12_duel_116 hF
theorem dX12_isCaughtByDraw_0 : decode cX12_isCaughtByDraw 0 = .ok (.iload_n 3, 1) := by decide +kernel
theorem dX12_isCaughtByDraw_1 : decode cX12_isCaughtByDraw 1 = .ok (.iload_n 1, 1) := by decide +kernel
theorem dX12_isCaughtByDraw_2 : decode cX12_isCaughtByDraw 2 = .ok (.invokestatic 346, 3) := by decide +kernel
theorem dX12_isCaughtByDraw_5 : decode cX12_isCaughtByDraw 5 = .ok (.istore 5, 2) := by decide +kernel
theorem dX12_isCaughtByDraw_7 : decode cX12_isCaughtByDraw 7 = .ok (.iload_n 3, 1) := by decide +kernel
theorem dX12_isCaughtByDraw_8 : decode cX12_isCaughtByDraw 8 = .ok (.iload_n 2, 1) := by decide +kernel
theorem dX12_isCaughtByDraw_9 : decode cX12_isCaughtByDraw 9 = .ok (.invokestatic 349, 3) := by decide +kernel
theorem dX12_isCaughtByDraw_12 : decode cX12_isCaughtByDraw 12 = .ok (.istore 6, 2) := by decide +kernel
theorem dX12_isCaughtByDraw_14 : decode cX12_isCaughtByDraw 14 = .ok (.aload_n 0, 1) := by decide +kernel
theorem dX12_isCaughtByDraw_15 : decode cX12_isCaughtByDraw 15 = .ok (.getfield 101, 3) := by decide +kernel
theorem dX12_isCaughtByDraw_18 : decode cX12_isCaughtByDraw 18 = .ok (.iload 5, 2) := by decide +kernel
theorem dX12_isCaughtByDraw_20 : decode cX12_isCaughtByDraw 20 = .ok (.iload 6, 2) := by decide +kernel
theorem dX12_isCaughtByDraw_22 : decode cX12_isCaughtByDraw 22 = .ok (.iload 4, 2) := by decide +kernel
theorem dX12_isCaughtByDraw_24 : decode cX12_isCaughtByDraw 24 = .ok (.aload_n 0, 1) := by decide +kernel
theorem dX12_isCaughtByDraw_25 : decode cX12_isCaughtByDraw 25 = .ok (.getfield 35, 3) := by decide +kernel
theorem dX12_isCaughtByDraw_28 : decode cX12_isCaughtByDraw 28 = .ok (.iconst 0, 1) := by decide +kernel
theorem dX12_isCaughtByDraw_29 : decode cX12_isCaughtByDraw 29 = .ok (.invokevirtual 209, 3) := by decide +kernel
theorem dX12_isCaughtByDraw_32 : decode cX12_isCaughtByDraw 32 = .ok (.invokevirtual 250, 3) := by decide +kernel
theorem dX12_isCaughtByDraw_35 : decode cX12_isCaughtByDraw 35 = .ok (.istore 7, 2) := by decide +kernel
theorem dX12_isCaughtByDraw_37 : decode cX12_isCaughtByDraw 37 = .ok (.aload_n 0, 1) := by decide +kernel
theorem dX12_isCaughtByDraw_38 : decode cX12_isCaughtByDraw 38 = .ok (.getfield 92, 3) := by decide +kernel
theorem dX12_isCaughtByDraw_41 : decode cX12_isCaughtByDraw 41 = .ok (.iload 5, 2) := by decide +kernel
theorem dX12_isCaughtByDraw_43 : decode cX12_isCaughtByDraw 43 = .ok (.iload 6, 2) := by decide +kernel
theorem dX12_isCaughtByDraw_45 : decode cX12_isCaughtByDraw 45 = .ok (.aload_n 0, 1) := by decide +kernel
theorem dX12_isCaughtByDraw_46 : decode cX12_isCaughtByDraw 46 = .ok (.getfield 35, 3) := by decide +kernel
theorem dX12_isCaughtByDraw_49 : decode cX12_isCaughtByDraw 49 = .ok (.iconst 0, 1) := by decide +kernel
theorem dX12_isCaughtByDraw_50 : decode cX12_isCaughtByDraw 50 = .ok (.invokevirtual 209, 3) := by decide +kernel
theorem dX12_isCaughtByDraw_53 : decode cX12_isCaughtByDraw 53 = .ok (.invokevirtual 244, 3) := by decide +kernel
theorem dX12_isCaughtByDraw_56 : decode cX12_isCaughtByDraw 56 = .ok (.aload_n 0, 1) := by decide +kernel
theorem dX12_isCaughtByDraw_57 : decode cX12_isCaughtByDraw 57 = .ok (.getfield 92, 3) := by decide +kernel
theorem dX12_isCaughtByDraw_60 : decode cX12_isCaughtByDraw 60 = .ok (.iload 7, 2) := by decide +kernel
theorem dX12_isCaughtByDraw_62 : decode cX12_isCaughtByDraw 62 = .ok (.iload 4, 2) := by decide +kernel
theorem dX12_isCaughtByDraw_64 : decode cX12_isCaughtByDraw 64 = .ok (.invokevirtual 482, 3) := by decide +kernel
theorem dX12_isCaughtByDraw_67 : decode cX12_isCaughtByDraw 67 = .ok (.ireturn, 1) := by decide +kernel
def fX12_isCaughtByDraw (h : eg_H) (l0 : Nat) (l1 : Int32) (l2 : Int32) (l3 : Int32) (l4 : Int32) : Option (Int32 × eg_H) :=
  if eg_isO h 12 l0 then (
    (fX2_twoOf h l3 l1).bind fun ⟨v2, h1⟩ =>
    (fX2_eggEndOf h1 l3 l2).bind fun ⟨v5, h4⟩ =>
    (eg_gR h4 12 16 l0).bind fun p7 =>
    (eg_gR h4 12 3 l0).bind fun p9 =>
    (fX7_told h4 p9 (0 : Int32)).bind fun ⟨v12, h11⟩ =>
    (fX0_of h11 p7 v2 v5 l4 v12).bind fun ⟨v15, h14⟩ =>
    (eg_gR h14 12 15 l0).bind fun p17 =>
    (eg_gR h14 12 3 l0).bind fun p19 =>
    (fX7_told h14 p19 (0 : Int32)).bind fun ⟨v22, h21⟩ =>
    (fX11_take h21 p17 v2 v5 v22).bind fun h24 =>
    (eg_gR h24 12 15 l0).bind fun p26 =>
    (fX11_isCaughtByDraw h24 p26 v15 l4).bind fun ⟨v29, h28⟩ =>
    if v29 = 0 ∨ v29 = 1 then some (v29, h28) else none) else none
theorem fX12_isCaughtByDraw_O {h : eg_H} {l0 : Nat} {l1 : Int32} {l2 : Int32} {l3 : Int32} {l4 : Int32} {rE : Int32} {hE : eg_H} (hF : fX12_isCaughtByDraw h l0 l1 l2 l3 l4 = some (rE, hE)) : eg_isO h 12 l0 := (eg_ifn hF).1
set_option maxRecDepth 20000 in
theorem mX12_isCaughtByDraw {h : eg_H} {l0 : Nat} {l1 : Int32} {l2 : Int32} {l3 : Int32} {l4 : Int32} {rE : Int32} {hE : eg_H} (hF : fX12_isCaughtByDraw h l0 l1 l2 l3 l4 = some (rE, hE)) : eg_Met yX12_isCaughtByDraw cX12_isCaughtByDraw 8 (some .boolean) 6 [.ref l0, .int l1, .int l2, .int l3, .int l4] h (some (.int rE)) hE := by
  refine eg_enter rfl (Nat.le_of_ble_eq_true rfl) ?_
  show eg_AW (RX12, cX12_isCaughtByDraw, 8, 6, none, "isCaughtByDraw", (some .boolean)) (eg_Zm (some (.int rE)) hE h) (eg_nc hE) (eg_ns hE) h 0 [(0, .ref l0), (1, .int l1), (2, .int l2), (3, .int l3), (4, .int l4)] [] h
  replace hF := (eg_ifn hF).2
  refine eg_iload_n (i := 3) 3 dX12_isCaughtByDraw_0 rfl rfl ?_
  refine eg_iload_n (i := 1) 1 dX12_isCaughtByDraw_1 rfl rfl ?_
  replace hF := eg_bind hF; obtain ⟨⟨v2, h1⟩, e3, hF⟩ := hF
  refine eg_callS (n := 2) [.int l3, .int l1] dX12_isCaughtByDraw_2 (mX2_twoOf e3) rfl ew_1040 ew_960 ew_108 ew_961 hy_X2_twoOf.2 rfl (Nat.le_of_ble_eq_true rfl) (Nat.le_of_ble_eq_true rfl) (Nat.le_of_ble_eq_true rfl) ?_
  refine eg_istore (i := 5) [(5, .int v2), (0, .ref l0), (1, .int l1), (2, .int l2), (3, .int l3), (4, .int l4)] dX12_isCaughtByDraw_5 (Nat.le_of_ble_eq_true rfl) rfl ?_
  refine eg_iload_n (i := 3) 4 dX12_isCaughtByDraw_7 rfl rfl ?_
  refine eg_iload_n (i := 2) 3 dX12_isCaughtByDraw_8 rfl rfl ?_
  replace hF := eg_bind hF; obtain ⟨⟨v5, h4⟩, e6, hF⟩ := hF
  refine eg_callS (n := 2) [.int l3, .int l2] dX12_isCaughtByDraw_9 (mX2_eggEndOf e6) rfl ew_1041 ew_963 ew_108 ew_964 hy_X2_eggEndOf.2 rfl (Nat.le_of_ble_eq_true rfl) (Nat.le_of_ble_eq_true rfl) (Nat.le_of_ble_eq_true rfl) ?_
  refine eg_istore (i := 6) [(6, .int v5), (5, .int v2), (0, .ref l0), (1, .int l1), (2, .int l2), (3, .int l3), (4, .int l4)] dX12_isCaughtByDraw_12 (Nat.le_of_ble_eq_true rfl) rfl ?_
  refine eg_aload_n (i := 0) 2 dX12_isCaughtByDraw_14 rfl rfl ?_
  replace hF := eg_bind hF; obtain ⟨p7, e8, hF⟩ := hF
  refine eg_getR dX12_isCaughtByDraw_15 e8 (Nat.le_of_ble_eq_true rfl) (Nat.le_of_ble_eq_true rfl) rfl ew_372 ?_
  refine eg_iload (i := 5) 1 dX12_isCaughtByDraw_18 rfl ?_
  refine eg_iload (i := 6) 0 dX12_isCaughtByDraw_20 rfl ?_
  refine eg_iload (i := 4) 6 dX12_isCaughtByDraw_22 rfl ?_
  refine eg_aload_n (i := 0) 2 dX12_isCaughtByDraw_24 rfl rfl ?_
  replace hF := eg_bind hF; obtain ⟨p9, e10, hF⟩ := hF
  refine eg_getR dX12_isCaughtByDraw_25 e10 (Nat.le_of_ble_eq_true rfl) (Nat.le_of_ble_eq_true rfl) rfl ew_359 ?_
  refine eg_iconst (v := (0 : Int32)) dX12_isCaughtByDraw_28 (by decide) ?_
  replace hF := eg_bind hF; obtain ⟨⟨v12, h11⟩, e13, hF⟩ := hF
  refine eg_callV (c := 7) (n := 1) [.int (0 : Int32)] dX12_isCaughtByDraw_29 (mX7_told e13) rfl (fX7_told_O e13) (Nat.le_of_ble_eq_true rfl) rfl ew_717 ew_718 ew_719 ew_104 ew_720 hy_X7_told rfl (Nat.le_of_ble_eq_true rfl) (Nat.le_of_ble_eq_true rfl) (Nat.le_of_ble_eq_true rfl) ?_
  replace hF := eg_bind hF; obtain ⟨⟨v15, h14⟩, e16, hF⟩ := hF
  refine eg_callV (c := 0) (n := 4) [.int v2, .int v5, .int l4, .int v12] dX12_isCaughtByDraw_32 (mX0_of e16) rfl (fX0_of_O e16) (Nat.le_of_ble_eq_true rfl) rfl ew_834 ew_835 ew_836 ew_107 ew_837 hy_X0_of rfl (Nat.le_of_ble_eq_true rfl) (Nat.le_of_ble_eq_true rfl) (Nat.le_of_ble_eq_true rfl) ?_
  refine eg_istore (i := 7) [(7, .int v15), (6, .int v5), (5, .int v2), (0, .ref l0), (1, .int l1), (2, .int l2), (3, .int l3), (4, .int l4)] dX12_isCaughtByDraw_35 (Nat.le_of_ble_eq_true rfl) rfl ?_
  refine eg_aload_n (i := 0) 3 dX12_isCaughtByDraw_37 rfl rfl ?_
  replace hF := eg_bind hF; obtain ⟨p17, e18, hF⟩ := hF
  refine eg_getR dX12_isCaughtByDraw_38 e18 (Nat.le_of_ble_eq_true rfl) (Nat.le_of_ble_eq_true rfl) rfl ew_371 ?_
  refine eg_iload (i := 5) 2 dX12_isCaughtByDraw_41 rfl ?_
  refine eg_iload (i := 6) 1 dX12_isCaughtByDraw_43 rfl ?_
  refine eg_aload_n (i := 0) 3 dX12_isCaughtByDraw_45 rfl rfl ?_
  replace hF := eg_bind hF; obtain ⟨p19, e20, hF⟩ := hF
  refine eg_getR dX12_isCaughtByDraw_46 e20 (Nat.le_of_ble_eq_true rfl) (Nat.le_of_ble_eq_true rfl) rfl ew_359 ?_
  refine eg_iconst (v := (0 : Int32)) dX12_isCaughtByDraw_49 (by decide) ?_
  replace hF := eg_bind hF; obtain ⟨⟨v22, h21⟩, e23, hF⟩ := hF
  refine eg_callV (c := 7) (n := 1) [.int (0 : Int32)] dX12_isCaughtByDraw_50 (mX7_told e23) rfl (fX7_told_O e23) (Nat.le_of_ble_eq_true rfl) rfl ew_717 ew_718 ew_719 ew_104 ew_720 hy_X7_told rfl (Nat.le_of_ble_eq_true rfl) (Nat.le_of_ble_eq_true rfl) (Nat.le_of_ble_eq_true rfl) ?_
  replace hF := eg_bind hF; obtain ⟨h24, e25, hF⟩ := hF
  refine eg_callV (c := 11) (n := 3) [.int v2, .int v5, .int v22] dX12_isCaughtByDraw_53 (mX11_take e25) rfl (fX11_take_O e25) (Nat.le_of_ble_eq_true rfl) rfl ew_802 ew_803 ew_804 ew_106 ew_805 hy_X11_take rfl (Nat.le_of_ble_eq_true rfl) (Nat.le_of_ble_eq_true rfl) (Nat.le_of_ble_eq_true rfl) ?_
  refine eg_aload_n (i := 0) 3 dX12_isCaughtByDraw_56 rfl rfl ?_
  replace hF := eg_bind hF; obtain ⟨p26, e27, hF⟩ := hF
  refine eg_getR dX12_isCaughtByDraw_57 e27 (Nat.le_of_ble_eq_true rfl) (Nat.le_of_ble_eq_true rfl) rfl ew_371 ?_
  refine eg_iload (i := 7) 0 dX12_isCaughtByDraw_60 rfl ?_
  refine eg_iload (i := 4) 7 dX12_isCaughtByDraw_62 rfl ?_
  replace hF := eg_bind hF; obtain ⟨⟨v29, h28⟩, e30, hF⟩ := hF
  refine eg_callV (c := 11) (n := 2) [.int v15, .int l4] dX12_isCaughtByDraw_64 (mX11_isCaughtByDraw e30) rfl (fX11_isCaughtByDraw_O e30) (Nat.le_of_ble_eq_true rfl) rfl ew_1165 ew_1166 ew_1167 ew_106 ew_1168 hy_X11_isCaughtByDraw rfl (Nat.le_of_ble_eq_true rfl) (Nat.le_of_ble_eq_true rfl) (Nat.le_of_ble_eq_true rfl) ?_
  replace hF := eg_ifn hF; obtain ⟨c31, hF⟩ := hF
  exact eg_zretE dX12_isCaughtByDraw_67 c31 hF
theorem dX12_throwAll_0 : decode cX12_throwAll 0 = .ok (.iconst 0, 1) := by decide +kernel
theorem dX12_throwAll_1 : decode cX12_throwAll 1 = .ok (.istore 5, 2) := by decide +kernel
theorem dX12_throwAll_3 : decode cX12_throwAll 3 = .ok (.iconst 0, 1) := by decide +kernel
theorem dX12_throwAll_4 : decode cX12_throwAll 4 = .ok (.istore 6, 2) := by decide +kernel
theorem dX12_throwAll_6 : decode cX12_throwAll 6 = .ok (.iload 6, 2) := by decide +kernel
theorem dX12_throwAll_8 : decode cX12_throwAll 8 = .ok (.iload_n 2, 1) := by decide +kernel
theorem dX12_throwAll_9 : decode cX12_throwAll 9 = .ok (.if_icmp .ge 68, 3) := by decide +kernel
theorem dX12_throwAll_12 : decode cX12_throwAll 12 = .ok (.aload_n 0, 1) := by decide +kernel
theorem dX12_throwAll_13 : decode cX12_throwAll 13 = .ok (.getfield 115, 3) := by decide +kernel
theorem dX12_throwAll_16 : decode cX12_throwAll 16 = .ok (.iload 6, 2) := by decide +kernel
theorem dX12_throwAll_18 : decode cX12_throwAll 18 = .ok (.invokevirtual 418, 3) := by decide +kernel
theorem dX12_throwAll_21 : decode cX12_throwAll 21 = .ok (.istore 7, 2) := by decide +kernel
theorem dX12_throwAll_23 : decode cX12_throwAll 23 = .ok (.bipush 10, 2) := by decide +kernel
theorem dX12_throwAll_25 : decode cX12_throwAll 25 = .ok (.iload 6, 2) := by decide +kernel
theorem dX12_throwAll_27 : decode cX12_throwAll 27 = .ok (.aload_n 0, 1) := by decide +kernel
theorem dX12_throwAll_28 : decode cX12_throwAll 28 = .ok (.getfield 35, 3) := by decide +kernel
theorem dX12_throwAll_31 : decode cX12_throwAll 31 = .ok (.invokevirtual 287, 3) := by decide +kernel
theorem dX12_throwAll_34 : decode cX12_throwAll 34 = .ok (.irem, 1) := by decide +kernel
theorem dX12_throwAll_35 : decode cX12_throwAll 35 = .ok (.imul, 1) := by decide +kernel
theorem dX12_throwAll_36 : decode cX12_throwAll 36 = .ok (.istore 8, 2) := by decide +kernel
theorem dX12_throwAll_38 : decode cX12_throwAll 38 = .ok (.iload_n 1, 1) := by decide +kernel
theorem dX12_throwAll_39 : decode cX12_throwAll 39 = .ok (.iload 6, 2) := by decide +kernel
theorem dX12_throwAll_41 : decode cX12_throwAll 41 = .ok (.ishr, 1) := by decide +kernel
theorem dX12_throwAll_42 : decode cX12_throwAll 42 = .ok (.iconst 1, 1) := by decide +kernel
theorem dX12_throwAll_43 : decode cX12_throwAll 43 = .ok (.iand, 1) := by decide +kernel
theorem dX12_throwAll_44 : decode cX12_throwAll 44 = .ok (.iconst 1, 1) := by decide +kernel
theorem dX12_throwAll_45 : decode cX12_throwAll 45 = .ok (.if_icmp .ne 26, 3) := by decide +kernel
theorem dX12_throwAll_48 : decode cX12_throwAll 48 = .ok (.aload_n 0, 1) := by decide +kernel
theorem dX12_throwAll_49 : decode cX12_throwAll 49 = .ok (.iload 7, 2) := by decide +kernel
theorem dX12_throwAll_51 : decode cX12_throwAll 51 = .ok (.iload 8, 2) := by decide +kernel
theorem dX12_throwAll_53 : decode cX12_throwAll 53 = .ok (.iload_n 3, 1) := by decide +kernel
theorem dX12_throwAll_54 : decode cX12_throwAll 54 = .ok (.iload 4, 2) := by decide +kernel
theorem dX12_throwAll_56 : decode cX12_throwAll 56 = .ok (.invokevirtual 421, 3) := by decide +kernel
theorem dX12_throwAll_59 : decode cX12_throwAll 59 = .ok (.ifCond .eq 12, 3) := by decide +kernel
theorem dX12_throwAll_62 : decode cX12_throwAll 62 = .ok (.iload 5, 2) := by decide +kernel
theorem dX12_throwAll_64 : decode cX12_throwAll 64 = .ok (.iconst 1, 1) := by decide +kernel
theorem dX12_throwAll_65 : decode cX12_throwAll 65 = .ok (.iload 6, 2) := by decide +kernel
theorem dX12_throwAll_67 : decode cX12_throwAll 67 = .ok (.ishl, 1) := by decide +kernel
theorem dX12_throwAll_68 : decode cX12_throwAll 68 = .ok (.ior, 1) := by decide +kernel
theorem dX12_throwAll_69 : decode cX12_throwAll 69 = .ok (.istore 5, 2) := by decide +kernel
theorem dX12_throwAll_71 : decode cX12_throwAll 71 = .ok (.iinc 6 1, 3) := by decide +kernel
theorem dX12_throwAll_74 : decode cX12_throwAll 74 = .ok (.goto (-68), 3) := by decide +kernel
theorem dX12_throwAll_77 : decode cX12_throwAll 77 = .ok (.iload 5, 2) := by decide +kernel
theorem dX12_throwAll_79 : decode cX12_throwAll 79 = .ok (.ireturn, 1) := by decide +kernel
def fX12_throwAll_L6 : Nat → eg_H → Nat → Int32 → Int32 → Int32 → Int32 → Int32 → Int32 → Option (Int32 × eg_H)
  | 0, _, _, _, _, _, _, _, _ => none
  | n + 1, h, l0, l1, l2, l3, l4, l5, l6 =>
    if l2 ≤ l6 then
      (some (l5, h))
    else
      (eg_gR h 12 18 l0).bind fun p2 =>
      (fX9_pairOf h p2 l6).bind fun ⟨v5, h4⟩ =>
      (eg_gR h4 12 3 l0).bind fun p7 =>
      (fX7_eggs h4 p7).bind fun ⟨v10, h9⟩ =>
      if v10 = 0 then none else
      (some (((10 : Int32) * (l6 % v10)))).bind fun v13 =>
      if ((l1 >>> (l6 &&& 31)) &&& (1 : Int32)) = (1 : Int32) then
        ((fX12_isCaughtByDraw h9 l0 v5 v13 l3 l4).bind fun ⟨v17, h16⟩ =>
        if v17 = 0 then
          (fX12_throwAll_L6 n h16 l0 l1 l2 l3 l4 l5 (l6 + (1 : Int32)))
        else
          (some ((l5 ||| ((1 : Int32) <<< (l6 &&& 31))))).bind fun v20 =>
          fX12_throwAll_L6 n h16 l0 l1 l2 l3 l4 v20 (l6 + (1 : Int32)))
      else
        fX12_throwAll_L6 n h9 l0 l1 l2 l3 l4 l5 (l6 + (1 : Int32))
set_option maxRecDepth 20000 in
theorem fX12_throwAll_L6_ok {h0 : eg_H} {Z : eg_C → State → Prop} {N S : Nat} : ∀ (n : Nat) (h : eg_H) (l0 : Nat) (l1 : Int32) (l2 : Int32) (l3 : Int32) (l4 : Int32) (l5 : Int32) (l6 : Int32) (eE : Int32 × eg_H), fX12_throwAll_L6 n h l0 l1 l2 l3 l4 l5 l6 = some eE → (hk0 : ∀ (l5 : Int32) (h : eg_H), eE = (l5, h) → eg_AW (RX12, cX12_throwAll, 9, 7, none, "throwAll", (some .int)) Z N S h0 77 [(5, .int l5)] [] h) → eg_AW (RX12, cX12_throwAll, 9, 7, none, "throwAll", (some .int)) Z N S h0 6 [(0, .ref l0), (1, .int l1), (2, .int l2), (3, .int l3), (4, .int l4), (5, .int l5), (6, .int l6)] [] h := by
  intro n
  induction n with
  | zero => intro h l0 l1 l2 l3 l4 l5 l6 eE hF; exact absurd hF (by intro q; cases q)
  | succ n ih =>
    intro h l0 l1 l2 l3 l4 l5 l6 eE hF hk0
    have hrec := fun (h' : eg_H) (l0 : Nat) (l1 : Int32) (l2 : Int32) (l3 : Int32) (l4 : Int32) (l5 : Int32) (l6 : Int32) hq => ih h' l0 l1 l2 l3 l4 l5 l6 eE hq hk0
    refine eg_iload (i := 6) 6 dX12_throwAll_6 rfl ?_
    refine eg_iload_n (i := 2) 2 dX12_throwAll_8 rfl rfl ?_
    refine eg_ic_ge 77 dX12_throwAll_9 rfl (fun c1 => ?_) (fun c1 => ?_)
    · replace hF := eg_it c1 hF
      exact eg_sub [5] [(5, .int l5)] rfl (hk0 l5 h (Option.some.inj hF).symm)
    · replace hF := eg_if c1 hF
      refine eg_aload_n (i := 0) 0 dX12_throwAll_12 rfl rfl ?_
      replace hF := eg_bind hF; obtain ⟨p2, e3, hF⟩ := hF
      refine eg_getR dX12_throwAll_13 e3 (Nat.le_of_ble_eq_true rfl) (Nat.le_of_ble_eq_true rfl) rfl ew_374 ?_
      refine eg_iload (i := 6) 6 dX12_throwAll_16 rfl ?_
      replace hF := eg_bind hF; obtain ⟨⟨v5, h4⟩, e6, hF⟩ := hF
      refine eg_callV (c := 9) (n := 1) [.int l6] dX12_throwAll_18 (mX9_pairOf e6) rfl (fX9_pairOf_O e6) (Nat.le_of_ble_eq_true rfl) rfl ew_1157 ew_1158 ew_1159 ew_109 ew_1160 hy_X9_pairOf rfl (Nat.le_of_ble_eq_true rfl) (Nat.le_of_ble_eq_true rfl) (Nat.le_of_ble_eq_true rfl) ?_
      refine eg_istore (i := 7) [(7, .int v5), (0, .ref l0), (1, .int l1), (2, .int l2), (3, .int l3), (4, .int l4), (5, .int l5), (6, .int l6)] dX12_throwAll_21 (Nat.le_of_ble_eq_true rfl) rfl ?_
      refine eg_bipush (v := (10 : Int32)) dX12_throwAll_23 (by decide) ?_
      refine eg_iload (i := 6) 7 dX12_throwAll_25 rfl ?_
      refine eg_aload_n (i := 0) 1 dX12_throwAll_27 rfl rfl ?_
      replace hF := eg_bind hF; obtain ⟨p7, e8, hF⟩ := hF
      refine eg_getR dX12_throwAll_28 e8 (Nat.le_of_ble_eq_true rfl) (Nat.le_of_ble_eq_true rfl) rfl ew_359 ?_
      replace hF := eg_bind hF; obtain ⟨⟨v10, h9⟩, e11, hF⟩ := hF
      refine eg_callV (c := 7) (n := 0) [] dX12_throwAll_31 (mX7_eggs e11) rfl (fX7_eggs_O e11) (Nat.le_of_ble_eq_true rfl) rfl ew_922 ew_923 ew_924 ew_104 ew_925 hy_X7_eggs rfl (Nat.le_of_ble_eq_true rfl) (Nat.le_of_ble_eq_true rfl) (Nat.le_of_ble_eq_true rfl) ?_
      replace hF := eg_nif hF; obtain ⟨c12, hF⟩ := hF
      refine eg_irem dX12_throwAll_34 c12 ?_
      refine eg_imul dX12_throwAll_35 ?_
      replace hF := eg_bind hF; obtain ⟨v13, e14, hF⟩ := hF
      replace e14 := Option.some.inj e14
      rw [e14]
      refine eg_istore (i := 8) [(8, .int v13), (7, .int v5), (0, .ref l0), (1, .int l1), (2, .int l2), (3, .int l3), (4, .int l4), (5, .int l5), (6, .int l6)] dX12_throwAll_36 (Nat.le_of_ble_eq_true rfl) rfl ?_
      refine eg_iload_n (i := 1) 3 dX12_throwAll_38 rfl rfl ?_
      refine eg_iload (i := 6) 8 dX12_throwAll_39 rfl ?_
      refine eg_ishr dX12_throwAll_41 ?_
      refine eg_iconst (v := (1 : Int32)) dX12_throwAll_42 (by decide) ?_
      refine eg_iand dX12_throwAll_43 ?_
      refine eg_iconst (v := (1 : Int32)) dX12_throwAll_44 (by decide) ?_
      refine eg_ic_ne 71 dX12_throwAll_45 rfl (fun c15 => ?_) (fun c15 => ?_)
      · replace hF := eg_it c15 hF
        refine eg_aload_n (i := 0) 2 dX12_throwAll_48 rfl rfl ?_
        refine eg_iload (i := 7) 1 dX12_throwAll_49 rfl ?_
        refine eg_iload (i := 8) 0 dX12_throwAll_51 rfl ?_
        refine eg_iload_n (i := 3) 5 dX12_throwAll_53 rfl rfl ?_
        refine eg_iload (i := 4) 6 dX12_throwAll_54 rfl ?_
        replace hF := eg_bind hF; obtain ⟨⟨v17, h16⟩, e18, hF⟩ := hF
        refine eg_callV (c := 12) (n := 4) [.int v5, .int v13, .int l3, .int l4] dX12_throwAll_56 (mX12_isCaughtByDraw e18) rfl (fX12_isCaughtByDraw_O e18) (Nat.le_of_ble_eq_true rfl) rfl ew_1161 ew_1163 ew_40 ew_100 ew_1164 hy_X12_isCaughtByDraw rfl (Nat.le_of_ble_eq_true rfl) (Nat.le_of_ble_eq_true rfl) (Nat.le_of_ble_eq_true rfl) ?_
        refine eg_if_eq 71 dX12_throwAll_59 rfl (fun c19 => ?_) (fun c19 => ?_)
        · replace hF := eg_it c19 hF
          refine eg_iinc (i := 6) (v := (l6 + (1 : Int32))) 8 [(6, .int (l6 + (1 : Int32))), (8, .int v13), (7, .int v5), (0, .ref l0), (1, .int l1), (2, .int l2), (3, .int l3), (4, .int l4), (5, .int l5)] dX12_throwAll_71 rfl rfl (Nat.le_of_ble_eq_true rfl) rfl ?_
          refine eg_goto 6 dX12_throwAll_74 rfl ?_
          exact eg_sub [3, 4, 5, 6, 7, 8, 0] [(0, .ref l0), (1, .int l1), (2, .int l2), (3, .int l3), (4, .int l4), (5, .int l5), (6, .int (l6 + (1 : Int32)))] rfl (hrec h16 l0 l1 l2 l3 l4 l5 (l6 + (1 : Int32)) hF)
        · replace hF := eg_if c19 hF
          refine eg_iload (i := 5) 7 dX12_throwAll_62 rfl ?_
          refine eg_iconst (v := (1 : Int32)) dX12_throwAll_64 (by decide) ?_
          refine eg_iload (i := 6) 8 dX12_throwAll_65 rfl ?_
          refine eg_ishl dX12_throwAll_67 ?_
          refine eg_ior dX12_throwAll_68 ?_
          replace hF := eg_bind hF; obtain ⟨v20, e21, hF⟩ := hF
          replace e21 := Option.some.inj e21
          rw [e21]
          refine eg_istore (i := 5) [(5, .int v20), (8, .int v13), (7, .int v5), (0, .ref l0), (1, .int l1), (2, .int l2), (3, .int l3), (4, .int l4), (6, .int l6)] dX12_throwAll_69 (Nat.le_of_ble_eq_true rfl) rfl ?_
          refine eg_iinc (i := 6) (v := (l6 + (1 : Int32))) 8 [(6, .int (l6 + (1 : Int32))), (5, .int v20), (8, .int v13), (7, .int v5), (0, .ref l0), (1, .int l1), (2, .int l2), (3, .int l3), (4, .int l4)] dX12_throwAll_71 rfl rfl (Nat.le_of_ble_eq_true rfl) rfl ?_
          refine eg_goto 6 dX12_throwAll_74 rfl ?_
          exact eg_sub [4, 5, 6, 7, 8, 1, 0] [(0, .ref l0), (1, .int l1), (2, .int l2), (3, .int l3), (4, .int l4), (5, .int v20), (6, .int (l6 + (1 : Int32)))] rfl (hrec h16 l0 l1 l2 l3 l4 v20 (l6 + (1 : Int32)) hF)
      · replace hF := eg_if c15 hF
        refine eg_iinc (i := 6) (v := (l6 + (1 : Int32))) 8 [(6, .int (l6 + (1 : Int32))), (8, .int v13), (7, .int v5), (0, .ref l0), (1, .int l1), (2, .int l2), (3, .int l3), (4, .int l4), (5, .int l5)] dX12_throwAll_71 rfl rfl (Nat.le_of_ble_eq_true rfl) rfl ?_
        refine eg_goto 6 dX12_throwAll_74 rfl ?_
        exact eg_sub [3, 4, 5, 6, 7, 8, 0] [(0, .ref l0), (1, .int l1), (2, .int l2), (3, .int l3), (4, .int l4), (5, .int l5), (6, .int (l6 + (1 : Int32)))] rfl (hrec h9 l0 l1 l2 l3 l4 l5 (l6 + (1 : Int32)) hF)
def fX12_throwAll (h : eg_H) (l0 : Nat) (l1 : Int32) (l2 : Int32) (l3 : Int32) (l4 : Int32) : Option (Int32 × eg_H) :=
  if eg_isO h 12 l0 then (
    (fX12_throwAll_L6 eg_F h l0 l1 l2 l3 l4 (0 : Int32) (0 : Int32)).bind fun e =>
    match e with
    | (v3, h4) =>
      some (v3, h4)) else none
theorem fX12_throwAll_O {h : eg_H} {l0 : Nat} {l1 : Int32} {l2 : Int32} {l3 : Int32} {l4 : Int32} {rE : Int32} {hE : eg_H} (hF : fX12_throwAll h l0 l1 l2 l3 l4 = some (rE, hE)) : eg_isO h 12 l0 := (eg_ifn hF).1
set_option maxRecDepth 20000 in
theorem mX12_throwAll {h : eg_H} {l0 : Nat} {l1 : Int32} {l2 : Int32} {l3 : Int32} {l4 : Int32} {rE : Int32} {hE : eg_H} (hF : fX12_throwAll h l0 l1 l2 l3 l4 = some (rE, hE)) : eg_Met yX12_throwAll cX12_throwAll 9 (some .int) 7 [.ref l0, .int l1, .int l2, .int l3, .int l4] h (some (.int rE)) hE := by
  refine eg_enter rfl (Nat.le_of_ble_eq_true rfl) ?_
  show eg_AW (RX12, cX12_throwAll, 9, 7, none, "throwAll", (some .int)) (eg_Zm (some (.int rE)) hE h) (eg_nc hE) (eg_ns hE) h 0 [(0, .ref l0), (1, .int l1), (2, .int l2), (3, .int l3), (4, .int l4)] [] h
  replace hF := (eg_ifn hF).2
  refine eg_iconst (v := (0 : Int32)) dX12_throwAll_0 (by decide) ?_
  refine eg_istore (i := 5) [(5, .int (0 : Int32)), (0, .ref l0), (1, .int l1), (2, .int l2), (3, .int l3), (4, .int l4)] dX12_throwAll_1 (Nat.le_of_ble_eq_true rfl) rfl ?_
  refine eg_iconst (v := (0 : Int32)) dX12_throwAll_3 (by decide) ?_
  refine eg_istore (i := 6) [(6, .int (0 : Int32)), (5, .int (0 : Int32)), (0, .ref l0), (1, .int l1), (2, .int l2), (3, .int l3), (4, .int l4)] dX12_throwAll_4 (Nat.le_of_ble_eq_true rfl) rfl ?_
  replace hF := eg_bind hF; obtain ⟨x2, e1, hF⟩ := hF
  refine eg_sub [2, 3, 4, 5, 6, 1, 0] [(0, .ref l0), (1, .int l1), (2, .int l2), (3, .int l3), (4, .int l4), (5, .int (0 : Int32)), (6, .int (0 : Int32))] rfl (fX12_throwAll_L6_ok eg_F h l0 l1 l2 l3 l4 (0 : Int32) (0 : Int32) x2 e1 ?_)
  · intro v3 h4 e5
    subst e5
    refine eg_iload (i := 5) 0 dX12_throwAll_77 rfl ?_
    exact eg_iretE dX12_throwAll_79 hF
theorem dX12_fete_0 : decode cX12_fete 0 = .ok (.aload_n 0, 1) := by decide +kernel
theorem dX12_fete_1 : decode cX12_fete 1 = .ok (.getfield 115, 3) := by decide +kernel
theorem dX12_fete_4 : decode cX12_fete 4 = .ok (.iload_n 1, 1) := by decide +kernel
theorem dX12_fete_5 : decode cX12_fete 5 = .ok (.aload_n 0, 1) := by decide +kernel
theorem dX12_fete_6 : decode cX12_fete 6 = .ok (.getfield 35, 3) := by decide +kernel
theorem dX12_fete_9 : decode cX12_fete 9 = .ok (.invokevirtual 159, 3) := by decide +kernel
theorem dX12_fete_12 : decode cX12_fete 12 = .ok (.invokevirtual 400, 3) := by decide +kernel
theorem dX12_fete_15 : decode cX12_fete 15 = .ok (.istore 5, 2) := by decide +kernel
theorem dX12_fete_17 : decode cX12_fete 17 = .ok (.iload 5, 2) := by decide +kernel
theorem dX12_fete_19 : decode cX12_fete 19 = .ok (.ifCond .eq 21, 3) := by decide +kernel
theorem dX12_fete_22 : decode cX12_fete 22 = .ok (.aload_n 0, 1) := by decide +kernel
theorem dX12_fete_23 : decode cX12_fete 23 = .ok (.getfield 35, 3) := by decide +kernel
theorem dX12_fete_26 : decode cX12_fete 26 = .ok (.invokevirtual 287, 3) := by decide +kernel
theorem dX12_fete_29 : decode cX12_fete 29 = .ok (.ifCond .le 11, 3) := by decide +kernel
theorem dX12_fete_32 : decode cX12_fete 32 = .ok (.iload 4, 2) := by decide +kernel
theorem dX12_fete_34 : decode cX12_fete 34 = .ok (.invokestatic 320, 3) := by decide +kernel
theorem dX12_fete_37 : decode cX12_fete 37 = .ok (.ifCond .ne 5, 3) := by decide +kernel
theorem dX12_fete_40 : decode cX12_fete 40 = .ok (.iconst (-1), 1) := by decide +kernel
theorem dX12_fete_41 : decode cX12_fete 41 = .ok (.ireturn, 1) := by decide +kernel
theorem dX12_fete_42 : decode cX12_fete 42 = .ok (.aload_n 0, 1) := by decide +kernel
theorem dX12_fete_43 : decode cX12_fete 43 = .ok (.getfield 92, 3) := by decide +kernel
theorem dX12_fete_46 : decode cX12_fete 46 = .ok (.lload_n 2, 1) := by decide +kernel
theorem dX12_fete_47 : decode cX12_fete 47 = .ok (.invokevirtual 403, 3) := by decide +kernel
theorem dX12_fete_50 : decode cX12_fete 50 = .ok (.iconst 1, 1) := by decide +kernel
theorem dX12_fete_51 : decode cX12_fete 51 = .ok (.iload 5, 2) := by decide +kernel
theorem dX12_fete_53 : decode cX12_fete 53 = .ok (.ishl, 1) := by decide +kernel
theorem dX12_fete_54 : decode cX12_fete 54 = .ok (.iconst 1, 1) := by decide +kernel
theorem dX12_fete_55 : decode cX12_fete 55 = .ok (.isub, 1) := by decide +kernel
theorem dX12_fete_56 : decode cX12_fete 56 = .ok (.istore 6, 2) := by decide +kernel
theorem dX12_fete_58 : decode cX12_fete 58 = .ok (.iload 6, 2) := by decide +kernel
theorem dX12_fete_60 : decode cX12_fete 60 = .ok (.istore 7, 2) := by decide +kernel
theorem dX12_fete_62 : decode cX12_fete 62 = .ok (.iconst 0, 1) := by decide +kernel
theorem dX12_fete_63 : decode cX12_fete 63 = .ok (.istore 8, 2) := by decide +kernel
theorem dX12_fete_65 : decode cX12_fete 65 = .ok (.iconst 1, 1) := by decide +kernel
theorem dX12_fete_66 : decode cX12_fete 66 = .ok (.istore 9, 2) := by decide +kernel
theorem dX12_fete_68 : decode cX12_fete 68 = .ok (.iload 9, 2) := by decide +kernel
theorem dX12_fete_70 : decode cX12_fete 70 = .ok (.bipush 60, 2) := by decide +kernel
theorem dX12_fete_72 : decode cX12_fete 72 = .ok (.if_icmp .gt 69, 3) := by decide +kernel
theorem dX12_fete_75 : decode cX12_fete 75 = .ok (.iload 6, 2) := by decide +kernel
theorem dX12_fete_77 : decode cX12_fete 77 = .ok (.invokestatic 407, 3) := by decide +kernel
theorem dX12_fete_80 : decode cX12_fete 80 = .ok (.iconst 1, 1) := by decide +kernel
theorem dX12_fete_81 : decode cX12_fete 81 = .ok (.if_icmp .le 60, 3) := by decide +kernel
theorem dX12_fete_84 : decode cX12_fete 84 = .ok (.aload_n 0, 1) := by decide +kernel
theorem dX12_fete_85 : decode cX12_fete 85 = .ok (.getfield 35, 3) := by decide +kernel
theorem dX12_fete_88 : decode cX12_fete 88 = .ok (.iload 9, 2) := by decide +kernel
theorem dX12_fete_90 : decode cX12_fete 90 = .ok (.aload_n 0, 1) := by decide +kernel
theorem dX12_fete_91 : decode cX12_fete 91 = .ok (.getfield 35, 3) := by decide +kernel
theorem dX12_fete_94 : decode cX12_fete 94 = .ok (.iconst 2, 1) := by decide +kernel
theorem dX12_fete_95 : decode cX12_fete 95 = .ok (.invokevirtual 209, 3) := by decide +kernel
theorem dX12_fete_98 : decode cX12_fete 98 = .ok (.invokevirtual 343, 3) := by decide +kernel
theorem dX12_fete_101 : decode cX12_fete 101 = .ok (.istore 10, 2) := by decide +kernel
theorem dX12_fete_103 : decode cX12_fete 103 = .ok (.iload 10, 2) := by decide +kernel
theorem dX12_fete_105 : decode cX12_fete 105 = .ok (.bipush 60, 2) := by decide +kernel
theorem dX12_fete_107 : decode cX12_fete 107 = .ok (.if_icmp .le 6, 3) := by decide +kernel
theorem dX12_fete_110 : decode cX12_fete 110 = .ok (.goto 31, 3) := by decide +kernel
theorem dX12_fete_113 : decode cX12_fete 113 = .ok (.iload 6, 2) := by decide +kernel
theorem dX12_fete_115 : decode cX12_fete 115 = .ok (.istore 7, 2) := by decide +kernel
theorem dX12_fete_117 : decode cX12_fete 117 = .ok (.aload_n 0, 1) := by decide +kernel
theorem dX12_fete_118 : decode cX12_fete 118 = .ok (.iload 6, 2) := by decide +kernel
theorem dX12_fete_120 : decode cX12_fete 120 = .ok (.iload 5, 2) := by decide +kernel
theorem dX12_fete_122 : decode cX12_fete 122 = .ok (.iload 9, 2) := by decide +kernel
theorem dX12_fete_124 : decode cX12_fete 124 = .ok (.iload 10, 2) := by decide +kernel
theorem dX12_fete_126 : decode cX12_fete 126 = .ok (.invokevirtual 412, 3) := by decide +kernel
theorem dX12_fete_129 : decode cX12_fete 129 = .ok (.istore 6, 2) := by decide +kernel
theorem dX12_fete_131 : decode cX12_fete 131 = .ok (.iload 9, 2) := by decide +kernel
theorem dX12_fete_133 : decode cX12_fete 133 = .ok (.istore 8, 2) := by decide +kernel
theorem dX12_fete_135 : decode cX12_fete 135 = .ok (.iinc 9 1, 3) := by decide +kernel
theorem dX12_fete_138 : decode cX12_fete 138 = .ok (.goto (-70), 3) := by decide +kernel
theorem dX12_fete_141 : decode cX12_fete 141 = .ok (.iload 4, 2) := by decide +kernel
theorem dX12_fete_143 : decode cX12_fete 143 = .ok (.iconst 1, 1) := by decide +kernel
theorem dX12_fete_144 : decode cX12_fete 144 = .ok (.if_icmp .ne 8, 3) := by decide +kernel
theorem dX12_fete_147 : decode cX12_fete 147 = .ok (.iload 8, 2) := by decide +kernel
theorem dX12_fete_149 : decode cX12_fete 149 = .ok (.goto 22, 3) := by decide +kernel
theorem dX12_fete_152 : decode cX12_fete 152 = .ok (.aload_n 0, 1) := by decide +kernel
theorem dX12_fete_153 : decode cX12_fete 153 = .ok (.getfield 115, 3) := by decide +kernel
theorem dX12_fete_156 : decode cX12_fete 156 = .ok (.iload 6, 2) := by decide +kernel
theorem dX12_fete_158 : decode cX12_fete 158 = .ok (.ifCond .eq 8, 3) := by decide +kernel
theorem dX12_fete_161 : decode cX12_fete 161 = .ok (.iload 6, 2) := by decide +kernel
theorem dX12_fete_163 : decode cX12_fete 163 = .ok (.goto 5, 3) := by decide +kernel
theorem dX12_fete_166 : decode cX12_fete 166 = .ok (.iload 7, 2) := by decide +kernel
theorem dX12_fete_168 : decode cX12_fete 168 = .ok (.invokevirtual 415, 3) := by decide +kernel
theorem dX12_fete_171 : decode cX12_fete 171 = .ok (.ireturn, 1) := by decide +kernel
def fX12_fete_L68 : Nat → eg_H → Nat → Int32 → Int32 → Int32 → Int32 → Int32 → Int32 → Option ((Nat × Int32 × Int32 × Int32 × Int32 × eg_H) ⊕ (Nat × Int32 × Int32 × Int32 × Int32 × eg_H))
  | 0, _, _, _, _, _, _, _, _ => none
  | n + 1, h, l0, l4, l5, l6, l7, l8, l9 =>
    if (60 : Int32) < l9 then
      (some (.inl (l0, l4, l6, l7, l8, h)))
    else
      (fJ6_bitCount_0f7a4 h l6).bind fun ⟨v3, h2⟩ =>
      if v3 ≤ (1 : Int32) then
        (some (.inl (l0, l4, l6, l7, l8, h2)))
      else
        (eg_gR h2 12 3 l0).bind fun p6 =>
        (eg_gR h2 12 3 l0).bind fun p8 =>
        (fX7_told h2 p8 (2 : Int32)).bind fun ⟨v11, h10⟩ =>
        (fX7_yardsOf h10 p6 l9 v11).bind fun ⟨v14, h13⟩ =>
        if v14 ≤ (60 : Int32) then
          ((fX12_throwAll h13 l0 l6 l5 l9 v14).bind fun ⟨v18, h17⟩ =>
          fX12_fete_L68 n h17 l0 l4 l5 v18 l6 l9 (l9 + (1 : Int32)))
        else
          some (.inr (l0, l4, l6, l7, l8, h13))
set_option maxRecDepth 20000 in
theorem fX12_fete_L68_ok {h0 : eg_H} {Z : eg_C → State → Prop} {N S : Nat} : ∀ (n : Nat) (h : eg_H) (l0 : Nat) (l4 : Int32) (l5 : Int32) (l6 : Int32) (l7 : Int32) (l8 : Int32) (l9 : Int32) (eE : (Nat × Int32 × Int32 × Int32 × Int32 × eg_H) ⊕ (Nat × Int32 × Int32 × Int32 × Int32 × eg_H)), fX12_fete_L68 n h l0 l4 l5 l6 l7 l8 l9 = some eE → (hk0 : ∀ (l0 : Nat) (l4 : Int32) (l6 : Int32) (l7 : Int32) (l8 : Int32) (h : eg_H), eE = (.inl (l0, l4, l6, l7, l8, h)) → eg_AW (RX12, cX12_fete, 11, 8, none, "fete", (some .int)) Z N S h0 141 [(0, .ref l0), (4, .int l4), (6, .int l6), (7, .int l7), (8, .int l8)] [] h) → (hk1 : ∀ (l0 : Nat) (l4 : Int32) (l6 : Int32) (l7 : Int32) (l8 : Int32) (h : eg_H), eE = (.inr (l0, l4, l6, l7, l8, h)) → eg_AW (RX12, cX12_fete, 11, 8, none, "fete", (some .int)) Z N S h0 110 [(0, .ref l0), (4, .int l4), (6, .int l6), (7, .int l7), (8, .int l8)] [] h) → eg_AW (RX12, cX12_fete, 11, 8, none, "fete", (some .int)) Z N S h0 68 [(0, .ref l0), (4, .int l4), (5, .int l5), (6, .int l6), (7, .int l7), (8, .int l8), (9, .int l9)] [] h := by
  intro n
  induction n with
  | zero => intro h l0 l4 l5 l6 l7 l8 l9 eE hF; exact absurd hF (by intro q; cases q)
  | succ n ih =>
    intro h l0 l4 l5 l6 l7 l8 l9 eE hF hk0 hk1
    have hrec := fun (h' : eg_H) (l0 : Nat) (l4 : Int32) (l5 : Int32) (l6 : Int32) (l7 : Int32) (l8 : Int32) (l9 : Int32) hq => ih h' l0 l4 l5 l6 l7 l8 l9 eE hq hk0 hk1
    refine eg_iload (i := 9) 6 dX12_fete_68 rfl ?_
    refine eg_bipush (v := (60 : Int32)) dX12_fete_70 (by decide) ?_
    refine eg_ic_gt 141 dX12_fete_72 rfl (fun c1 => ?_) (fun c1 => ?_)
    · replace hF := eg_it c1 hF
      exact eg_sub [0, 1, 3, 4, 5] [(0, .ref l0), (4, .int l4), (6, .int l6), (7, .int l7), (8, .int l8)] rfl (hk0 l0 l4 l6 l7 l8 h (Option.some.inj hF).symm)
    · replace hF := eg_if c1 hF
      refine eg_iload (i := 6) 3 dX12_fete_75 rfl ?_
      replace hF := eg_bind hF; obtain ⟨⟨v3, h2⟩, e4, hF⟩ := hF
      refine eg_callS (n := 1) [.int l6] dX12_fete_77 (mJ6_bitCount_0f7a4 e4) rfl ew_1152 ew_825 ew_124 ew_826 hy_J6_bitCount_0f7a4.2 rfl (Nat.le_of_ble_eq_true rfl) (Nat.le_of_ble_eq_true rfl) (Nat.le_of_ble_eq_true rfl) ?_
      refine eg_iconst (v := (1 : Int32)) dX12_fete_80 (by decide) ?_
      refine eg_ic_le 141 dX12_fete_81 rfl (fun c5 => ?_) (fun c5 => ?_)
      · replace hF := eg_it c5 hF
        exact eg_sub [0, 1, 3, 4, 5] [(0, .ref l0), (4, .int l4), (6, .int l6), (7, .int l7), (8, .int l8)] rfl (hk0 l0 l4 l6 l7 l8 h2 (Option.some.inj hF).symm)
      · replace hF := eg_if c5 hF
        refine eg_aload_n (i := 0) 0 dX12_fete_84 rfl rfl ?_
        replace hF := eg_bind hF; obtain ⟨p6, e7, hF⟩ := hF
        refine eg_getR dX12_fete_85 e7 (Nat.le_of_ble_eq_true rfl) (Nat.le_of_ble_eq_true rfl) rfl ew_359 ?_
        refine eg_iload (i := 9) 6 dX12_fete_88 rfl ?_
        refine eg_aload_n (i := 0) 0 dX12_fete_90 rfl rfl ?_
        replace hF := eg_bind hF; obtain ⟨p8, e9, hF⟩ := hF
        refine eg_getR dX12_fete_91 e9 (Nat.le_of_ble_eq_true rfl) (Nat.le_of_ble_eq_true rfl) rfl ew_359 ?_
        refine eg_iconst (v := (2 : Int32)) dX12_fete_94 (by decide) ?_
        replace hF := eg_bind hF; obtain ⟨⟨v11, h10⟩, e12, hF⟩ := hF
        refine eg_callV (c := 7) (n := 1) [.int (2 : Int32)] dX12_fete_95 (mX7_told e12) rfl (fX7_told_O e12) (Nat.le_of_ble_eq_true rfl) rfl ew_717 ew_718 ew_719 ew_104 ew_720 hy_X7_told rfl (Nat.le_of_ble_eq_true rfl) (Nat.le_of_ble_eq_true rfl) (Nat.le_of_ble_eq_true rfl) ?_
        replace hF := eg_bind hF; obtain ⟨⟨v14, h13⟩, e15, hF⟩ := hF
        refine eg_callV (c := 7) (n := 2) [.int l9, .int v11] dX12_fete_98 (mX7_yardsOf e15) rfl (fX7_yardsOf_O e15) (Nat.le_of_ble_eq_true rfl) rfl ew_1039 ew_956 ew_957 ew_104 ew_958 hy_X7_yardsOf rfl (Nat.le_of_ble_eq_true rfl) (Nat.le_of_ble_eq_true rfl) (Nat.le_of_ble_eq_true rfl) ?_
        refine eg_istore (i := 10) [(10, .int v14), (0, .ref l0), (4, .int l4), (5, .int l5), (6, .int l6), (7, .int l7), (8, .int l8), (9, .int l9)] dX12_fete_101 (Nat.le_of_ble_eq_true rfl) rfl ?_
        refine eg_iload (i := 10) 0 dX12_fete_103 rfl ?_
        refine eg_bipush (v := (60 : Int32)) dX12_fete_105 (by decide) ?_
        refine eg_ic_le 113 dX12_fete_107 rfl (fun c16 => ?_) (fun c16 => ?_)
        · replace hF := eg_it c16 hF
          refine eg_iload (i := 6) 4 dX12_fete_113 rfl ?_
          refine eg_istore (i := 7) [(7, .int l6), (10, .int v14), (0, .ref l0), (4, .int l4), (5, .int l5), (6, .int l6), (8, .int l8), (9, .int l9)] dX12_fete_115 (Nat.le_of_ble_eq_true rfl) rfl ?_
          refine eg_aload_n (i := 0) 2 dX12_fete_117 rfl rfl ?_
          refine eg_iload (i := 6) 5 dX12_fete_118 rfl ?_
          refine eg_iload (i := 5) 4 dX12_fete_120 rfl ?_
          refine eg_iload (i := 9) 7 dX12_fete_122 rfl ?_
          refine eg_iload (i := 10) 1 dX12_fete_124 rfl ?_
          replace hF := eg_bind hF; obtain ⟨⟨v18, h17⟩, e19, hF⟩ := hF
          refine eg_callV (c := 12) (n := 4) [.int l6, .int l5, .int l9, .int v14] dX12_fete_126 (mX12_throwAll e19) rfl (fX12_throwAll_O e19) (Nat.le_of_ble_eq_true rfl) rfl ew_1153 ew_1155 ew_39 ew_100 ew_1156 hy_X12_throwAll rfl (Nat.le_of_ble_eq_true rfl) (Nat.le_of_ble_eq_true rfl) (Nat.le_of_ble_eq_true rfl) ?_
          refine eg_istore (i := 6) [(6, .int v18), (7, .int l6), (10, .int v14), (0, .ref l0), (4, .int l4), (5, .int l5), (8, .int l8), (9, .int l9)] dX12_fete_129 (Nat.le_of_ble_eq_true rfl) rfl ?_
          refine eg_iload (i := 9) 7 dX12_fete_131 rfl ?_
          refine eg_istore (i := 8) [(8, .int l9), (6, .int v18), (7, .int l6), (10, .int v14), (0, .ref l0), (4, .int l4), (5, .int l5), (9, .int l9)] dX12_fete_133 (Nat.le_of_ble_eq_true rfl) rfl ?_
          refine eg_iinc (i := 9) (v := (l9 + (1 : Int32))) 7 [(9, .int (l9 + (1 : Int32))), (8, .int l9), (6, .int v18), (7, .int l6), (10, .int v14), (0, .ref l0), (4, .int l4), (5, .int l5)] dX12_fete_135 rfl rfl (Nat.le_of_ble_eq_true rfl) rfl ?_
          refine eg_goto 68 dX12_fete_138 rfl ?_
          exact eg_sub [5, 6, 7, 2, 3, 1, 0] [(0, .ref l0), (4, .int l4), (5, .int l5), (6, .int v18), (7, .int l6), (8, .int l9), (9, .int (l9 + (1 : Int32)))] rfl (hrec h17 l0 l4 l5 v18 l6 l9 (l9 + (1 : Int32)) hF)
        · replace hF := eg_if c16 hF
          exact eg_sub [1, 2, 4, 5, 6] [(0, .ref l0), (4, .int l4), (6, .int l6), (7, .int l7), (8, .int l8)] rfl (hk1 l0 l4 l6 l7 l8 h13 (Option.some.inj hF).symm)
def fX12_fete_j141 (h : eg_H) (l0 : Nat) (l4 : Int32) (l6 : Int32) (l7 : Int32) (l8 : Int32) : Option (Int32 × eg_H) :=
  if l4 = (1 : Int32) then
    (some (l8, h))
  else
    (eg_gR h 12 18 l0).bind fun p2 =>
    if l6 = 0 then
      ((fX9_lowersIn h p2 l7).bind fun ⟨v6, h5⟩ =>
      some (v6, h5))
    else
      (fX9_lowersIn h p2 l6).bind fun ⟨v9, h8⟩ =>
      some (v9, h8)
set_option maxRecDepth 20000 in
theorem fX12_fete_j141_ok {h0 : eg_H} (h : eg_H) (l0 : Nat) (l4 : Int32) (l6 : Int32) (l7 : Int32) (l8 : Int32) {rE : Int32} {hE : eg_H} (hF : fX12_fete_j141 h l0 l4 l6 l7 l8 = some (rE, hE)) : eg_AW (RX12, cX12_fete, 11, 8, none, "fete", (some .int)) (eg_Zm (some (.int rE)) hE h0) (eg_nc hE) (eg_ns hE) h0 141 [(0, .ref l0), (4, .int l4), (6, .int l6), (7, .int l7), (8, .int l8)] [] h := by
  refine eg_iload (i := 4) 1 dX12_fete_141 rfl ?_
  refine eg_iconst (v := (1 : Int32)) dX12_fete_143 (by decide) ?_
  refine eg_ic_ne 152 dX12_fete_144 rfl (fun c1 => ?_) (fun c1 => ?_)
  · replace hF := eg_it c1 hF
    refine eg_iload (i := 8) 4 dX12_fete_147 rfl ?_
    refine eg_goto 171 dX12_fete_149 rfl ?_
    exact eg_iretE dX12_fete_171 hF
  · replace hF := eg_if c1 hF
    refine eg_aload_n (i := 0) 0 dX12_fete_152 rfl rfl ?_
    replace hF := eg_bind hF; obtain ⟨p2, e3, hF⟩ := hF
    refine eg_getR dX12_fete_153 e3 (Nat.le_of_ble_eq_true rfl) (Nat.le_of_ble_eq_true rfl) rfl ew_374 ?_
    refine eg_iload (i := 6) 2 dX12_fete_156 rfl ?_
    refine eg_if_eq 166 dX12_fete_158 rfl (fun c4 => ?_) (fun c4 => ?_)
    · replace hF := eg_it c4 hF
      refine eg_iload (i := 7) 3 dX12_fete_166 rfl ?_
      replace hF := eg_bind hF; obtain ⟨⟨v6, h5⟩, e7, hF⟩ := hF
      refine eg_callV (c := 9) (n := 1) [.int l7] dX12_fete_168 (mX9_lowersIn e7) rfl (fX9_lowersIn_O e7) (Nat.le_of_ble_eq_true rfl) rfl ew_1177 ew_1178 ew_1179 ew_109 ew_1180 hy_X9_lowersIn rfl (Nat.le_of_ble_eq_true rfl) (Nat.le_of_ble_eq_true rfl) (Nat.le_of_ble_eq_true rfl) ?_
      exact eg_iretE dX12_fete_171 hF
    · replace hF := eg_if c4 hF
      refine eg_iload (i := 6) 2 dX12_fete_161 rfl ?_
      refine eg_goto 168 dX12_fete_163 rfl ?_
      replace hF := eg_bind hF; obtain ⟨⟨v9, h8⟩, e10, hF⟩ := hF
      refine eg_callV (c := 9) (n := 1) [.int l6] dX12_fete_168 (mX9_lowersIn e10) rfl (fX9_lowersIn_O e10) (Nat.le_of_ble_eq_true rfl) rfl ew_1177 ew_1178 ew_1179 ew_109 ew_1180 hy_X9_lowersIn rfl (Nat.le_of_ble_eq_true rfl) (Nat.le_of_ble_eq_true rfl) (Nat.le_of_ble_eq_true rfl) ?_
      exact eg_iretE dX12_fete_171 hF
def fX12_fete (h : eg_H) (l0 : Nat) (l1 : Int32) (l2 : Int64) (l4 : Int32) : Option (Int32 × eg_H) :=
  if eg_isO h 12 l0 then (
    (eg_gR h 12 18 l0).bind fun p1 =>
    (eg_gR h 12 3 l0).bind fun p3 =>
    (fX7_persons h p3).bind fun ⟨v6, h5⟩ =>
    (fX9_readPairs h5 p1 l1 v6).bind fun ⟨v9, h8⟩ =>
    if v9 = 0 then
      (some ((-1 : Int32), h8))
    else
      (eg_gR h8 12 3 l0).bind fun p12 =>
      (fX7_eggs h8 p12).bind fun ⟨v15, h14⟩ =>
      if v15 ≤ 0 then
        (some ((-1 : Int32), h14))
      else
        (fX12_isEither h14 l4).bind fun ⟨v19, h18⟩ =>
        if v19 = 0 then
          (some ((-1 : Int32), h18))
        else
          (eg_gR h18 12 15 l0).bind fun p22 =>
          (fX11_startDraws h18 p22 l2).bind fun h24 =>
          (some ((((1 : Int32) <<< (v9 &&& 31)) - (1 : Int32)))).bind fun v26 =>
          (fX12_fete_L68 eg_F h24 l0 l4 v9 v26 v26 (0 : Int32) (1 : Int32)).bind fun e =>
          match e with
          | .inl (p30, v31, v32, v33, v34, h35) =>
            fX12_fete_j141 h35 p30 v31 v32 v33 v34
          | .inr (p37, v38, v39, v40, v41, h42) =>
            fX12_fete_j141 h42 p37 v38 v39 v40 v41) else none
theorem fX12_fete_O {h : eg_H} {l0 : Nat} {l1 : Int32} {l2 : Int64} {l4 : Int32} {rE : Int32} {hE : eg_H} (hF : fX12_fete h l0 l1 l2 l4 = some (rE, hE)) : eg_isO h 12 l0 := (eg_ifn hF).1
set_option maxRecDepth 20000 in
theorem mX12_fete {h : eg_H} {l0 : Nat} {l1 : Int32} {l2 : Int64} {l4 : Int32} {rE : Int32} {hE : eg_H} (hF : fX12_fete h l0 l1 l2 l4 = some (rE, hE)) : eg_Met yX12_fete cX12_fete 11 (some .int) 8 [.ref l0, .int l1, .long l2, .int l4] h (some (.int rE)) hE := by
  refine eg_enter rfl (Nat.le_of_ble_eq_true rfl) ?_
  show eg_AW (RX12, cX12_fete, 11, 8, none, "fete", (some .int)) (eg_Zm (some (.int rE)) hE h) (eg_nc hE) (eg_ns hE) h 0 [(0, .ref l0), (1, .int l1), (2, .long l2), (4, .int l4)] [] h
  replace hF := (eg_ifn hF).2
  refine eg_aload_n (i := 0) 0 dX12_fete_0 rfl rfl ?_
  replace hF := eg_bind hF; obtain ⟨p1, e2, hF⟩ := hF
  refine eg_getR dX12_fete_1 e2 (Nat.le_of_ble_eq_true rfl) (Nat.le_of_ble_eq_true rfl) rfl ew_374 ?_
  refine eg_iload_n (i := 1) 1 dX12_fete_4 rfl rfl ?_
  refine eg_aload_n (i := 0) 0 dX12_fete_5 rfl rfl ?_
  replace hF := eg_bind hF; obtain ⟨p3, e4, hF⟩ := hF
  refine eg_getR dX12_fete_6 e4 (Nat.le_of_ble_eq_true rfl) (Nat.le_of_ble_eq_true rfl) rfl ew_359 ?_
  replace hF := eg_bind hF; obtain ⟨⟨v6, h5⟩, e7, hF⟩ := hF
  refine eg_callV (c := 7) (n := 0) [] dX12_fete_9 (mX7_persons e7) rfl (fX7_persons_O e7) (Nat.le_of_ble_eq_true rfl) rfl ew_629 ew_630 ew_631 ew_104 ew_632 hy_X7_persons rfl (Nat.le_of_ble_eq_true rfl) (Nat.le_of_ble_eq_true rfl) (Nat.le_of_ble_eq_true rfl) ?_
  replace hF := eg_bind hF; obtain ⟨⟨v9, h8⟩, e10, hF⟩ := hF
  refine eg_callV (c := 9) (n := 2) [.int l1, .int v6] dX12_fete_12 (mX9_readPairs e10) rfl (fX9_readPairs_O e10) (Nat.le_of_ble_eq_true rfl) rfl ew_1140 ew_1141 ew_1142 ew_109 ew_1143 hy_X9_readPairs rfl (Nat.le_of_ble_eq_true rfl) (Nat.le_of_ble_eq_true rfl) (Nat.le_of_ble_eq_true rfl) ?_
  refine eg_istore (i := 5) [(5, .int v9), (0, .ref l0), (1, .int l1), (2, .long l2), (4, .int l4)] dX12_fete_15 (Nat.le_of_ble_eq_true rfl) rfl ?_
  refine eg_iload (i := 5) 0 dX12_fete_17 rfl ?_
  refine eg_if_eq 40 dX12_fete_19 rfl (fun c11 => ?_) (fun c11 => ?_)
  · replace hF := eg_it c11 hF
    refine eg_iconst (v := (-1 : Int32)) dX12_fete_40 (by decide) ?_
    exact eg_iretE dX12_fete_41 hF
  · replace hF := eg_if c11 hF
    refine eg_aload_n (i := 0) 1 dX12_fete_22 rfl rfl ?_
    replace hF := eg_bind hF; obtain ⟨p12, e13, hF⟩ := hF
    refine eg_getR dX12_fete_23 e13 (Nat.le_of_ble_eq_true rfl) (Nat.le_of_ble_eq_true rfl) rfl ew_359 ?_
    replace hF := eg_bind hF; obtain ⟨⟨v15, h14⟩, e16, hF⟩ := hF
    refine eg_callV (c := 7) (n := 0) [] dX12_fete_26 (mX7_eggs e16) rfl (fX7_eggs_O e16) (Nat.le_of_ble_eq_true rfl) rfl ew_922 ew_923 ew_924 ew_104 ew_925 hy_X7_eggs rfl (Nat.le_of_ble_eq_true rfl) (Nat.le_of_ble_eq_true rfl) (Nat.le_of_ble_eq_true rfl) ?_
    refine eg_if_le 40 dX12_fete_29 rfl (fun c17 => ?_) (fun c17 => ?_)
    · replace hF := eg_it c17 hF
      refine eg_iconst (v := (-1 : Int32)) dX12_fete_40 (by decide) ?_
      exact eg_iretE dX12_fete_41 hF
    · replace hF := eg_if c17 hF
      refine eg_iload (i := 4) 4 dX12_fete_32 rfl ?_
      replace hF := eg_bind hF; obtain ⟨⟨v19, h18⟩, e20, hF⟩ := hF
      refine eg_callS (n := 1) [.int l4] dX12_fete_34 (mX12_isEither e20) rfl ew_993 ew_994 ew_100 ew_995 hy_X12_isEither.2 rfl (Nat.le_of_ble_eq_true rfl) (Nat.le_of_ble_eq_true rfl) (Nat.le_of_ble_eq_true rfl) ?_
      refine eg_if_ne 42 dX12_fete_37 rfl (fun c21 => ?_) (fun c21 => ?_)
      · replace hF := eg_it c21 hF
        refine eg_iconst (v := (-1 : Int32)) dX12_fete_40 (by decide) ?_
        exact eg_iretE dX12_fete_41 hF
      · replace hF := eg_if c21 hF
        refine eg_aload_n (i := 0) 1 dX12_fete_42 rfl rfl ?_
        replace hF := eg_bind hF; obtain ⟨p22, e23, hF⟩ := hF
        refine eg_getR dX12_fete_43 e23 (Nat.le_of_ble_eq_true rfl) (Nat.le_of_ble_eq_true rfl) rfl ew_371 ?_
        refine eg_lload_n (i := 2) 3 dX12_fete_46 rfl rfl ?_
        replace hF := eg_bind hF; obtain ⟨h24, e25, hF⟩ := hF
        refine eg_callV (c := 11) (n := 1) [.long l2] dX12_fete_47 (mX11_startDraws e25) rfl (fX11_startDraws_O e25) (Nat.le_of_ble_eq_true rfl) rfl ew_1148 ew_1149 ew_1150 ew_106 ew_1151 hy_X11_startDraws rfl (Nat.le_of_ble_eq_true rfl) (Nat.le_of_ble_eq_true rfl) (Nat.le_of_ble_eq_true rfl) ?_
        refine eg_iconst (v := (1 : Int32)) dX12_fete_50 (by decide) ?_
        refine eg_iload (i := 5) 0 dX12_fete_51 rfl ?_
        refine eg_ishl dX12_fete_53 ?_
        refine eg_iconst (v := (1 : Int32)) dX12_fete_54 (by decide) ?_
        refine eg_isub dX12_fete_55 ?_
        replace hF := eg_bind hF; obtain ⟨v26, e27, hF⟩ := hF
        replace e27 := Option.some.inj e27
        rw [e27]
        refine eg_istore (i := 6) [(6, .int v26), (5, .int v9), (0, .ref l0), (1, .int l1), (2, .long l2), (4, .int l4)] dX12_fete_56 (Nat.le_of_ble_eq_true rfl) rfl ?_
        refine eg_iload (i := 6) 0 dX12_fete_58 rfl ?_
        refine eg_istore (i := 7) [(7, .int v26), (6, .int v26), (5, .int v9), (0, .ref l0), (1, .int l1), (2, .long l2), (4, .int l4)] dX12_fete_60 (Nat.le_of_ble_eq_true rfl) rfl ?_
        refine eg_iconst (v := (0 : Int32)) dX12_fete_62 (by decide) ?_
        refine eg_istore (i := 8) [(8, .int (0 : Int32)), (7, .int v26), (6, .int v26), (5, .int v9), (0, .ref l0), (1, .int l1), (2, .long l2), (4, .int l4)] dX12_fete_63 (Nat.le_of_ble_eq_true rfl) rfl ?_
        refine eg_iconst (v := (1 : Int32)) dX12_fete_65 (by decide) ?_
        refine eg_istore (i := 9) [(9, .int (1 : Int32)), (8, .int (0 : Int32)), (7, .int v26), (6, .int v26), (5, .int v9), (0, .ref l0), (1, .int l1), (2, .long l2), (4, .int l4)] dX12_fete_66 (Nat.le_of_ble_eq_true rfl) rfl ?_
        replace hF := eg_bind hF; obtain ⟨x29, e28, hF⟩ := hF
        refine eg_sub [5, 8, 4, 3, 2, 1, 0] [(0, .ref l0), (4, .int l4), (5, .int v9), (6, .int v26), (7, .int v26), (8, .int (0 : Int32)), (9, .int (1 : Int32))] rfl (fX12_fete_L68_ok eg_F h24 l0 l4 v9 v26 v26 (0 : Int32) (1 : Int32) x29 e28 ?_ ?_)
        · intro p30 v31 v32 v33 v34 h35 e36
          subst e36
          exact (fX12_fete_j141_ok h35 p30 v31 v32 v33 v34 hF)
        · intro p37 v38 v39 v40 v41 h42 e43
          subst e43
          refine eg_goto 141 dX12_fete_110 rfl ?_
          exact (fX12_fete_j141_ok h42 p37 v38 v39 v40 v41 hF)
