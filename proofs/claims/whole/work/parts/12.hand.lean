def eg_cp (h : eg_H) (p n : Nat) : eg_H := (h.1 ++ [(100, n)], (fun q => if q = h.1.length then (fun j => if j < n ∧ j < (eg_kd h p).2 then h.2.1 p j else 0) else h.2.1 q), (fun q => if q = h.1.length then (fun _ => 0) else h.2.2.1 q), (fun q => if q = h.1.length then (fun _ => none) else h.2.2.2 q))
def fJ7_copyOf_59c91 (h : eg_H) (l0 : Nat) (l1 : Int32) : Option (Nat × eg_H) := if 16 ≤ l0 ∧ (eg_kd h l0).1 = 100 ∧ ¬ l1 < 0 ∧ l1.toNatClampNeg ≤ 1000000 ∧ (eg_kd h l0).2 ≤ 1000000 then some (eg_nc h, eg_cp h l0 l1.toNatClampNeg) else none
abbrev xs_yLen : MethodName := ⟨"java/lang/String", "length", "()I"⟩
abbrev xs_yAt : MethodName := ⟨"java/lang/String", "charAt", "(I)C"⟩
abbrev xs_yCod : MethodName := ⟨"java/lang/String", "coder", "()B"⟩
abbrev xs_yLat : MethodName := ⟨"java/lang/String", "isLatin1", "()Z"⟩
abbrev xs_yChk : MethodName := ⟨"java/lang/String", "checkIndex", "(II)V"⟩
abbrev xs_yOne : MethodName := ⟨"java/lang/StringLatin1", "charAt", "([BI)C"⟩
abbrev xs_yPre : MethodName := ⟨"jdk/internal/util/Preconditions", "checkIndex", "(IILjava/util/function/BiFunction;)I"⟩
theorem xw_650 : Cond.methodLink RJ7 316 ⟨"[I", "clone", "()Ljava/lang/Object;"⟩ ∈ eg_G := eg_in (i := 650) (by decide +kernel) (by decide +kernel)
theorem xw_651 : Cond.sameMethod "[I" "java/lang/Object" "clone" "()Ljava/lang/Object;" ∈ eg_G := eg_in (i := 651) (by decide +kernel) (by decide +kernel)
theorem xw_652 : Cond.native ⟨"java/lang/Object", "clone", "()Ljava/lang/Object;"⟩ ∈ eg_G := eg_in (i := 652) (by decide +kernel) (by decide +kernel)
theorem xw_653 : Cond.instanceMethod ⟨"java/lang/Object", "clone", "()Ljava/lang/Object;"⟩ ∈ eg_G := eg_in (i := 653) (by decide +kernel) (by decide +kernel)
theorem xw_654 : Cond.selects "[I" ⟨"[I", "clone", "()Ljava/lang/Object;"⟩ ⟨"java/lang/Object", "clone", "()Ljava/lang/Object;"⟩ ∈ eg_G := eg_in (i := 654) (by decide +kernel) (by decide +kernel)
theorem xw_656 : Cond.classLink RJ7 317 "[I" ∈ eg_G := eg_in (i := 656) (by decide +kernel) (by decide +kernel)
theorem xw_657 : Cond.methodLink RJ7 304 Lib.Math.min.name ∈ eg_G := eg_in (i := 657) (by decide +kernel) (by decide +kernel)
theorem xw_660 : Cond.methodLink RJ7 150 arraycopyName ∈ eg_G := eg_in (i := 660) (by decide +kernel) (by decide +kernel)
theorem xw_661 : Cond.static arraycopyName ∈ eg_G := eg_in (i := 661) (by decide +kernel) (by decide +kernel)
theorem xw_662 : Cond.native arraycopyName ∈ eg_G := eg_in (i := 662) (by decide +kernel) (by decide +kernel)
theorem xw_118 : Cond.initialized "java/lang/System" ∈ eg_G := eg_in (i := 118) (by decide +kernel) (by decide +kernel)
theorem xw_111 : Cond.initialized "java/lang/String" ∈ eg_G := eg_in (i := 111) (by decide +kernel) (by decide +kernel)
theorem xw_112 : Cond.initialized "java/lang/StringLatin1" ∈ eg_G := eg_in (i := 112) (by decide +kernel) (by decide +kernel)
theorem xw_113 : Cond.initialized "jdk/internal/util/Preconditions" ∈ eg_G := eg_in (i := 113) (by decide +kernel) (by decide +kernel)
theorem xw_1727 : Cond.instanceMethod xs_yLen ∈ eg_G := eg_in (i := 1727) (by decide +kernel) (by decide +kernel)
theorem xw_1728 : Cond.selects "java/lang/String" xs_yLen xs_yLen ∈ eg_G := eg_in (i := 1728) (by decide +kernel) (by decide +kernel)
theorem xw_1729 : Cond.code xs_yLen prog_24_method_54_code 1 (some .int) ∈ eg_G := eg_in (i := 1729) (by decide +kernel) (by decide +kernel)
theorem xw_1730 : Cond.methodLink "java/lang/String" 335 xs_yCod ∈ eg_G := eg_in (i := 1730) (by decide +kernel) (by decide +kernel)
theorem xw_1731 : Cond.instanceMethod xs_yCod ∈ eg_G := eg_in (i := 1731) (by decide +kernel) (by decide +kernel)
theorem xw_1732 : Cond.selects "java/lang/String" xs_yCod xs_yCod ∈ eg_G := eg_in (i := 1732) (by decide +kernel) (by decide +kernel)
theorem xw_1733 : Cond.code xs_yCod prog_24_method_152_code 1 (some .byte) ∈ eg_G := eg_in (i := 1733) (by decide +kernel) (by decide +kernel)
theorem xw_1734 : Cond.fieldLink "java/lang/String" 38 "java/lang/String" "COMPACT_STRINGS" "Z" ∈ eg_G := eg_in (i := 1734) (by decide +kernel) (by decide +kernel)
theorem xw_1740 : Cond.instanceMethod xs_yAt ∈ eg_G := eg_in (i := 1740) (by decide +kernel) (by decide +kernel)
theorem xw_1741 : Cond.selects "java/lang/String" xs_yAt xs_yAt ∈ eg_G := eg_in (i := 1741) (by decide +kernel) (by decide +kernel)
theorem xw_1742 : Cond.code xs_yAt prog_24_method_56_code 2 (some .char) ∈ eg_G := eg_in (i := 1742) (by decide +kernel) (by decide +kernel)
theorem xw_1743 : Cond.methodLink "java/lang/String" 492 xs_yLat ∈ eg_G := eg_in (i := 1743) (by decide +kernel) (by decide +kernel)
theorem xw_1744 : Cond.instanceMethod xs_yLat ∈ eg_G := eg_in (i := 1744) (by decide +kernel) (by decide +kernel)
theorem xw_1745 : Cond.selects "java/lang/String" xs_yLat xs_yLat ∈ eg_G := eg_in (i := 1745) (by decide +kernel) (by decide +kernel)
theorem xw_1746 : Cond.code xs_yLat prog_24_method_154_code 1 (some .boolean) ∈ eg_G := eg_in (i := 1746) (by decide +kernel) (by decide +kernel)
theorem xw_1747 : Cond.methodLink "java/lang/String" 495 xs_yOne ∈ eg_G := eg_in (i := 1747) (by decide +kernel) (by decide +kernel)
theorem xw_1748 : Cond.static xs_yOne ∈ eg_G := eg_in (i := 1748) (by decide +kernel) (by decide +kernel)
theorem xw_1749 : Cond.code xs_yOne prog_25_method_2_code 2 (some .char) ∈ eg_G := eg_in (i := 1749) (by decide +kernel) (by decide +kernel)
theorem xw_1750 : Cond.methodLink "java/lang/StringLatin1" 9 xs_yChk ∈ eg_G := eg_in (i := 1750) (by decide +kernel) (by decide +kernel)
theorem xw_1751 : Cond.static xs_yChk ∈ eg_G := eg_in (i := 1751) (by decide +kernel) (by decide +kernel)
theorem xw_1752 : Cond.code xs_yChk prog_24_method_155_code 2 none ∈ eg_G := eg_in (i := 1752) (by decide +kernel) (by decide +kernel)
theorem xw_1753 : Cond.fieldLink "java/lang/String" 1053 "jdk/internal/util/Preconditions" "SIOOBE_FORMATTER" "Ljava/util/function/BiFunction;" ∈ eg_G := eg_in (i := 1753) (by decide +kernel) (by decide +kernel)
theorem xw_1755 : Cond.methodLink "java/lang/String" 1059 xs_yPre ∈ eg_G := eg_in (i := 1755) (by decide +kernel) (by decide +kernel)
theorem xw_1756 : Cond.static xs_yPre ∈ eg_G := eg_in (i := 1756) (by decide +kernel) (by decide +kernel)
theorem xw_1757 : Cond.code xs_yPre prog_33_method_11_code 3 (some .int) ∈ eg_G := eg_in (i := 1757) (by decide +kernel) (by decide +kernel)
theorem xw_2220 : Cond.fieldLink "java/lang/String" 9 "java/lang/String" "value" "[B" ∈ eg_G := eg_in (i := 2220) (by decide +kernel) (by decide +kernel)
theorem xw_2221 : Cond.fieldLink "java/lang/String" 15 "java/lang/String" "coder" "B" ∈ eg_G := eg_in (i := 2221) (by decide +kernel) (by decide +kernel)
theorem xdC_0 : decode cJ7_copyOf_59c91 0 = .ok (.iload_n 1, 1) := by decide +kernel
theorem xdC_1 : decode cJ7_copyOf_59c91 1 = .ok (.aload_n 0, 1) := by decide +kernel
theorem xdC_2 : decode cJ7_copyOf_59c91 2 = .ok (.arraylength, 1) := by decide +kernel
theorem xdC_3 : decode cJ7_copyOf_59c91 3 = .ok (.if_icmp .ne 11, 3) := by decide +kernel
theorem xdC_6 : decode cJ7_copyOf_59c91 6 = .ok (.aload_n 0, 1) := by decide +kernel
theorem xdC_7 : decode cJ7_copyOf_59c91 7 = .ok (.invokevirtual 316, 3) := by decide +kernel
theorem xdC_10 : decode cJ7_copyOf_59c91 10 = .ok (.checkcast 317, 3) := by decide +kernel
theorem xdC_13 : decode cJ7_copyOf_59c91 13 = .ok (.areturn, 1) := by decide +kernel
theorem xdC_14 : decode cJ7_copyOf_59c91 14 = .ok (.iload_n 1, 1) := by decide +kernel
theorem xdC_15 : decode cJ7_copyOf_59c91 15 = .ok (.newarray .int, 2) := by decide +kernel
theorem xdC_17 : decode cJ7_copyOf_59c91 17 = .ok (.astore_n 2, 1) := by decide +kernel
theorem xdC_18 : decode cJ7_copyOf_59c91 18 = .ok (.aload_n 0, 1) := by decide +kernel
theorem xdC_19 : decode cJ7_copyOf_59c91 19 = .ok (.iconst 0, 1) := by decide +kernel
theorem xdC_20 : decode cJ7_copyOf_59c91 20 = .ok (.aload_n 2, 1) := by decide +kernel
theorem xdC_21 : decode cJ7_copyOf_59c91 21 = .ok (.iconst 0, 1) := by decide +kernel
theorem xdC_22 : decode cJ7_copyOf_59c91 22 = .ok (.aload_n 0, 1) := by decide +kernel
theorem xdC_23 : decode cJ7_copyOf_59c91 23 = .ok (.arraylength, 1) := by decide +kernel
theorem xdC_24 : decode cJ7_copyOf_59c91 24 = .ok (.iload_n 1, 1) := by decide +kernel
theorem xdC_25 : decode cJ7_copyOf_59c91 25 = .ok (.invokestatic 304, 3) := by decide +kernel
theorem xdC_28 : decode cJ7_copyOf_59c91 28 = .ok (.invokestatic 150, 3) := by decide +kernel
theorem xdC_31 : decode cJ7_copyOf_59c91 31 = .ok (.aload_n 2, 1) := by decide +kernel
theorem xdC_32 : decode cJ7_copyOf_59c91 32 = .ok (.areturn, 1) := by decide +kernel
theorem xdCod_0 : decode prog_24_method_152_code 0 = .ok (.getstatic 38, 3) := by decide +kernel
theorem xdCod_3 : decode prog_24_method_152_code 3 = .ok (.ifCond .eq 10, 3) := by decide +kernel
theorem xdCod_6 : decode prog_24_method_152_code 6 = .ok (.aload_n 0, 1) := by decide +kernel
theorem xdCod_7 : decode prog_24_method_152_code 7 = .ok (.getfield 15, 3) := by decide +kernel
theorem xdCod_10 : decode prog_24_method_152_code 10 = .ok (.goto 4, 3) := by decide +kernel
theorem xdCod_14 : decode prog_24_method_152_code 14 = .ok (.ireturn, 1) := by decide +kernel
theorem xdLat_0 : decode prog_24_method_154_code 0 = .ok (.getstatic 38, 3) := by decide +kernel
theorem xdLat_3 : decode prog_24_method_154_code 3 = .ok (.ifCond .eq 14, 3) := by decide +kernel
theorem xdLat_6 : decode prog_24_method_154_code 6 = .ok (.aload_n 0, 1) := by decide +kernel
theorem xdLat_7 : decode prog_24_method_154_code 7 = .ok (.getfield 15, 3) := by decide +kernel
theorem xdLat_10 : decode prog_24_method_154_code 10 = .ok (.ifCond .ne 7, 3) := by decide +kernel
theorem xdLat_13 : decode prog_24_method_154_code 13 = .ok (.iconst 1, 1) := by decide +kernel
theorem xdLat_14 : decode prog_24_method_154_code 14 = .ok (.goto 4, 3) := by decide +kernel
theorem xdLat_18 : decode prog_24_method_154_code 18 = .ok (.ireturn, 1) := by decide +kernel
theorem xdPre_0 : decode prog_33_method_11_code 0 = .ok (.iload_n 0, 1) := by decide +kernel
theorem xdPre_1 : decode prog_33_method_11_code 1 = .ok (.ifCond .lt 8, 3) := by decide +kernel
theorem xdPre_4 : decode prog_33_method_11_code 4 = .ok (.iload_n 0, 1) := by decide +kernel
theorem xdPre_5 : decode prog_33_method_11_code 5 = .ok (.iload_n 1, 1) := by decide +kernel
theorem xdPre_6 : decode prog_33_method_11_code 6 = .ok (.if_icmp .lt 10, 3) := by decide +kernel
theorem xdPre_16 : decode prog_33_method_11_code 16 = .ok (.iload_n 0, 1) := by decide +kernel
theorem xdPre_17 : decode prog_33_method_11_code 17 = .ok (.ireturn, 1) := by decide +kernel
theorem xdChk_0 : decode prog_24_method_155_code 0 = .ok (.iload_n 0, 1) := by decide +kernel
theorem xdChk_1 : decode prog_24_method_155_code 1 = .ok (.iload_n 1, 1) := by decide +kernel
theorem xdChk_2 : decode prog_24_method_155_code 2 = .ok (.getstatic 1053, 3) := by decide +kernel
theorem xdChk_5 : decode prog_24_method_155_code 5 = .ok (.invokestatic 1059, 3) := by decide +kernel
theorem xdChk_8 : decode prog_24_method_155_code 8 = .ok (.pop, 1) := by decide +kernel
theorem xdChk_9 : decode prog_24_method_155_code 9 = .ok (.return_, 1) := by decide +kernel
theorem xdOne_0 : decode prog_25_method_2_code 0 = .ok (.iload_n 1, 1) := by decide +kernel
theorem xdOne_1 : decode prog_25_method_2_code 1 = .ok (.aload_n 0, 1) := by decide +kernel
theorem xdOne_2 : decode prog_25_method_2_code 2 = .ok (.arraylength, 1) := by decide +kernel
theorem xdOne_3 : decode prog_25_method_2_code 3 = .ok (.invokestatic 9, 3) := by decide +kernel
theorem xdOne_6 : decode prog_25_method_2_code 6 = .ok (.aload_n 0, 1) := by decide +kernel
theorem xdOne_7 : decode prog_25_method_2_code 7 = .ok (.iload_n 1, 1) := by decide +kernel
theorem xdOne_8 : decode prog_25_method_2_code 8 = .ok (.baload, 1) := by decide +kernel
theorem xdOne_9 : decode prog_25_method_2_code 9 = .ok (.sipush 255, 3) := by decide +kernel
theorem xdOne_12 : decode prog_25_method_2_code 12 = .ok (.iand, 1) := by decide +kernel
theorem xdOne_13 : decode prog_25_method_2_code 13 = .ok (.i2c, 1) := by decide +kernel
theorem xdOne_14 : decode prog_25_method_2_code 14 = .ok (.ireturn, 1) := by decide +kernel
theorem xdAt_0 : decode prog_24_method_56_code 0 = .ok (.aload_n 0, 1) := by decide +kernel
theorem xdAt_1 : decode prog_24_method_56_code 1 = .ok (.invokevirtual 492, 3) := by decide +kernel
theorem xdAt_4 : decode prog_24_method_56_code 4 = .ok (.ifCond .eq 12, 3) := by decide +kernel
theorem xdAt_7 : decode prog_24_method_56_code 7 = .ok (.aload_n 0, 1) := by decide +kernel
theorem xdAt_8 : decode prog_24_method_56_code 8 = .ok (.getfield 9, 3) := by decide +kernel
theorem xdAt_11 : decode prog_24_method_56_code 11 = .ok (.iload_n 1, 1) := by decide +kernel
theorem xdAt_12 : decode prog_24_method_56_code 12 = .ok (.invokestatic 495, 3) := by decide +kernel
theorem xdAt_15 : decode prog_24_method_56_code 15 = .ok (.ireturn, 1) := by decide +kernel
theorem xdLen_0 : decode prog_24_method_54_code 0 = .ok (.aload_n 0, 1) := by decide +kernel
theorem xdLen_1 : decode prog_24_method_54_code 1 = .ok (.getfield 9, 3) := by decide +kernel
theorem xdLen_4 : decode prog_24_method_54_code 4 = .ok (.arraylength, 1) := by decide +kernel
theorem xdLen_5 : decode prog_24_method_54_code 5 = .ok (.aload_n 0, 1) := by decide +kernel
theorem xdLen_6 : decode prog_24_method_54_code 6 = .ok (.invokevirtual 335, 3) := by decide +kernel
theorem xdLen_9 : decode prog_24_method_54_code 9 = .ok (.ishr, 1) := by decide +kernel
theorem xdLen_10 : decode prog_24_method_54_code 10 = .ok (.ireturn, 1) := by decide +kernel
theorem xs_nn (z : Int32) (hz : ¬ z < 0) : z.toInt = (z.toNatClampNeg : Int) := by
  have hz0 : (0 : Int) ≤ z.toInt := by
    have := Int32.not_lt.mp hz
    simpa using Int32.le_iff_toInt_le.mp this
  show z.toInt = ((z.toInt.toNat : Nat) : Int)
  omega
theorem xc_nc (h : eg_H) (p n : Nat) : eg_nc (eg_cp h p n) = eg_nc h + 1 := eg_nc_new h 100 n
theorem xc_ns (h : eg_H) (p n : Nat) : eg_ns (eg_cp h p n) = eg_ns h + n := eg_ns_new h 100 n
theorem xc_wf {h : eg_H} (w : eg_wf h) (p n : Nat) : eg_wf (eg_cp h p n) := eg_wf_new w 100 n
theorem xc_I (h : eg_H) (p n : Nat) : eg_I (eg_cp h p n) (eg_nc h) = fun j => if j < n ∧ j < (eg_kd h p).2 then eg_I h p j else 0 := by
  show (if eg_nc h = h.1.length then _ else _) = _
  exact if_pos rfl
theorem xc_ne {h : eg_H} {p n q : Nat} (hq : q ≠ eg_nc h) : eg_I (eg_cp h p n) q = eg_I (eg_new h 100 n) q := by
  have hq : ¬ q = h.1.length := hq
  show (if q = h.1.length then _ else h.2.1 q) = (if q = h.1.length then _ else h.2.1 q)
  rw [if_neg hq, if_neg hq]
theorem xc_set {dA : Nat → ClassId} {ad : Nat → Nat} {h : eg_H} {p n : Nat} (w : 16 ≤ eg_nc h) : (eg_ws dA ad (eg_new h 100 n)).set (eg_nc h - 16) (ad (eg_nc h), .inl (dA 100, (n, .inl (eg_I (eg_cp h p n) (eg_nc h))))) = eg_ws dA ad (eg_cp h p n) := by
  refine eg_ws_set w rfl (fun q hq => xc_ne hq) (fun _ _ => rfl) (fun _ _ => rfl) ?_
  rw [eg_kd_new, eg_ce_A (Nat.le_refl 100), eg_ar_I (by decide) (by decide)]
theorem xc_ws {dA : Nat → ClassId} {ad : Nat → Nat} {h : eg_H} {p n q : Nat} (w : eg_wf h) : eg_ws dA ad h ++ [(q, .inl (dA 100, (n, .inl (eg_I (eg_cp h p n) (eg_nc h)))))] = eg_ws dA (eg_ex ad (eg_nc h) q) (eg_cp h p n) := by
  have e1 := eg_ws_new (dA := dA) (ad := ad) (q := q) (kn := 100) (nn := n) w rfl
  have e2 := xc_set (dA := dA) (ad := eg_ex ad (eg_nc h) q) (p := p) (n := n) w.1
  rw [← e1, eg_ex_new, List.set_append_right _ _ (by rw [eg_ws_len]; exact Nat.le_refl _), eg_ws_len, Nat.sub_self] at e2
  exact e2
theorem xc_arr {cA : ClassId} {n : Nat} {f g : Nat → Int32} (e : ∀ j, j < n → f j = g j) : vp_cell cA (n, .inl f) = vp_cell cA (n, .inl g) := by
  have z : (fun j : Fin n => Value.int (f j.val)) = fun j : Fin n => Value.int (g j.val) := funext fun j => by rw [e j.val j.isLt]
  exact congrArg (fun F : Fin n → Value => ({ cls := cA, slots := Array.ofFn F, vm := .none } : Cell)) z
theorem xc_P {D : va_G} {cl : List vw_C} {ws : va_W} {H : Heap} {q : Nat} {cA : ClassId} {n : Nat} {f g : Nat → Int32} (e : ∀ j, j < n → f j = g j) (hP : va_P D cl (ws ++ [(q, .inl (cA, (n, .inl f)))]) H) : va_P D cl (ws ++ [(q, .inl (cA, (n, .inl g)))]) H := by
  intro k y hy
  by_cases hk : k < ws.length
  · rw [List.getElem?_append_left hk] at hy
    exact hP k y (by rw [List.getElem?_append_left hk]; exact hy)
  · rw [List.getElem?_append_right (by omega)] at hy
    have hz : k - ws.length < 1 := (List.getElem?_eq_some_iff.mp hy).1
    have h0 : k - ws.length = 0 := by omega
    rw [h0] at hy
    cases hy
    have h1 := hP k (q, .inl (cA, (n, .inl f))) (by rw [List.getElem?_append_right (by omega), h0]; rfl)
    have h2 : H[q]? = some (vp_cell cA (n, .inl f)) := h1
    show H[q]? = some (vp_cell cA (n, .inl g))
    rw [← xc_arr e]
    exact h2
theorem xc_D {A : Nat → Prop} {ws ws' : va_W} (e : ws.map (fun x => x.1) = ws'.map (fun x => x.1)) (hD : va_D A ws) : va_D A ws' := by
  have key : ∀ (k : Nat) (y' : Nat × va_E), ws'[k]? = some y' → ∃ y, ws[k]? = some y ∧ y.1 = y'.1 := by
    intro k y' hy'
    have e1 : (ws'.map (fun x => x.1))[k]? = some y'.1 := by rw [List.getElem?_map, hy']; rfl
    rw [← e, List.getElem?_map] at e1
    cases hk : ws[k]? with
    | none => rw [hk] at e1; cases e1
    | some y => rw [hk] at e1; exact ⟨y, rfl, Option.some.inj e1⟩
  refine ⟨fun i j x y hx hy hxy => ?_, fun k y hy => ?_⟩
  · obtain ⟨x', a1, a2⟩ := key i x hx
    obtain ⟨y', b1, b2⟩ := key j y hy
    exact hD.1 i j x' y' a1 b1 (by rw [a2, b2]; exact hxy)
  · obtain ⟨y', a1, a2⟩ := key k y hy
    rw [← a2]
    exact hD.2 k y' a1
theorem xc_at {dA : Nat → ClassId} {ad : Nat → Nat} {h : eg_H} {p : Nat} (g1 : 16 ≤ p) (g2 : (eg_kd h p).1 = 100) : (eg_ws dA ad h)[p - 16]? = some (ad p, .inl (dA 100, ((eg_kd h p).2, .inl (eg_I h p)))) := by
  have hat := eg_ws_at dA ad h g1 (eg_kd_lt (k := (eg_kd h p).1) (n := (eg_kd h p).2) rfl (by omega))
  have ek : eg_kd h p = (100, (eg_kd h p).2) := by rw [← g2]
  rw [ek, eg_ce_A (Nat.le_refl 100), eg_ar_I (by decide) (by decide)] at hat
  exact hat
theorem xc_nm {D : va_G} {dA : Nat → ClassId} {s : State} (hK : va_K D eg_cl (eg_tys dA) s) : s.vm.findClass "[I" = some (dA 100) := by
  have e0 : "[" ++ FieldType.int.toString = "[I" := by decide +kernel
  rw [← e0]
  exact (hK.2 0 (dA 100, .int) rfl).2
section RK
variable {own : String} {cc : ByteArray} {nL d : Nat} {sc : Option (Nat × (Nat → Int32) × Nat)} {nm : String} {rt : Option FieldType} {Z : eg_C → State → Prop} {N S : Nat} {h0 : eg_H} {pc : Nat} {lv : List (Nat × Value)} {st : List Value} {h : eg_H}
theorem eg_cln {p : Nat} (hd : decode cc pc = .ok (.invokevirtual 316, 3)) (g1 : 16 ≤ p) (g2 : (eg_kd h p).1 = 100) (h1 : 1 ≤ d) (h8 : (st.map fun v => v.category).sum ≤ 8)
    (kk : eg_AW (RJ7, cc, nL, d, sc, nm, rt) Z N S h0 (pc + 3) lv (.ref (eg_nc h) :: st) (eg_cp h p (eg_kd h p).2)) : eg_AW (RJ7, cc, nL, d, sc, nm, rt) Z N S h0 pc lv (.ref p :: st) h := by
  obtain ⟨⟨b1, b2⟩, b3⟩ := kk.1
  have b3 : eg_gb sc ≤ eg_gm sc := b3
  rw [xc_nc] at b1
  rw [xc_ns] at b2
  refine ⟨⟨⟨by omega, by omega⟩, b3⟩, fun X hX => ?_⟩
  have k2 := kk.2 X hX
  obtain ⟨p', l, e, R, s, m, args, below, meth, c, A, D, dA, ad0⟩ := X
  intro ad H locs ls hl hok hr
  obtain ⟨x1, x2, x3, x4, x5, x6, x7, x8, x9, x10, x11, x12, x13, x14, x15, x16⟩ := hX
  have x8 : d ≤ R.frames := x8
  have x9 : 64 * d ≤ R.locals := x9
  have x10 : N - eg_nc h0 + eg_gm sc ≤ R.cells := x10
  have x11 : S - eg_ns h0 + 16 * eg_gm sc ≤ R.slots := x11
  show W _ _ _ _ _ _ _ _ _ _ _ _ (eg_nc h - eg_nc h0 + eg_gb sc) (eg_ns h - eg_ns h0 + 16 * eg_gb sc) _ _
  obtain ⟨r1, r2, r3, r4, r5, r6, r7, r8⟩ := hr
  have hok' := eg_o1 hok
  have hat := xc_at (dA := dA) (ad := ad) g1 g2
  refine va_clone (own := RJ7) (ad := "[I") x1 x2 (x3.trans hl.1.symm) x4 (x5 _ xw_650) (x5 _ xw_651) (x5 _ xw_652) (x5 _ xw_653) (x5 _ xw_654) x12.2.2.2.2.2.2.2 x6 r1 r2 r3 x7 (p - 16) 0 hat rfl (xc_nm x6) (fun i v hv => ?_) (by omega) (eg_mlo h1 h8 x9 (by omega)) (by omega) (by show _ + (eg_kd h p).2 ≤ _; omega) hd (fun q H1 hK1 hP1 hD1 hS1 => ?_)
  · rw [vp_cell_i] at hv
    by_cases hi : i < (eg_kd h p).2
    · rw [arrV_read _ _ hi] at hv; cases hv; rfl
    · rw [Array.getElem?_eq_none (by rw [arrV_size]; omega)] at hv; cases hv
  have hP2 := xc_P (g := eg_I (eg_cp h p (eg_kd h p).2) (eg_nc h)) (fun j hj => by rw [xc_I]; exact (if_pos ⟨hj, hj⟩).symm) hP1
  have hD2 := xc_D (ws' := eg_ws dA ad h ++ [(q, .inl (dA 100, ((eg_kd h p).2, .inl (eg_I (eg_cp h p (eg_kd h p).2) (eg_nc h)))))]) (by rw [List.map_append, List.map_append]; rfl) hD1
  rw [xc_ws r4] at hP2 hD2
  have hc : eg_nc h - eg_nc h0 + eg_gb sc + 1 = eg_nc (eg_cp h p (eg_kd h p).2) - eg_nc h0 + eg_gb sc := by rw [xc_nc]; omega
  have hs : eg_ns h - eg_ns h0 + 16 * eg_gb sc + (eg_kd h p).2 = eg_ns (eg_cp h p (eg_kd h p).2) - eg_ns h0 + 16 * eg_gb sc := by rw [xc_ns]; omega
  show W _ _ _ _ _ _ _ _ _ _ _ _ (eg_nc h - eg_nc h0 + eg_gb sc + 1) (eg_ns h - eg_ns h0 + 16 * eg_gb sc + (eg_kd h p).2) _ _
  rw [hc, hs]
  have go := k2 (eg_ex ad (eg_nc h) q) H1 locs ls (by rw [eg_lm_ad eg_ex_old hok']; exact hl) (by rw [xc_nc]; exact eg_oc (eg_ok_le (Nat.le_succ _) hok') (eg_vr (Nat.lt_succ_self _))) ⟨hP2, hD2, hS1, xc_wf r4 _ _, fun k hk => by rw [eg_ex_old k (by omega)]; exact r5 k hk, by rw [xc_nc]; omega, by rw [xc_ns]; omega, r8⟩
  rw [List.map_cons, eg_sm_ad eg_ex_old hok'] at go
  have e9 : eg_cv (eg_ex ad (eg_nc h) q) (.ref (eg_nc h)) = .ref q := congrArg Value.ref eg_ex_new
  rw [e9] at go
  exact go
theorem eg_castI {p : Nat} (hd : decode cc pc = .ok (.checkcast 317, 3)) (g1 : 16 ≤ p) (g2 : (eg_kd h p).1 = 100)
    (kk : eg_AW (RJ7, cc, nL, d, sc, nm, rt) Z N S h0 (pc + 3) lv (.ref p :: st) h) : eg_AW (RJ7, cc, nL, d, sc, nm, rt) Z N S h0 pc lv (.ref p :: st) h :=
  eg_gen kk rfl rfl (fun w _ => w) (fun _ w => w) (fun {p' l e R s m args below meth cd H locs cells slots Q ls A D dA} ad hx hb hown hts hK hP hD hS hnm hXt k1 =>
    va_castA hx hb hown (hts _ xw_656) hP (p - 16) (xc_at g1 g2) (xc_nm hK) hd (k1 H locs hP hD hS))
theorem eg_cpy {p n : Nat} {k : Int32} (hd : decode cc pc = .ok (.invokestatic 150, 3)) (g1 : 16 ≤ p) (g2 : (eg_kd h p).1 = 100) (gk : k.toNatClampNeg = min n (eg_kd h p).2) (gk0 : ¬ k < 0) (h1 : 1 ≤ d) (h8 : (st.map fun v => v.category).sum ≤ 8)
    (kk : eg_AW (RJ7, cc, nL, d, sc, nm, rt) Z N S h0 (pc + 3) lv st (eg_cp h p n)) : eg_AW (RJ7, cc, nL, d, sc, nm, rt) Z N S h0 pc lv (.int k :: .int 0 :: .ref (eg_nc h) :: .int 0 :: .ref p :: st) (eg_new h 100 n) := by
  have g0 : p < eg_nc h := eg_kd_lt (k := (eg_kd h p).1) (n := (eg_kd h p).2) rfl (by omega)
  refine ⟨kk.1, fun X hX => ?_⟩
  have k2 := kk.2 X hX
  obtain ⟨p', l, e, R, s, m, args, below, meth, c, A, D, dA, ad0⟩ := X
  intro ad H locs ls hl hok hr
  obtain ⟨x1, x2, x3, x4, x5, x6, x7, x8, x9, x10, x11, x12, x13, x14, x15, x16⟩ := hX
  have x8 : d ≤ R.frames := x8
  have x9 : 64 * d ≤ R.locals := x9
  obtain ⟨r1, r2, r3, r4, r5, r6, r7, r8⟩ := hr
  have kdo : eg_kd (eg_new h 100 n) p = eg_kd h p := eg_kd_new_old g0
  have kdn := eg_kd_new h 100 n
  have hat0 := xc_at (dA := dA) (ad := ad) (h := eg_new h 100 n) g1 (by rw [kdo]; exact g2)
  have hat1 := xc_at (dA := dA) (ad := ad) (h := eg_new h 100 n) (p := eg_nc h) (by omega) (by rw [kdn])
  have hIp : eg_I (eg_new h 100 n) p = eg_I h p := by
    show (if p = h.1.length then _ else h.2.1 p) = _
    have g9 : p < h.1.length := g0
    exact if_neg (by omega)
  rw [kdo, hIp] at hat0
  rw [kdn, eg_I_new] at hat1
  have z0 : (0 : Int32).toNatClampNeg = 0 := by decide
  have z1 : nativeFrameWords "java/lang/System" "arraycopy" 5 = 7 := by decide +kernel
  have hcp : va_cpy (eg_I h p) (fun _ => 0) (0 : Int32).toNatClampNeg (0 : Int32).toNatClampNeg k.toNatClampNeg = eg_I (eg_cp h p n) (eg_nc h) := by
    rw [xc_I, z0, gk]
    funext j
    unfold va_cpy
    by_cases c1 : j < n ∧ j < (eg_kd h p).2
    · rw [if_pos c1, if_pos ⟨Nat.zero_le _, by omega⟩, Nat.zero_add, Nat.sub_zero]
    · rw [if_neg c1, if_neg (by omega)]
  refine va_copyi (own := RJ7) (sp := 0) (dp := 0) (n := k) x1 x2 (x3.trans hl.1.symm) x4 (x5 _ xw_660) (x5 _ xw_662) (x5 _ xw_661) (x5 _ xw_118) x6 r1 r2 r3 (p - 16) (eg_nc h - 16) 0 0 hat0 hat1 rfl rfl rfl (by decide) (by decide) gk0 (by rw [z0, gk]; omega) (by rw [z0, gk]; show 0 + min n (eg_kd h p).2 ≤ n; omega) (fun i _ => rfl) (by omega) (by rw [z1]; exact eg_mlo h1 h8 x9 (by omega)) hd (fun H1 locs1 q1 q2 q3 => ?_)
  have hset := xc_set (dA := dA) (ad := ad) (h := h) (p := p) (n := n) (by omega)
  rw [hcp] at q1 q2
  have q1 := hset ▸ q1
  have q2 := hset ▸ q2
  exact k2 ad H1 locs1 ls hl (eg_o1 (eg_o1 (eg_o1 (eg_o1 (eg_o1 hok))))) ⟨q1, q2, q3, r4, r5, r6, r7, r8⟩
end RK
theorem mJ7_copyOf_59c91 {h : eg_H} {l0 : Nat} {l1 : Int32} {r9 : Nat} {h9 : eg_H} (hF : fJ7_copyOf_59c91 h l0 l1 = some (r9, h9)) : eg_Met yJ7_copyOf_59c91 cJ7_copyOf_59c91 3 (some (.array .int)) 1 [.ref l0, .int l1] h (some (.ref r9)) h9 := by
  unfold fJ7_copyOf_59c91 at hF
  obtain ⟨⟨g1, g2, g3, g4, g5⟩, hF⟩ := eg_ifn hF
  cases hF
  have g0 : l0 < eg_nc h := eg_kd_lt (k := (eg_kd h l0).1) (n := (eg_kd h l0).2) rfl (by omega)
  refine eg_enter rfl (Nat.le_of_ble_eq_true rfl) ?_
  show eg_AW (RJ7, cJ7_copyOf_59c91, 3, 1, none, "copyOf", some (.array .int)) (eg_Zm (some (.ref (eg_nc h))) (eg_cp h l0 l1.toNatClampNeg) h) (eg_nc (eg_cp h l0 l1.toNatClampNeg)) (eg_ns (eg_cp h l0 l1.toNatClampNeg)) h 0 [(0, .ref l0), (1, .int l1)] [] h
  refine eg_iload_n (i := 1) 1 xdC_0 rfl rfl ?_
  refine eg_aload_n (i := 0) 0 xdC_1 rfl rfl ?_
  have ea : eg_al h l0 = some (nI (eg_kd h l0).2) := if_pos ⟨g1, Or.inl g2⟩
  refine eg_alen xdC_2 ea ?_
  refine eg_ic_ne 14 xdC_3 rfl (fun c1 => ?_) (fun c1 => ?_)
  · have en : l1.toNatClampNeg = (eg_kd h l0).2 := by rw [c1]; exact nI_clamp (by omega)
    rw [en]
    refine eg_aload_n (i := 0) 0 xdC_6 rfl rfl ?_
    refine eg_cln xdC_7 g1 g2 (Nat.le_refl 1) (Nat.le_of_ble_eq_true rfl) ?_
    refine eg_castI xdC_10 (by omega) (by show (eg_kd (eg_new h 100 (eg_kd h l0).2) (eg_nc h)).1 = 100; rw [eg_kd_new]) ?_
    exact eg_aretR xdC_13 (Or.inr ⟨_, rfl⟩) rfl
  · have t1 : l1.toInt = (l1.toNatClampNeg : Int) := xs_nn l1 g3
    have t2 : (nI (eg_kd h l0).2).toInt = ((eg_kd h l0).2 : Int) := nI_toInt (by omega)
    have ena : eg_na h 100 l1 = some (eg_new h 100 l1.toNatClampNeg) := if_pos ⟨g3, g4⟩
    have eb : eg_al (eg_new h 100 l1.toNatClampNeg) l0 = some (nI (eg_kd h l0).2) := by
      unfold eg_al
      rw [eg_kd_new_old g0, if_pos ⟨g1, Or.inl g2⟩]
    have hk : (eg_minI (nI (eg_kd h l0).2) l1).toNatClampNeg = min l1.toNatClampNeg (eg_kd h l0).2 := by
      unfold eg_minI
      by_cases q : l1 < nI (eg_kd h l0).2
      · have q' := Int32.lt_iff_toInt_lt.mp q
        rw [t1, t2] at q'
        rw [if_pos q]
        omega
      · have q' : ¬ l1.toInt < (nI (eg_kd h l0).2).toInt := fun z => q (Int32.lt_iff_toInt_lt.mpr z)
        rw [t1, t2] at q'
        rw [if_neg q, nI_clamp (by omega)]
        omega
    have hk0 : ¬ eg_minI (nI (eg_kd h l0).2) l1 < 0 := by
      unfold eg_minI
      by_cases q : l1 < nI (eg_kd h l0).2
      · rw [if_pos q]; exact g3
      · rw [if_neg q]; exact nI_pos (by omega)
    refine eg_iload_n (i := 1) 1 xdC_14 rfl rfl ?_
    refine eg_newa .int xdC_15 ena 0 (Nat.le_of_ble_eq_true rfl) (Nat.le_of_ble_eq_true rfl) (Nat.le_of_ble_eq_true rfl) (fun _ => rfl) (by decide) rfl ew_156 ?_
    refine eg_astore_n (i := 2) [(2, .ref (eg_nc h)), (0, .ref l0), (1, .int l1)] xdC_17 rfl (Nat.le_of_ble_eq_true rfl) rfl ?_
    refine eg_aload_n (i := 0) 1 xdC_18 rfl rfl ?_
    refine eg_iconst (v := (0 : Int32)) xdC_19 (by decide) ?_
    refine eg_aload_n (i := 2) 0 xdC_20 rfl rfl ?_
    refine eg_iconst (v := (0 : Int32)) xdC_21 (by decide) ?_
    refine eg_aload_n (i := 0) 1 xdC_22 rfl rfl ?_
    refine eg_alen xdC_23 eb ?_
    refine eg_iload_n (i := 1) 2 xdC_24 rfl rfl ?_
    refine eg_mmin xdC_25 xw_657 (Nat.le_refl 1) (Nat.le_of_ble_eq_true rfl) ?_
    refine eg_cpy xdC_28 g1 g2 hk hk0 (Nat.le_refl 1) (Nat.le_of_ble_eq_true rfl) ?_
    refine eg_aload_n (i := 2) 0 xdC_31 rfl rfl ?_
    exact eg_aretR xdC_32 (Or.inr ⟨_, rfl⟩) rfl
def xs_Q (v : Option Value) : Array Value → State → Outcome → State → Prop := fun _ st oc t => oc = .returned v ∧ t.heap = st.heap
def xs_W (ad adV : Nat → Nat) (U : State) : Prop := vk_S 6 eg_sl eg_sB ad adV (fun _ => False) U U.heap ∧ va_Z "java/lang/String" "COMPACT_STRINGS" "Z" (.int 1) (fun _ => False) U U.heap ∧ va_Zq "jdk/internal/util/Preconditions" "SIOOBE_FORMATTER" "Ljava/util/function/BiFunction;" (fun _ => False) U U.heap
def xs_Met (y : MethodName) (cc : ByteArray) (nL : Nat) (rt : Option FieldType) (d : Nat) (av : List Value) (ad adV : Nat → Nat) (v : Option Value) : Prop := ∀ l : Launch, Met l y (.code y cc nL rt :: eg_G) (eg_rm d 0 0) (va_Pc av (xs_W ad adV)) (xs_Q v) 0 0 (fun _ => False)
theorem xs_blind {av : List Value} {ad adV : Nat → Nat} : FrameBlind (va_Pc av (xs_W ad adV)) := by
  intro a U g mk q
  obtain ⟨q0, q1, q2, q3⟩ := q
  exact ⟨q0, vk_S.moved (u := U) (U := U.calling g mk a) (Vm.Alike.refl U.vm) q1, va_Z.moved (u := U) (U := U.calling g mk a) (Vm.Alike.refl U.vm) q2, va_Zq.moved (u := U) (U := U.calling g mk a) (Vm.Alike.refl U.vm) q3⟩
theorem xs_mv {ad adV : Nat → Nat} {s U : State} (h : xs_W ad adV s) (hU : U.heap = s.heap) (hW : s.WarmedH U.vm) : xs_W ad adV U :=
  ⟨by rw [hU]; exact vk_S.moved hW.alike h.1, by rw [hU]; exact va_Z.moved hW.alike h.2.1, by rw [hU]; exact va_Zq.moved hW.alike h.2.2⟩
theorem xs_enter {y : MethodName} {cc : ByteArray} {nL d : Nat} {rt : Option FieldType} {av : List Value} {ad adV : Nat → Nat} {v : Option Value} (hpl : plainName y.cls = true) (hsl : (lg_sl av).length ≤ nL)
    (k : ∀ {p : Program} {l : Launch} {e : Env} {s : State} {m : MethodId} {args : Array Value} {below : List Frame} {meth : Method} {c : Code} {ls : Array Slot}, CallFix p m c cc nL s args eg_G y.cls → xs_W ad adV s → meth.sig.returnType = rt → meth.locks = false → lv_has ls nL (lv_args 0 av) → W p l e (eg_rm d 0 0) s m args below meth c s.heap [] 0 0 (MQ below (xs_Q v) args s 0 0 (fun _ => False)) (F0 m 0 ls [])) : xs_Met y cc nL rt d av ad adV v := by
  intro l
  refine Met.ofW (cc := cc) (maxL := nL) (ret := rt) hpl rfl ?_
  intro p e s m args below meth c s₁ B hml hv
  obtain ⟨rfl, hw⟩ := hv
  have hts := atoms_spec (ws := .code y cc nL rt :: eg_G) B.pre
  have hown : s.vm.findClass y.cls = some m.cls := findClass_of_methodNamed B.named
  have hl := lv_entry av (n := nL) hsl
  rw [lg_entry_eq]
  exact k ⟨B.exec, B.bytes, hml, hown, fun w hw => hts w (List.mem_cons_of_mem _ hw)⟩ hw B.returns B.notSynchronized hl
section XS
variable {p : Program} {l : Launch} {e : Env} {R : Room} {s : State} {m : MethodId} {args : Array Value} {below : List Frame} {meth : Method} {c : Code} {H : Heap} {locs : List Loc} {cells slots : Nat} {Q : State → Prop}
variable {pc : Nat} {ls : Array Slot} {rest st0 As : List Value} {own : String} {cc bytes : ByteArray} {nL maxL idx dc n : Nat} {y : MethodName} {rtc : Option FieldType} {ad adV : Nat → Nat} {v : Option Value}
theorem xs_go {a : Array Value} (hr : va_Run p l e R s m args below meth c H locs cells slots 0 0 (F0 m pc ls st0) rest (xs_Q v a) (fun _ => False))
    (kk : W p l e R s m args below meth c H locs cells slots Q (F0 m (pc + 3) ls (v.toList ++ rest))) : W p l e R s m args below meth c H locs cells slots Q (F0 m pc ls st0) := by
  intro T hT X
  obtain ⟨v', st₀, t, T', L, h0, X', hL, e1, e2, ⟨hv, hh⟩, st⟩ := hr T hT X
  cases hv
  obtain ⟨t2, a1, b1⟩ := kk T' (by rw [e1, hh, h0]) (Stand.forget X' (fun q h => (hL q h).elim))
  exact ⟨t2, st t2 a1, b1⟩
theorem xs_callS (S0 : CallFix p m c cc nL s args eg_G own) (hM : xs_Met y bytes maxL rtc dc As ad adV v) (hX : ∀ U : State, U.heap = H → s.WarmedH U.vm → xs_W ad adV U) (hd : decode cc pc = .ok (.invokestatic idx, 3))
    (w1 : Cond.methodLink own idx y ∈ eg_G) (w2 : Cond.static y ∈ eg_G) (w4 : Cond.initialized y.cls ∈ eg_G) (w5 : Cond.code y bytes maxL rtc ∈ eg_G) (hy : y.cls ≠ "java/lang/invoke/MethodHandle" ∧ y.cls ≠ "java/lang/invoke/VarHandle" ∧ (parseMethodDescriptor y.desc).map (fun d => d.parameters.length) = some n) (hn : As.length = n)
    (hf : dc + 1 ≤ R.frames) (hlo : 64 * (dc + 1) ≤ R.locals) (hml : maxL ≤ 45) (hls : ls.size = nL) (hst : (rest.map fun v => v.category).sum ≤ 8) (hc : cells ≤ R.cells) (hs : slots ≤ R.slots) (he : st0 = As.reverse ++ rest)
    (kk : W p l e R s m args below meth c H locs cells slots Q (F0 m (pc + 3) ls (v.toList ++ rest))) : W p l e R s m args below meth c H locs cells slots Q (F0 m pc ls st0) := by
  subst he
  have hG : GoodIn eg_G (va_wsS own idx y (.code y bytes maxL rtc :: eg_G)) := eg_gds (ws := [.methodLink own idx y, .static y, .initialized y.cls]) w5 (fun w hw => by
    simp only [List.mem_cons, List.not_mem_nil, or_false] at hw
    rcases hw with rfl | rfl | rfl
    · exact w1
    · exact w2
    · exact w4)
  exact xs_go (va_runS (As := As) (rest := rest) S0 (hM l) (va_cwS n S0.2.2.2.2 hG rfl rfl rfl hy ⟨by show dc + 1 ≤ R.frames; omega, by show 8 + (maxL + 11) + 64 * dc ≤ R.locals; omega⟩) ⟨xs_blind, fun U hU hW => ⟨rfl, hX U hU hW⟩⟩ rfl hn hls rfl (lv_room hst) hd ⟨hc, hs⟩) kk
theorem xs_callV {b : Nat} (S0 : CallFix p m c cc nL s args eg_G own) (hM : xs_Met y bytes maxL rtc dc (.ref b :: As) ad adV v) (hX : ∀ U : State, U.heap = H → s.WarmedH U.vm → xs_W ad adV U) (hrec : ∃ cellB : Cell, H[b]? = some cellB ∧ cellB.vm.isStatics = false ∧ s.vm.findClass y.cls = some cellB.cls) (hd : decode cc pc = .ok (.invokevirtual idx, 3))
    (w1 : Cond.methodLink own idx y ∈ eg_G) (w2 : Cond.instanceMethod y ∈ eg_G) (w3 : Cond.selects y.cls y y ∈ eg_G) (w4 : Cond.initialized y.cls ∈ eg_G) (w5 : Cond.code y bytes maxL rtc ∈ eg_G) (hy : y.cls ≠ "java/lang/invoke/MethodHandle" ∧ y.cls ≠ "java/lang/invoke/VarHandle" ∧ (parseMethodDescriptor y.desc).map (fun d => d.parameters.length) = some n) (hn : As.length = n)
    (hf : dc + 1 ≤ R.frames) (hlo : 64 * (dc + 1) ≤ R.locals) (hml : maxL ≤ 45) (hls : ls.size = nL) (hst : (rest.map fun v => v.category).sum ≤ 8) (hc : cells ≤ R.cells) (hs : slots ≤ R.slots) (he : st0 = As.reverse ++ .ref b :: rest)
    (kk : W p l e R s m args below meth c H locs cells slots Q (F0 m (pc + 3) ls (v.toList ++ rest))) : W p l e R s m args below meth c H locs cells slots Q (F0 m pc ls st0) := by
  subst he
  have hG : GoodIn eg_G (wsV own idx y.cls y (.code y bytes maxL rtc :: eg_G)) := eg_gds (ws := [.methodLink own idx y, .instanceMethod y, .selects y.cls y y, .initialized y.cls]) w5 (fun w hw => by
    simp only [List.mem_cons, List.not_mem_nil, or_false] at hw
    rcases hw with rfl | rfl | rfl | rfl
    · exact w1
    · exact w2
    · exact w3
    · exact w4)
  exact xs_go (va_runV (As := As) (rest := rest) (b := b) (C := y.cls) S0 (hM l) (cwV n S0.2.2.2.2 hG rfl rfl rfl ⟨rfl, hy⟩ ⟨by show dc + 1 ≤ R.frames; omega, by show 8 + (maxL + 11) + 64 * dc ≤ R.locals; omega⟩) ⟨xs_blind, hrec, fun U hU hW => ⟨rfl, hX U hU hW⟩⟩ rfl hn hls rfl (lv_room hst) hd ⟨hc, hs⟩) kk
end XS
theorem hy_xCod : xs_yCod.cls ≠ "java/lang/invoke/MethodHandle" ∧ xs_yCod.cls ≠ "java/lang/invoke/VarHandle" ∧ (parseMethodDescriptor xs_yCod.desc).map (fun d => d.parameters.length) = some 0 := by decide +kernel
theorem hy_xLat : xs_yLat.cls ≠ "java/lang/invoke/MethodHandle" ∧ xs_yLat.cls ≠ "java/lang/invoke/VarHandle" ∧ (parseMethodDescriptor xs_yLat.desc).map (fun d => d.parameters.length) = some 0 := by decide +kernel
theorem hy_xLen : xs_yLen.cls ≠ "java/lang/invoke/MethodHandle" ∧ xs_yLen.cls ≠ "java/lang/invoke/VarHandle" ∧ (parseMethodDescriptor xs_yLen.desc).map (fun d => d.parameters.length) = some 0 := by decide +kernel
theorem hy_xAt : xs_yAt.cls ≠ "java/lang/invoke/MethodHandle" ∧ xs_yAt.cls ≠ "java/lang/invoke/VarHandle" ∧ (parseMethodDescriptor xs_yAt.desc).map (fun d => d.parameters.length) = some 1 := by decide +kernel
theorem hy_xOne : xs_yOne.cls ≠ "java/lang/invoke/MethodHandle" ∧ xs_yOne.cls ≠ "java/lang/invoke/VarHandle" ∧ (parseMethodDescriptor xs_yOne.desc).map (fun d => d.parameters.length) = some 2 := by decide +kernel
theorem hy_xChk : xs_yChk.cls ≠ "java/lang/invoke/MethodHandle" ∧ xs_yChk.cls ≠ "java/lang/invoke/VarHandle" ∧ (parseMethodDescriptor xs_yChk.desc).map (fun d => d.parameters.length) = some 2 := by decide +kernel
theorem hy_xPre : xs_yPre.cls ≠ "java/lang/invoke/MethodHandle" ∧ xs_yPre.cls ≠ "java/lang/invoke/VarHandle" ∧ (parseMethodDescriptor xs_yPre.desc).map (fun d => d.parameters.length) = some 3 := by decide +kernel
theorem xs_cod {ad adV : Nat → Nat} {i : Nat} (hi : i < 6) : xs_Met xs_yCod prog_24_method_152_code 1 (some .byte) 0 [.ref (ad i)] ad adV (some (.int 0)) := by
  refine xs_enter (by decide +kernel) (Nat.le_of_ble_eq_true rfl) (fun S0 hw hr hlk hl => ?_)
  refine va_gets (own := "java/lang/String") S0.1 S0.2.1 hw.2.1 va_S.rf S0.2.2.2.1 (S0.2.2.2.2 _ xw_1734) (fun _ q => q) xdCod_0 ?_
  refine lv_if_eq S0.1 S0.2.1 (tgt := 13) xdCod_3 rfl (fun z => absurd z (by decide)) (fun _ => ?_)
  refine lv_aload_n S0.1 S0.2.1 (i := 0) xdCod_6 rfl (lv_at hl 0 rfl) ?_
  refine vk_getf (own := "java/lang/String") S0.1 S0.2.1 (hw.1.1 i hi).2.1 va_S.rf S0.2.2.2.1 (S0.2.2.2.2 _ xw_2221) (fun _ q => q) xdCod_7 ?_
  refine lv_goto S0.1 S0.2.1 (tgt := 14) xdCod_10 rfl ?_
  exact W.zret S0.1 S0.2.1 hr rfl (fun t ht _ => ⟨rfl, ht⟩) (fun q hq => by cases hq) xdCod_14 hlk
theorem xs_lat {ad adV : Nat → Nat} {i : Nat} (hi : i < 6) : xs_Met xs_yLat prog_24_method_154_code 1 (some .boolean) 0 [.ref (ad i)] ad adV (some (.int 1)) := by
  refine xs_enter (by decide +kernel) (Nat.le_of_ble_eq_true rfl) (fun S0 hw hr hlk hl => ?_)
  refine va_gets (own := "java/lang/String") S0.1 S0.2.1 hw.2.1 va_S.rf S0.2.2.2.1 (S0.2.2.2.2 _ xw_1734) (fun _ q => q) xdLat_0 ?_
  refine lv_if_eq S0.1 S0.2.1 (tgt := 17) xdLat_3 rfl (fun z => absurd z (by decide)) (fun _ => ?_)
  refine lv_aload_n S0.1 S0.2.1 (i := 0) xdLat_6 rfl (lv_at hl 0 rfl) ?_
  refine vk_getf (own := "java/lang/String") S0.1 S0.2.1 (hw.1.1 i hi).2.1 va_S.rf S0.2.2.2.1 (S0.2.2.2.2 _ xw_2221) (fun _ q => q) xdLat_7 ?_
  refine lv_if_ne S0.1 S0.2.1 (tgt := 17) xdLat_10 rfl (fun z => absurd rfl z) (fun _ => ?_)
  refine lv_iconst (v := (1 : Int32)) S0.1 S0.2.1 xdLat_13 (by decide) ?_
  refine lv_goto S0.1 S0.2.1 (tgt := 18) xdLat_14 rfl ?_
  exact W.zret S0.1 S0.2.1 hr rfl (fun t ht _ => ⟨rfl, ht⟩) (fun q hq => by cases hq) xdLat_18 hlk
theorem xs_pre {ad adV : Nat → Nat} {k n : Int32} {ro : Value} (hro : ro.category = 1) (h1 : ¬ k < 0) (h2 : k < n) : xs_Met xs_yPre prog_33_method_11_code 3 (some .int) 0 [.int k, .int n, ro] ad adV (some (.int k)) := by
  refine xs_enter (by decide +kernel) (by cases ro <;> first | exact Nat.le_of_ble_eq_true rfl | cases hro) (fun S0 hw hr hlk hl => ?_)
  refine lv_iload_n S0.1 S0.2.1 (i := 0) xdPre_0 rfl (lv_at hl 0 rfl) ?_
  refine lv_if_lt S0.1 S0.2.1 (tgt := 9) xdPre_1 rfl (fun z => absurd z h1) (fun _ => ?_)
  refine lv_iload_n S0.1 S0.2.1 (i := 0) xdPre_4 rfl (lv_at hl 0 rfl) ?_
  refine lv_iload_n S0.1 S0.2.1 (i := 1) xdPre_5 rfl (lv_at hl 1 rfl) ?_
  refine lv_icmp_lt S0.1 S0.2.1 (tgt := 16) xdPre_6 rfl (fun _ => ?_) (fun z => absurd h2 z)
  refine lv_iload_n S0.1 S0.2.1 (i := 0) xdPre_16 rfl (lv_at hl 0 rfl) ?_
  exact W.iret S0.1 S0.2.1 hr (fun t ht _ => ⟨rfl, ht⟩) (fun q hq => by cases hq) xdPre_17 hlk
theorem xs_chk {ad adV : Nat → Nat} {k n : Int32} (h1 : ¬ k < 0) (h2 : k < n) : xs_Met xs_yChk prog_24_method_155_code 2 none 1 [.int k, .int n] ad adV none := by
  refine xs_enter (by decide +kernel) (Nat.le_of_ble_eq_true rfl) (fun {p l e s m args below meth c ls} S0 hw hr hlk hl => ?_)
  refine lv_iload_n S0.1 S0.2.1 (i := 0) xdChk_0 rfl (lv_at hl 0 rfl) ?_
  refine lv_iload_n S0.1 S0.2.1 (i := 1) xdChk_1 rfl (lv_at hl 1 rfl) ?_
  have go : ∀ ro : Value, ro.category = 1 → W p l e (eg_rm 1 0 0) s m args below meth c s.heap [] 0 0 (MQ below (xs_Q none) args s 0 0 (fun _ => False)) (F0 m 5 ls [ro, .int n, .int k]) := fun ro hro => by
    refine xs_callS (own := "java/lang/String") (y := xs_yPre) (As := [.int k, .int n, ro]) (rest := []) S0 (xs_pre hro h1 h2) (fun U hU hW => xs_mv hw hU hW) xdChk_5 xw_1755 xw_1756 xw_113 xw_1757 hy_xPre rfl (Nat.le_of_ble_eq_true rfl) (Nat.le_of_ble_eq_true rfl) (Nat.le_of_ble_eq_true rfl) hl.1 (Nat.le_of_ble_eq_true rfl) (Nat.le_refl 0) (Nat.le_refl 0) rfl ?_
    refine lv_pop S0.1 S0.2.1 xdChk_8 rfl ?_
    exact W.vret S0.1 S0.2.1 hr (fun t ht _ => ⟨rfl, ht⟩) (fun q hq => by cases hq) xdChk_9 hlk
  rcases hw.2.2 with z | ⟨t, z⟩
  · exact va_gets (own := "java/lang/String") S0.1 S0.2.1 z va_S.rf S0.2.2.2.1 (S0.2.2.2.2 _ xw_1753) (fun _ q => q) xdChk_2 (go .null rfl)
  · exact va_gets (own := "java/lang/String") S0.1 S0.2.1 z va_S.rf S0.2.2.2.1 (S0.2.2.2.2 _ xw_1753) (fun _ q => q) xdChk_2 (go (.ref t) rfl)
theorem xs_c8 : ∀ i, i < 6 → ∀ k, k < 32 → (((eg_sB.getD i []).getD k 0 &&& 255).toUInt32 % 65536).toInt32 = (eg_sB.getD i []).getD k 0 ∧ ((eg_sB.getD i []).getD k 0).toUInt32.toUInt16.toUInt32.toInt32 = (eg_sB.getD i []).getD k 0 := by decide +kernel
theorem xs_l8 : ∀ i, i < 6 → eg_sl.getD i 0 < 32 ∧ eg_sl.getD i 0 = (eg_sb i).length ∧ eg_sB.getD i [] = eg_sb i ∧ Int32.ofNat (eg_sl.getD i 0) >>> ((0 : Int32) &&& 31) = nI (eg_sb i).length := by decide +kernel
theorem xs_one {ad adV : Nat → Nat} {i : Nat} {k : Int32} (hi : i < 6) (h1 : ¬ k < 0) (h2 : k.toNatClampNeg < eg_sl.getD i 0) : xs_Met xs_yOne prog_25_method_2_code 2 (some .char) 2 [.ref (adV i), .int k] ad adV (some (.int ((eg_sB.getD i []).getD k.toNatClampNeg 0))) := by
  have l8 := (xs_l8 i hi).1
  obtain ⟨c8, c9⟩ := xs_c8 i hi k.toNatClampNeg (by omega)
  have hlt : k < nI (eg_sl.getD i 0) := Int32.lt_iff_toInt_lt.mpr (by rw [xs_nn k h1, nI_toInt (by omega)]; omega)
  refine xs_enter (by decide +kernel) (Nat.le_of_ble_eq_true rfl) (fun S0 hw hr hlk hl => ?_)
  refine lv_iload_n S0.1 S0.2.1 (i := 1) xdOne_0 rfl (lv_at hl 1 rfl) ?_
  refine lv_aload_n S0.1 S0.2.1 (i := 0) xdOne_1 rfl (lv_at hl 0 rfl) ?_
  refine va_tlen S0.1 S0.2.1 (hw.1.1 i hi).2.2.2 va_S.rf (v := nI (eg_sl.getD i 0)) rfl xdOne_2 ?_
  refine xs_callS (own := "java/lang/StringLatin1") (y := xs_yChk) (As := [.int k, .int (nI (eg_sl.getD i 0))]) (rest := []) S0 (xs_chk h1 hlt) (fun U hU hW => xs_mv hw hU hW) xdOne_3 xw_1750 xw_1751 xw_111 xw_1752 hy_xChk rfl (Nat.le_of_ble_eq_true rfl) (Nat.le_of_ble_eq_true rfl) (Nat.le_of_ble_eq_true rfl) hl.1 (Nat.le_of_ble_eq_true rfl) (Nat.le_refl 0) (Nat.le_refl 0) rfl ?_
  refine lv_aload_n S0.1 S0.2.1 (i := 0) xdOne_6 rfl (lv_at hl 0 rfl) ?_
  refine lv_iload_n S0.1 S0.2.1 (i := 1) xdOne_7 rfl (lv_at hl 1 rfl) ?_
  refine va_tb S0.1 S0.2.1 (hw.1.1 i hi).2.2.2 va_S.rf (eg_in_of h1 h2) rfl xdOne_8 ?_
  refine lv_sipush (v := (255 : Int32)) S0.1 S0.2.1 xdOne_9 (by decide) ?_
  refine lv_iand S0.1 S0.2.1 xdOne_12 ?_
  refine lv_i2c S0.1 S0.2.1 xdOne_13 c8 ?_
  exact W.zret S0.1 S0.2.1 hr (congrArg Value.int c9) (fun t ht _ => ⟨rfl, ht⟩) (fun q hq => by cases hq) xdOne_14 hlk
theorem xs_at {ad adV : Nat → Nat} {i : Nat} {k : Int32} (hi : i < 6) (h1 : ¬ k < 0) (h2 : k.toNatClampNeg < eg_sl.getD i 0) : xs_Met xs_yAt prog_24_method_56_code 2 (some .char) 3 [.ref (ad i), .int k] ad adV (some (.int ((eg_sB.getD i []).getD k.toNatClampNeg 0))) := by
  have l8 := (xs_l8 i hi).1
  obtain ⟨c8, c9⟩ := xs_c8 i hi k.toNatClampNeg (by omega)
  refine xs_enter (by decide +kernel) (Nat.le_of_ble_eq_true rfl) (fun S0 hw hr hlk hl => ?_)
  refine lv_aload_n S0.1 S0.2.1 (i := 0) xdAt_0 rfl (lv_at hl 0 rfl) ?_
  refine xs_callV (own := "java/lang/String") (y := xs_yLat) (As := []) (rest := []) (b := ad i) S0 (xs_lat hi) (fun U hU hW => xs_mv hw hU hW) (vk_recv hw.1 hi va_S.rf) xdAt_1 xw_1743 xw_1744 xw_1745 xw_111 xw_1746 hy_xLat rfl (Nat.le_of_ble_eq_true rfl) (Nat.le_of_ble_eq_true rfl) (Nat.le_of_ble_eq_true rfl) hl.1 (Nat.le_of_ble_eq_true rfl) (Nat.le_refl 0) (Nat.le_refl 0) rfl ?_
  refine lv_if_eq S0.1 S0.2.1 (tgt := 16) xdAt_4 rfl (fun z => absurd z (by decide)) (fun _ => ?_)
  refine lv_aload_n S0.1 S0.2.1 (i := 0) xdAt_7 rfl (lv_at hl 0 rfl) ?_
  refine vk_getf (own := "java/lang/String") S0.1 S0.2.1 (hw.1.1 i hi).2.2.1 va_S.rf S0.2.2.2.1 (S0.2.2.2.2 _ xw_2220) (fun _ q => q) xdAt_8 ?_
  refine lv_iload_n S0.1 S0.2.1 (i := 1) xdAt_11 rfl (lv_at hl 1 rfl) ?_
  refine xs_callS (own := "java/lang/String") (y := xs_yOne) (As := [.ref (adV i), .int k]) (rest := []) S0 (xs_one hi h1 h2) (fun U hU hW => xs_mv hw hU hW) xdAt_12 xw_1747 xw_1748 xw_112 xw_1749 hy_xOne rfl (Nat.le_of_ble_eq_true rfl) (Nat.le_of_ble_eq_true rfl) (Nat.le_of_ble_eq_true rfl) hl.1 (Nat.le_of_ble_eq_true rfl) (Nat.le_refl 0) (Nat.le_refl 0) rfl ?_
  exact W.zret S0.1 S0.2.1 hr (congrArg Value.int c9) (fun t ht _ => ⟨rfl, ht⟩) (fun q hq => by cases hq) xdAt_15 hlk
theorem xs_len {ad adV : Nat → Nat} {i : Nat} (hi : i < 6) : xs_Met xs_yLen prog_24_method_54_code 1 (some .int) 1 [.ref (ad i)] ad adV (some (.int (nI (eg_sb i).length))) := by
  rw [← (xs_l8 i hi).2.2.2]
  refine xs_enter (by decide +kernel) (Nat.le_of_ble_eq_true rfl) (fun S0 hw hr hlk hl => ?_)
  refine lv_aload_n S0.1 S0.2.1 (i := 0) xdLen_0 rfl (lv_at hl 0 rfl) ?_
  refine vk_getf (own := "java/lang/String") S0.1 S0.2.1 (hw.1.1 i hi).2.2.1 va_S.rf S0.2.2.2.1 (S0.2.2.2.2 _ xw_2220) (fun _ q => q) xdLen_1 ?_
  refine va_tlen S0.1 S0.2.1 (hw.1.1 i hi).2.2.2 va_S.rf (v := Int32.ofNat (eg_sl.getD i 0)) rfl xdLen_4 ?_
  refine lv_aload_n S0.1 S0.2.1 (i := 0) xdLen_5 rfl (lv_at hl 0 rfl) ?_
  refine xs_callV (own := "java/lang/String") (y := xs_yCod) (As := []) (rest := [.int (Int32.ofNat (eg_sl.getD i 0))]) (b := ad i) S0 (xs_cod hi) (fun U hU hW => xs_mv hw hU hW) (vk_recv hw.1 hi va_S.rf) xdLen_6 xw_1730 xw_1731 xw_1732 xw_111 xw_1733 hy_xCod rfl (Nat.le_of_ble_eq_true rfl) (Nat.le_of_ble_eq_true rfl) (Nat.le_of_ble_eq_true rfl) hl.1 (Nat.le_of_ble_eq_true rfl) (Nat.le_refl 0) (Nat.le_refl 0) rfl ?_
  refine lv_ishr S0.1 S0.2.1 xdLen_9 ?_
  exact W.iret S0.1 S0.2.1 hr (fun t ht _ => ⟨rfl, ht⟩) (fun q hq => by cases hq) xdLen_10 hlk
theorem xs_Xt {ad adV : Nat → Nat} {A : Nat → Prop} {s : State} {H : Heap} {locs : List Loc} (hXt : eg_Xt ad A s s.heap) (hV : vk_S 6 eg_sl eg_sB (fun i => ad (i + 5)) adV A s s.heap) (hS : va_S A s.heap H locs) : ∀ U : State, U.heap = H → s.WarmedH U.vm → xs_W (fun i => ad (i + 5)) adV U := fun U hU hW =>
  ⟨by rw [hU]; exact vk_S.moved hW.alike ((hV.kept hS.2.1).narrow (fun _ q => q.elim)), by rw [hU]; exact va_Z.moved hW.alike ((hXt.2.2.2.2.2.1.kept hS.2.1).narrow (fun _ q => q.elim)), by rw [hU]; exact va_Zq.moved hW.alike ((hXt.2.2.2.2.2.2.1.kept hS.2.1).narrow (fun _ q => q.elim))⟩
section RS
variable {own : String} {cc : ByteArray} {nL d : Nat} {sc : Option (Nat × (Nat → Int32) × Nat)} {nm : String} {rt : Option FieldType} {Z : eg_C → State → Prop} {N S : Nat} {h0 : eg_H} {pc : Nat} {lv : List (Nat × Value)} {st : List Value} {h : eg_H}
theorem eg_WldcSw {p : Program} {l : Launch} {e : Env} {R : Room} {s : State} {m : MethodId} {args : Array Value} {below : List Frame} {meth : Method} {c : Code} {H : Heap} {locs : List Loc} {cells slots : Nat} {Q : State → Prop} {ls : Array Slot} {rest : List Value} (hexec : p.tables.exec = Jvm.exec) (hb : c.code = cc) {tx : String} {index q : Nat} (hown : s.vm.findClass own = some m.cls) (hZ : vk_R own index tx q s) (hdg : decode cc pc = .ok (.ldc_w index, 3))
    (k : W p l e R s m args below meth c H locs cells slots Q (F0 m (pc + 3) ls (.ref q :: rest))) : W p l e R s m args below meth c H locs cells slots Q (F0 m pc ls rest) := by
  intro T hT X
  obtain ⟨t, a1, b1⟩ := k T hT X
  obtain ⟨kc, cf, i, a', hk, hcf, hcp, -, hr, hev'⟩ := Cond.stringRef_spec (args := #[]) hown hZ.1
  cases hZ.2.symm.trans hev'
  obtain ⟨k', hk', he⟩ := X.warmed.alike.2.2 _ _ hk
  have hr' : k'.resolved[index]? = some (some (.string q)) := by
    rcases X.warmed.entry hk hk' index with h | ⟨h, -⟩
    · rw [h]; exact hr
    · rw [hr] at h; cases h
  have hdg' : decode c.code pc = .ok (.ldc_w index, 3) := by rw [hb]; exact hdg
  refine ⟨t, ?_, b1⟩
  jvm_step X.here [hexec, hdg', ldc_w.wp_string (e := e) (s := T) (f := F0 m pc ls rest) X.here.top hk' (by rw [he]; exact hcf) hcp hr']
  exact a1
theorem eg_ldcSw {i idx : Nat} (hd : decode cc pc = .ok (.ldc_w idx, 3)) (hi : i < 6) (ho : own = eg_so i) (hx0 : idx = eg_sx i)
    (k : eg_AW (own, cc, nL, d, sc, nm, rt) Z N S h0 (pc + 3) lv (.ref (i + 5) :: st) h) : eg_AW (own, cc, nL, d, sc, nm, rt) Z N S h0 pc lv st h :=
  eg_bi k (fun w wf => eg_oc w (eg_vr (by have := wf.1; omega))) (fun ad S0 hXt hS hl hf hlo hc hs kk => by
    subst hx0
    exact eg_WldcSw S0.1 S0.2.1 S0.2.2.2.1 (by rw [ho]; exact hXt.2.2.2.2.1.2 i hi) hd kk)
theorem eg_strlen {idx p : Nat} {v : Int32} (hd : decode cc pc = .ok (.invokevirtual idx, 3)) (hg : eg_slen p = some v) (w1 : Cond.methodLink own idx ⟨"java/lang/String", "length", "()I"⟩ ∈ eg_G) (h1 : 4 ≤ d) (h8 : (st.map fun v => v.category).sum ≤ 8)
    (k : eg_AW (own, cc, nL, d, sc, nm, rt) Z N S h0 (pc + 3) lv (.int v :: st) h) : eg_AW (own, cc, nL, d, sc, nm, rt) Z N S h0 pc lv (.ref p :: st) h := by
  unfold eg_slen at hg
  obtain ⟨⟨g1, g2⟩, g3⟩ := eg_ifn hg
  obtain ⟨i, rfl⟩ : ∃ i, p = i + 5 := ⟨p - 5, by omega⟩
  rw [Nat.add_sub_cancel] at g3
  cases g3
  have hi : i < 6 := by omega
  refine eg_bi k (fun w _ => eg_oc (eg_o1 w) (eg_vi _)) (fun {p' l e R s m args below meth c H locs cells slots Q ls A} ad S0 hXt hS hl hf hlo hc hs kk => ?_)
  obtain ⟨adV, hV⟩ := hXt.2.2.2.2.1.1
  have hrec := vk_recv hV hi hS
  exact xs_callV (y := xs_yLen) (As := []) (rest := st.map (eg_cv ad)) (b := ad (i + 5)) S0 (xs_len (ad := fun i => ad (i + 5)) (adV := adV) hi) (xs_Xt hXt hV hS) hrec hd w1 xw_1727 xw_1728 xw_111 xw_1729 hy_xLen rfl (by omega) (by omega) (Nat.le_of_ble_eq_true rfl) hl.1 (by rw [eg_cat_map]; exact h8) hc hs rfl kk
theorem eg_strat {idx p : Nat} {i v : Int32} (hd : decode cc pc = .ok (.invokevirtual idx, 3)) (hg : eg_sat p i = some v) (w1 : Cond.methodLink own idx ⟨"java/lang/String", "charAt", "(I)C"⟩ ∈ eg_G) (h1 : 4 ≤ d) (h8 : (st.map fun v => v.category).sum ≤ 8)
    (k : eg_AW (own, cc, nL, d, sc, nm, rt) Z N S h0 (pc + 3) lv (.int v :: st) h) : eg_AW (own, cc, nL, d, sc, nm, rt) Z N S h0 pc lv (.int i :: .ref p :: st) h := by
  unfold eg_sat at hg
  obtain ⟨⟨g1, g2, g4, g5⟩, g3⟩ := eg_ifn hg
  obtain ⟨j, rfl⟩ : ∃ j, p = j + 5 := ⟨p - 5, by omega⟩
  rw [Nat.add_sub_cancel] at g3 g5
  have hi : j < 6 := by omega
  obtain ⟨l8, l9, l10, -⟩ := xs_l8 j hi
  rw [← l9] at g5
  rw [← l10] at g3
  cases g3
  refine eg_bi k (fun w _ => eg_oc (eg_o1 (eg_o1 w)) (eg_vi _)) (fun {p' l e R s m args below meth c H locs cells slots Q ls A} ad S0 hXt hS hl hf hlo hc hs kk => ?_)
  obtain ⟨adV, hV⟩ := hXt.2.2.2.2.1.1
  have hrec := vk_recv hV hi hS
  exact xs_callV (y := xs_yAt) (As := [.int i]) (rest := st.map (eg_cv ad)) (b := ad (j + 5)) S0 (xs_at (ad := fun i => ad (i + 5)) (adV := adV) hi g4 g5) (xs_Xt hXt hV hS) hrec hd w1 xw_1740 xw_1741 xw_111 xw_1742 hy_xAt rfl (by omega) (by omega) (Nat.le_of_ble_eq_true rfl) hl.1 (by rw [eg_cat_map]; exact h8) hc hs rfl kk
end RS
