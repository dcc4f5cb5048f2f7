def px_ng (k : Nat) : Cond := match k with
  | 0 => .castable "java/util/NoSuchElementException" "java/util/NoSuchElementException"
  | 1 => .declares (Bundle.initS "java/lang/RuntimeException")
  | 2 => .declares (Bundle.initS "java/lang/Exception")
  | _ => .declares (Bundle.initS "java/lang/Throwable")
def px_Z (A : Nat → Prop) (s : State) (H : Heap) : Prop := vx_Zq Bundle.tN "UNASSIGNED_STACK" Bundle.steD A s H ∧ vx_Zq Bundle.tN "SUPPRESSED_SENTINEL" Bundle.listD A s H ∧ va_Nw (px_ng 0) s ∧ va_Nw (px_ng 1) s ∧ va_Nw (px_ng 2) s ∧ va_Nw (px_ng 3) s
theorem px_Nw {C T : String} {s U : State} (hA : s.vm.Alike U.vm) (hZ : va_Nw (.castable C T) s) : va_Nw (.castable C T) U := va_tabs rfl (rfl : (s.setVm U.vm).vm = U.vm) (by rw [Cond.castable_setVm hA]; exact hZ)
theorem px_Nd {x : MethodName} {s U : State} (hA : s.vm.Alike U.vm) (hZ : va_Nw (.declares x) s) : va_Nw (.declares x) U := va_tabs rfl (rfl : (s.setVm U.vm).vm = U.vm) (by rw [Cond.declares_setVm hA]; exact hZ)
theorem px_Z_moved {A : Nat → Prop} {s U : State} {H : Heap} (h : px_Z A s H) (hW : s.vm.Alike U.vm) : px_Z A U H := ⟨vx_Zq.moved hW h.1, vx_Zq.moved hW h.2.1, px_Nw hW h.2.2.1, px_Nd hW h.2.2.2.1, px_Nd hW h.2.2.2.2.1, px_Nd hW h.2.2.2.2.2⟩
theorem px_Z_kept {A B : Nat → Prop} {s : State} {H H1 : Heap} (h : px_Z A s H) (hq : ∀ a : Nat, a < H.size → ¬ A a → H1[a]? = H[a]?) (hAB : ∀ q, B q → A q) : px_Z B s H1 := ⟨(h.1.kept hq).narrow hAB, (h.2.1.kept hq).narrow hAB, h.2.2⟩
theorem px_in0 : ∀ w ∈ (px_ownA "EggThrow" 175 "java/util/NoSuchElementException" 13 prog_32_method_4_code ["java/lang/RuntimeException", "java/lang/Exception"]).filter vx_no, (w ∈ lw_tbl ∧ goodWord w = true) ∨ w = px_ng 1 ∨ w = px_ng 2 ∨ w = px_ng 3 := by decide +kernel
theorem px_ot : ∀ w ∈ Cond.classLink "EggThrow" 171 "java/util/NoSuchElementException" :: Cond.initialized "java/util/NoSuchElementException" :: (px_ownA "EggThrow" 175 "java/util/NoSuchElementException" 13 prog_32_method_4_code ["java/lang/RuntimeException", "java/lang/Exception"]).filter vx_no, vx_ot w = true := by decide +kernel
theorem dNSE_0 : decode prog_32_method_4_code 0 = .ok (.aload_n 0, 1) := by decide +kernel
theorem dNSE_1 : decode prog_32_method_4_code 1 = .ok (.aload_n 1, 1) := by decide +kernel
theorem dNSE_2 : decode prog_32_method_4_code 2 = .ok (.invokespecial 13, 3) := by decide +kernel
theorem dNSE_5 : decode prog_32_method_4_code 5 = .ok (.return_, 1) := by decide +kernel
def px_World (D : va_G) (dA : Nat → ClassId) (ad : Nat → Nat) (h : eg_H) (sz : Nat) (U : State) : Prop := eg_World D dA ad h sz U ∧ px_Z (va_A (eg_ws dA ad h) sz) U U.heap
theorem px_blind {av : List Value} {h : eg_H} {D : va_G} {dA : Nat → ClassId} {ad : Nat → Nat} {sz : Nat} : FrameBlind (va_Pc av (px_World D dA ad h sz)) := by
  intro a U g mk q
  have q2 := eg_blind (av := av) (h := h) (D := D) (dA := dA) (ad := ad) (sz := sz) a U g mk ⟨q.1, q.2.1⟩
  exact ⟨q.1, q2.2, px_Z_moved (s := U) (U := U.calling g mk a) q.2.2 (Vm.Alike.refl U.vm)⟩
def px_X (D : va_G) (dA : Nat → ClassId) (ad0 : Nat → Nat) (A : Nat → Prop) (h : eg_H) : String → State → State → Prop := fun E st t => E = "java/util/NoSuchElementException" ∧ va_P D eg_cl (eg_ws dA ad0 h) t.heap ∧ va_F A st t
def px_Zt (h : eg_H) : eg_C → State → Prop := fun (_, l, _, _, s, _, args, below, _, c, A, D, dA, ad0) t => l.stackTraces = false → px_Z A s s.heap → (∀ x ∈ c.exceptionTable.toList, False) → vx_MQ below (fun _ _ _ _ => False) (px_X D dA ad0 A h) args s 1 6 A t
theorem px_t20 {h : eg_H} {lv : List (Nat × Value)} : eg_AW (RX12, cX12_person, 3, 8, none, "person", some .int) (px_Zt h) (eg_nc h + 1) (eg_ns h + 6) h 20 lv [] h := by
  refine ⟨⟨⟨Nat.le_succ _, Nat.le_add_right _ _⟩, Nat.le_refl _⟩, fun X hX => ?_⟩
  obtain ⟨p, l, e, R, s, m, args, below, meth, c, A, D, dA, ad0⟩ := X
  intro ad H locs ls hl hok hr
  obtain ⟨x1, x2, x3, x4, x5, x6, x7, x8, x9, x10, x11, x12, x13, x14, x15, x16⟩ := hX
  obtain ⟨r1, r2, r3, r4, r5, r6, r7, r8⟩ := hr
  have x8 : 8 ≤ R.frames := x8
  have x9 : 64 * 8 ≤ R.locals := x9
  have x10 : eg_nc h + 1 - eg_nc h + 0 ≤ R.cells := x10
  have x11 : eg_ns h + 6 - eg_ns h + 16 * 0 ≤ R.slots := x11
  show W p l e R s m args below meth c H locs (eg_nc h - eg_nc h + 0) (eg_ns h - eg_ns h + 16 * 0) (px_Zt h (p, l, e, R, s, m, args, below, meth, c, A, D, dA, ad0)) (F0 m 20 ls [])
  rw [Nat.sub_self, Nat.sub_self]
  by_cases E : l.stackTraces = false ∧ px_Z A s s.heap ∧ (∀ x ∈ c.exceptionTable.toList, False)
  · have hstr : vk_R "EggThrow" 173 "no such person, or no such what" (ad0 10) s := x12.2.2.2.2.1.2 5 (by omega)
    have hat : ∀ w ∈ (px_ownA "EggThrow" 175 "java/util/NoSuchElementException" 13 prog_32_method_4_code ["java/lang/RuntimeException", "java/lang/Exception"]).filter vx_no, w.before args s = true := fun w hw => by
      rcases px_in0 w hw with z | z | z | z
      · exact x5 w (List.mem_filter.mpr z)
      · rw [z]; exact va_Nw.use rfl E.2.1.2.2.2.1
      · rw [z]; exact va_Nw.use rfl E.2.1.2.2.2.2.1
      · rw [z]; exact va_Nw.use rfl E.2.1.2.2.2.2.2
    have w : W p l e R s m args below meth c H locs 0 (16 * 0) (vx_MQ below (fun _ _ _ _ => False) (px_X D dA ad0 A h) args s 1 6 A) (F0 m 20 ls []) := by
      refine px_make (own := "EggThrow") (cls := "java/util/NoSuchElementException") (names := ["java/lang/RuntimeException", "java/lang/Exception"]) (ik := 171) (is := 173) (ic := 175) (A := A) x1 x2 E.1 dNSE_0 dNSE_1 dNSE_2 dNSE_5 x4 (by decide +kernel) (by decide +kernel) (x5 _ ew_1360) (x5 _ ew_123) hstr hat px_ot E.2.1.1 E.2.1.2.1 r3 (hl.1.trans x3.symm) dX12_person_20 dX12_person_23 dX12_person_24 dX12_person_26 (show 2 + 3 < R.frames by omega) (show 0 + (13 * (2 + 1) + 43) ≤ R.locals by omega) (by omega) (by omega) (fun q H1 ce hce hcv hcl ht hq => ?_)
      refine vx_athrow x1 x2 dX12_person_29 ?_
      exact vx_out (E := "java/util/NoSuchElementException") (fun x hx => (E.2.2 x hx).elim) x16 hce hcv hcl (fun t ht9 _ => ⟨rfl, by
          rw [ht9, ← eg_ws_ad r4 r5]
          exact r1.kept (fun k q hk => hq _ (vx_lt r1 hk)), ⟨by rw [ht9]; exact Nat.le_trans r3.1 ht, fun q g1 g2 => by rw [ht9, hq q (Nat.lt_of_lt_of_le g1 r3.1)]; exact r3.2.1 q g1 g2⟩⟩) r3.2.2 (Nat.le_refl _) (Nat.le_of_ble_eq_true rfl)
    intro T hT X
    obtain ⟨t, a, b⟩ := w T hT X
    exact ⟨t, a, fun _ _ _ => b⟩
  · intro T hT X
    exact ⟨_, Steps.refl _, fun a b c => absurd ⟨a, b, c⟩ E⟩
theorem px_walk {h : eg_H} {U : Nat → Nat} {P E : Nat} {p w : Int32} (hs : eg_stt h) (V : XV h U P E) (hg : ¬ (G1 P p ∧ GI (nI 0) (nI 3) w)) : eg_AW (RX12, cX12_person, 3, 8, none, "person", some .int) (px_Zt h) (eg_nc h + 1) (eg_ns h + 6) h 0 [(0, .ref 16), (1, .int p), (2, .int w)] [] h := by
  refine eg_aload_n (i := 0) 0 dX12_person_0 rfl rfl ?_
  refine eg_getR (c := 12) (k := 3) (x := 23) dX12_person_1 (by rw [gR_16 hs]; exact rf_16_3 hs) (Nat.le_of_ble_eq_true rfl) (Nat.le_of_ble_eq_true rfl) rfl ew_359 ?_
  refine eg_iload_n (i := 1) 1 dX12_person_4 rfl rfl ?_
  have e5 := X_isPerson hs V p
  refine eg_callV (c := 7) (n := 1) [.int p] dX12_person_5 (mX7_isPerson e5) rfl (fX7_isPerson_O e5) (Nat.le_of_ble_eq_true rfl) rfl ew_729 ew_730 ew_731 ew_104 ew_732 hy_X7_isPerson rfl (Nat.le_of_ble_eq_true rfl) (Nat.le_of_ble_eq_true rfl) (Nat.le_of_ble_eq_true rfl) ?_
  refine eg_if_eq 20 dX12_person_8 rfl (fun c6 => px_t20) (fun c6 => ?_)
  refine eg_iload_n (i := 2) 2 dX12_person_11 rfl rfl ?_
  refine eg_if_lt 20 dX12_person_12 rfl (fun c7 => px_t20) (fun c7 => ?_)
  refine eg_iload_n (i := 2) 2 dX12_person_15 rfl rfl ?_
  refine eg_iconst (v := (4 : Int32)) dX12_person_16 (by decide) ?_
  refine eg_ic_lt 30 dX12_person_17 rfl (fun c8 => ?_) (fun c8 => px_t20)
  refine absurd ⟨?_, c7, ?_⟩ hg
  · by_cases q : G1 P p
    · exact q
    · rw [if_neg q] at c6; exact absurd rfl c6
  · intro q
    have q1 : (nI 3).toInt < w.toInt := Int32.lt_iff_toInt_lt.mp q
    have q2 : w.toInt < (4 : Int32).toInt := Int32.lt_iff_toInt_lt.mp c8
    rw [show (nI 3).toInt = 3 from rfl] at q1
    rw [show ((4 : Int32)).toInt = 4 from rfl] at q2
    omega
theorem px_throws {h : eg_H} {U : Nat → Nat} {P E : Nat} {p w : Int32} (hs : eg_stt h) (V : XV h U P E) (hg : ¬ (G1 P p ∧ GI (nI 0) (nI 3) w)) (l : Launch) (D : va_G) (dA : Nat → ClassId) (ad : Nat → Nat) (sz : Nat) (hlt : l.stackTraces = false) (hav : ∀ v ∈ [Value.ref 16, .int p, .int w], eg_vk (eg_nc h) v) :
    vx_Met l yX12_person (.code yX12_person cX12_person 3 (some .int) :: eg_G) (eg_rm 8 1 6) (va_Pc ([Value.ref 16, .int p, .int w].map (eg_cv ad)) (px_World D dA ad h sz)) (fun _ _ _ _ => False) (px_X D dA ad (va_A (eg_ws dA ad h) sz) h) 1 6 (va_A (eg_ws dA ad h) sz) := by
  refine vx_ofW (cc := cX12_person) (maxL := 3) (ret := some .int) rfl rfl ?_
  intro p' e s m args below meth c s₁ B hml hnt hv
  obtain ⟨rfl, ⟨hsz, hP, hK, hD0, hwf, hXt⟩, hZ⟩ := hv
  have hts := atoms_spec (ws := .code yX12_person cX12_person 3 (some .int) :: eg_G) B.pre
  have hown : s.vm.findClass yX12_person.cls = some m.cls := findClass_of_methodNamed B.named
  subst hsz
  have hD := hD0.self (sz := s.heap.size)
  have hin : meth.name = yX12_person.name := (name_of_methodNamed B.named B.method).1
  have hl := lv_entry ([Value.ref 16, .int p, .int w].map (eg_cv ad)) (n := 3) (by rw [eg_slw]; exact Nat.le_of_ble_eq_true rfl)
  rw [lg_entry_eq]
  rw [eg_args_map] at hl
  have k2 := (px_walk hs V hg).2 (p', l, e, eg_rm 8 1 6, s, m, ([Value.ref 16, .int p, .int w].map (eg_cv ad)).toArray, below, meth, c, va_A (eg_ws dA ad h) s.heap.size, D, dA, ad) ⟨B.exec, B.bytes, hml, hown, fun w hw => hts w (List.mem_cons_of_mem _ hw), hK, fun q hq => Or.inr hq, Nat.le_refl _, Nat.le_refl _, (show eg_nc h + 1 - eg_nc h + 0 ≤ 1 by omega), (show eg_ns h + 6 - eg_ns h + 16 * 0 ≤ 6 by omega), hXt, fun L xs g q => (by cases q), hin, B.returns, B.notSynchronized⟩
  have k3 := k2 ad s.heap [] _ hl (eg_args_ok 0 _ hav) ⟨hP, hD, va_S.rf, hwf, fun _ _ => rfl, Nat.le_refl _, Nat.le_refl _, hwf.1⟩
  rw [Nat.sub_self, Nat.sub_self] at k3
  intro T hT X
  obtain ⟨t, a, b⟩ := k3 T hT X
  exact ⟨t, a, b hlt hZ hnt⟩
theorem px_returns {h : eg_H} {U : Nat → Nat} {P E : Nat} (hs : eg_stt h) (V : XV h U P E) (hU : 0 < P → Uok U P E) (hP : P < 2 ^ 31) {p w : Int32} (hg : G1 P p ∧ GI (nI 0) (nI 3) w) : eg_Met yX12_person cX12_person 3 (some .int) 3 [.ref 16, .int p, .int w] h (some (.int (nI (U (4 + 4 * dN p + dN w))))) h := by
  obtain ⟨g1, g2⟩ := hg
  obtain ⟨n, hn, rfl⟩ := G1_n hP g1
  obtain ⟨k, k1, k2, rfl⟩ := GI_n (by omega) (by omega) g2
  rw [dN_n (by omega), dN_n (by omega)]
  refine eg_enter rfl (Nat.le_of_ble_eq_true rfl) ?_
  show eg_AW (RX12, cX12_person, 3, 3, none, "person", some .int) (eg_Zm (some (.int (nI (U (4 + 4 * n + k))))) h h) (eg_nc h) (eg_ns h) h 0 [(0, .ref 16), (1, .int (nI n)), (2, .int (nI k))] [] h
  refine eg_aload_n (i := 0) 0 dX12_person_0 rfl rfl ?_
  refine eg_getR (c := 12) (k := 3) (x := 23) dX12_person_1 (by rw [gR_16 hs]; exact rf_16_3 hs) (Nat.le_of_ble_eq_true rfl) (Nat.le_of_ble_eq_true rfl) rfl ew_359 ?_
  refine eg_iload_n (i := 1) 1 dX12_person_4 rfl rfl ?_
  have e5 := X_isPerson hs V (nI n)
  refine eg_callV (c := 7) (n := 1) [.int (nI n)] dX12_person_5 (mX7_isPerson e5) rfl (fX7_isPerson_O e5) (Nat.le_of_ble_eq_true rfl) rfl ew_729 ew_730 ew_731 ew_104 ew_732 hy_X7_isPerson rfl (Nat.le_of_ble_eq_true rfl) (Nat.le_of_ble_eq_true rfl) (Nat.le_of_ble_eq_true rfl) ?_
  refine eg_if_eq 20 dX12_person_8 rfl (fun c6 => ?_) (fun c6 => ?_)
  · rw [if_pos g1] at c6; exact absurd c6 (by decide)
  refine eg_iload_n (i := 2) 2 dX12_person_11 rfl rfl ?_
  refine eg_if_lt 20 dX12_person_12 rfl (fun c7 => absurd c7 g2.1) (fun c7 => ?_)
  refine eg_iload_n (i := 2) 2 dX12_person_15 rfl rfl ?_
  refine eg_iconst (v := (4 : Int32)) dX12_person_16 (by decide) ?_
  refine eg_ic_lt 30 dX12_person_17 rfl (fun c8 => ?_) (fun c8 => ?_)
  rotate_left
  · refine absurd ?_ c8
    rw [show (4 : Int32) = nI 4 from rfl]
    exact nI_lt (by omega) (by omega)
  refine eg_aload_n (i := 0) 0 dX12_person_30 rfl rfl ?_
  refine eg_getR (c := 12) (k := 3) (x := 23) dX12_person_31 (by rw [gR_16 hs]; exact rf_16_3 hs) (Nat.le_of_ble_eq_true rfl) (Nat.le_of_ble_eq_true rfl) rfl ew_359 ?_
  refine eg_iload_n (i := 1) 1 dX12_person_34 rfl rfl ?_
  refine eg_iload_n (i := 2) 2 dX12_person_35 rfl rfl ?_
  have e9 := X_ofPerson hs V (hU (by omega)) hn (show k < 4 by omega)
  refine eg_callV (c := 7) (n := 2) [.int (nI n), .int (nI k)] dX12_person_36 (mX7_ofPerson e9) rfl (fX7_ofPerson_O e9) (Nat.le_of_ble_eq_true rfl) rfl ew_740 ew_741 ew_742 ew_104 ew_743 hy_X7_ofPerson rfl (Nat.le_of_ble_eq_true rfl) (Nat.le_of_ble_eq_true rfl) (Nat.le_of_ble_eq_true rfl) ?_
  exact eg_iret dX12_person_39
