theorem law_begin {L : Nat} {xs : Nat → Int32} {nm : String} (hL : L ≤ 3072) : eg_AW (RLw, cL_law, 7, 460, some (L, xs, 0), nm, ret) lz_Z 3000 70000 h00 0 [(0, .ref 0)] [] h00 := by
  refine eg_newO (c := 12) dL_law_0 (Nat.le_of_ble_eq_true rfl) ew_126 (eg_in (i := 127) (by decide +kernel) (by decide +kernel)) ew_100 ?_
  show eg_AW (RLw, cL_law, 7, 460, some (L, xs, 0), nm, ret) lz_Z 3000 70000 h00 3 [(0, .ref 0)] [.ref 16] hX0
  refine eg_dup dL_law_3 rfl ?_
  refine eg_callI (n := 0) [] dL_law_4 (mX12_init st_i1) rfl ew_128 ew_129 ew_100 ew_130 rfl hy_X12_init.2 rfl (Nat.le_of_ble_eq_true rfl) (Nat.le_of_ble_eq_true rfl) (Nat.le_of_ble_eq_true rfl) ?_
  refine eg_astore_n (i := 1) [(1, .ref 16), (0, .ref 0)] dL_law_7 rfl (Nat.le_of_ble_eq_true rfl) rfl ?_
  refine eg_newO (c := 13) dL_law_8 (Nat.le_of_ble_eq_true rfl) ew_1426 (eg_in (i := 1427) (by decide +kernel) (by decide +kernel)) ew_110 ?_
  rw [st_n.2.1]
  refine eg_dup dL_law_11 rfl ?_
  refine eg_callI (n := 0) [] dL_law_12 (mX13_init st_i2) rfl ew_1428 ew_1429 ew_110 ew_1430 rfl hy_X13_init.2 rfl (Nat.le_of_ble_eq_true rfl) (Nat.le_of_ble_eq_true rfl) (Nat.le_of_ble_eq_true rfl) ?_
  refine eg_astore_n (i := 2) [(2, .ref 54), (1, .ref 16), (0, .ref 0)] dL_law_15 rfl (Nat.le_of_ble_eq_true rfl) rfl ?_
  refine eg_iconst (v := (1 : Int32)) dL_law_16 (by decide) ?_
  refine eg_newa .long (k := 101) (h' := hX4) dL_law_17 rfl 1 (Nat.le_of_ble_eq_true rfl) (Nat.le_of_ble_eq_true rfl) (Nat.le_of_ble_eq_true rfl) (fun _ => rfl) (by decide) rfl ew_355 ?_
  rw [st_n.2.2.1]
  refine eg_astore_n (i := 3) [(3, .ref 94), (2, .ref 54), (1, .ref 16), (0, .ref 0)] dL_law_19 rfl (Nat.le_of_ble_eq_true rfl) rfl ?_
  refine eg_iconst (v := (0 : Int32)) dL_law_20 (by decide) ?_
  refine eg_istore (i := 4) [(4, .int (nI 0)), (3, .ref 94), (2, .ref 54), (1, .ref 16), (0, .ref 0)] dL_law_21 (Nat.le_of_ble_eq_true rfl) rfl ?_
  exact law_loop hL 513 LI_00 (by omega) (by omega) (by omega) (by omega)
theorem st_arr1 {s : State} {args : Array Value} {ty : FieldType} (h : (Cond.arrayClass ty).before args s = true) (hn : ∀ C, ty ≠ .object C) : ∃ cA, ArrOfT s cA ty ∧ va_RA s cA ty := by
  obtain ⟨c, k, comp, h1, h2, h3⟩ := Cond.arrayClass_spec h
  refine ⟨c, fun n z => ⟨fun k h => (by cases h), k, h2, comp, h3⟩, ?_⟩
  cases ty with
  | object C => exact absurd rfl (hn C)
  | _ => exact h1
theorem st_arrO {s : State} {args : Array Value} {C : String} (h : (Cond.arrayOver (.object C)).before args s = true) : ∃ cA, ArrOfT s cA (.object C) ∧ va_RA s cA (.object C) := by
  obtain ⟨comp, c, k, h1, h2, h3, h4, h5⟩ := Cond.arrayOver_spec h
  exact ⟨c, fun n z => ⟨fun k h => (by cases h), k, h3, comp, h4⟩, k, comp, h3, h4, h1, h5⟩
def st_N : List Cond := flatC (Jvm.Cond.and given_1 narrow_1)
def st_tm (i : Nat) : Term := .string (eg_so i) (eg_sx i)
theorem st_a1 : ((List.range 4).all fun k => (decide (Cond.arrayOf (.static "EggThrow" (eg_tn (k + 1)) "[I") .int ∈ st_N) && decide (Cond.eq (.length (.static "EggThrow" (eg_tn (k + 1)) "[I")) (.int 10) ∈ st_N)) && (((List.range 10).all fun j => decide (Cond.eq (.elem (.static "EggThrow" (eg_tn (k + 1)) "[I") (.int (Int32.ofNat j))) (.int ((eg_tb (k + 1)).getD j 0)) ∈ st_N)) && decide (Cond.laysStatic "EggThrow" (eg_tn (k + 1)) "[I" ∈ lw_tbl))) = true := by decide +kernel
theorem st_b1 : ((List.range 6).all fun i => (decide (Cond.exactly (st_tm i) "java/lang/String" ∈ st_N) && decide (Cond.eq (.field (st_tm i) "java/lang/String" "coder" "B") (.int 0) ∈ st_N)) && ((decide (Cond.arrayOf (.field (st_tm i) "java/lang/String" "value" "[B") .byte ∈ st_N) && decide (Cond.eq (.length (.field (st_tm i) "java/lang/String" "value" "[B")) (.int (Int32.ofNat (eg_sl.getD i 0))) ∈ st_N)) && (((List.range (eg_sl.getD i 0)).all fun j => decide (Cond.eq (.elem (.field (st_tm i) "java/lang/String" "value" "[B") (.int (Int32.ofNat j))) (.int ((eg_sB.getD i []).getD j 0)) ∈ st_N)) && decide (Cond.stringRef (eg_so i) (eg_sx i) (eg_st i) ∈ lw_tbl)))) = true := by decide +kernel
theorem st_b2 : ((List.range 6).all fun i => (List.range 6).all fun j => decide (i = j) || (decide (Cond.not (Cond.eq (st_tm i) (st_tm j)) ∈ st_N) || decide (Cond.not (Cond.eq (st_tm j) (st_tm i)) ∈ st_N))) = true := by decide +kernel
theorem st_b3 : ((List.range 6).all fun i => decide (eg_sl.getD i 0 < 2 ^ 31)) = true := by decide +kernel
section STT
variable {s : State} {args : Array Value} {A : Nat → Prop}
theorem st_Z (hgv : (Jvm.Cond.and given_1 narrow_1).before args s = true) (hts : ∀ w ∈ lw_tbl, w.before args s = true) (hA : ∀ a : Nat, a < s.heap.size → ¬ A a) (k : Nat) (h1 : 1 ≤ k) (h2 : k < 5) : ∃ t, va_Z "EggThrow" (eg_tn k) "[I" (.ref t) A s s.heap ∧ va_T .int t 10 (fun j => .int ((eg_tb k).getD j 0)) A s s.heap := by
  have hq := List.all_eq_true.mp st_a1 (k - 1) (List.mem_range.mpr (by omega))
  rw [show k - 1 + 1 = k by omega] at hq
  rw [Bool.and_eq_true, Bool.and_eq_true, Bool.and_eq_true] at hq
  obtain ⟨⟨a1, a2⟩, a3, a4⟩ := hq
  have hs := flat_of_before _ hgv
  obtain ⟨t, e, T⟩ := va_Tof (tm := .static "EggThrow" (eg_tn k) "[I") (N := 10) (f := fun j => .int ((eg_tb k).getD j 0)) (A := A) (by decide) (hs _ (of_decide_eq_true a1)) (va_eqt (hs _ (of_decide_eq_true a2))) (fun j hj => va_eqt (hs _ (of_decide_eq_true (List.all_eq_true.mp a3 j (List.mem_range.mpr hj))))) hA
  exact ⟨t, va_Zof (hts _ (of_decide_eq_true a4)) (hts (.initialized "EggThrow") (List.mem_filter.mp ew_100).1) e hA, T⟩
theorem st_Str (hgv : (Jvm.Cond.and given_1 narrow_1).before args s = true) (hts : ∀ w ∈ lw_tbl, w.before args s = true) (hA : ∀ a : Nat, a < s.heap.size → ¬ A a) : ∃ adK adV : Nat → Nat, vk_S 6 eg_sl eg_sB adK adV A s s.heap ∧ ∀ i : Nat, i < 6 → vk_R (eg_so i) (eg_sx i) (eg_st i) (adK i) s := by
  have hs := flat_of_before _ hgv
  have hq : ∀ i, i < 6 → _ := fun i hi => List.all_eq_true.mp st_b1 i (List.mem_range.mpr hi)
  simp only [Bool.and_eq_true] at hq
  obtain ⟨adK, adV, hS, hE⟩ := vk_Sof (args := args) (s := s) (N := 6) (tm := st_tm) (len := eg_sl) (byt := eg_sB) (A := A) (fun i hi => of_decide_eq_true (List.all_eq_true.mp st_b3 i (List.mem_range.mpr hi))) (fun i hi => hs _ (of_decide_eq_true (hq i hi).1.1)) (fun i hi => hs _ (of_decide_eq_true (hq i hi).1.2)) (fun i hi => hs _ (of_decide_eq_true (hq i hi).2.1.1)) (fun i hi => hs _ (of_decide_eq_true (hq i hi).2.1.2)) (fun i hi j hj => hs _ (of_decide_eq_true (List.all_eq_true.mp (hq i hi).2.2.1 j (List.mem_range.mpr hj))))
    (fun i j hi hj hij => by
      have z := List.all_eq_true.mp (List.all_eq_true.mp st_b2 i (List.mem_range.mpr hi)) j (List.mem_range.mpr hj)
      simp only [Bool.or_eq_true] at z
      rcases z with z | z | z
      · exact absurd (of_decide_eq_true z) hij
      · exact Or.inl (hs _ (of_decide_eq_true z))
      · exact Or.inr (hs _ (of_decide_eq_true z))) hA
  exact ⟨adK, adV, hS, fun i hi => vk_R.of (hts _ (of_decide_eq_true (hq i hi).2.2.2)) (hE i hi)⟩
end STT
