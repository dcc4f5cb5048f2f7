section RP
variable {own : String} {cc : ByteArray} {nL d : Nat} {sc : Option (Nat × (Nat → Int32) × Nat)} {nm : String} {rt : Option FieldType} {Z : eg_C → State → Prop} {N S : Nat} {h0 : eg_H} {pc : Nat} {lv : List (Nat × Value)} {st : List Value} {h : eg_H}
theorem eg_iconst {n : Int} {v : Int32} (hd : decode cc pc = .ok (.iconst n, 1)) (hv : Int32.ofInt n = v) (k : eg_AW (own, cc, nL, d, sc, nm, rt) Z N S h0 (pc + 1) lv (.int v :: st) h) : eg_AW (own, cc, nL, d, sc, nm, rt) Z N S h0 pc lv (st) h :=
  eg_one k (fun w => eg_oc w (eg_vi _)) (fun ad hx hb hown hts hl kk => lv_iconst hx hb hd hv (kk _ hl))
theorem eg_bipush {n : Int} {v : Int32} (hd : decode cc pc = .ok (.bipush n, 2)) (hv : (Int8.ofInt n).toInt32 = v) (k : eg_AW (own, cc, nL, d, sc, nm, rt) Z N S h0 (pc + 2) lv (.int v :: st) h) : eg_AW (own, cc, nL, d, sc, nm, rt) Z N S h0 pc lv (st) h :=
  eg_one k (fun w => eg_oc w (eg_vi _)) (fun ad hx hb hown hts hl kk => lv_bipush hx hb hd hv (kk _ hl))
theorem eg_sipush {n : Int} {v : Int32} (hd : decode cc pc = .ok (.sipush n, 3)) (hv : (Int16.ofInt n).toInt32 = v) (k : eg_AW (own, cc, nL, d, sc, nm, rt) Z N S h0 (pc + 3) lv (.int v :: st) h) : eg_AW (own, cc, nL, d, sc, nm, rt) Z N S h0 pc lv (st) h :=
  eg_one k (fun w => eg_oc w (eg_vi _)) (fun ad hx hb hown hts hl kk => lv_sipush hx hb hd hv (kk _ hl))
theorem eg_lconst {n : Fin 2} {v : Int64} (hd : decode cc pc = .ok (.lconst n, 1)) (hv : Int64.ofNat (n : Nat) = v) (k : eg_AW (own, cc, nL, d, sc, nm, rt) Z N S h0 (pc + 1) lv (.long v :: st) h) : eg_AW (own, cc, nL, d, sc, nm, rt) Z N S h0 pc lv (st) h :=
  eg_one k (fun w => eg_oc w (eg_vl _)) (fun ad hx hb hown hts hl kk => lv_lconst hx hb hd hv (kk _ hl))
theorem eg_ldc {idx : Nat} {v : Int32} (hd : decode cc pc = .ok (.ldc idx, 2)) (hc : Cond.constant own idx v ∈ eg_G) (k : eg_AW (own, cc, nL, d, sc, nm, rt) Z N S h0 (pc + 2) lv (.int v :: st) h) : eg_AW (own, cc, nL, d, sc, nm, rt) Z N S h0 pc lv (st) h :=
  eg_one k (fun w => eg_oc w (eg_vi _)) (fun ad hx hb hown hts hl kk => lv_ldc hx hb hown (hts _ hc) hd (kk _ hl))
theorem eg_ldcw {idx : Nat} {v : Int32} (hd : decode cc pc = .ok (.ldc_w idx, 3)) (hc : Cond.constant own idx v ∈ eg_G) (k : eg_AW (own, cc, nL, d, sc, nm, rt) Z N S h0 (pc + 3) lv (.int v :: st) h) : eg_AW (own, cc, nL, d, sc, nm, rt) Z N S h0 pc lv (st) h :=
  eg_one k (fun w => eg_oc w (eg_vi _)) (fun ad hx hb hown hts hl kk => lv_ldcw hx hb hown (hts _ hc) hd (kk _ hl))
theorem eg_ldc2 {idx : Nat} {v : Int64} (hd : decode cc pc = .ok (.ldc2_w idx, 3)) (hc : Cond.constantLong own idx v ∈ eg_G) (k : eg_AW (own, cc, nL, d, sc, nm, rt) Z N S h0 (pc + 3) lv (.long v :: st) h) : eg_AW (own, cc, nL, d, sc, nm, rt) Z N S h0 pc lv (st) h :=
  eg_one k (fun w => eg_oc w (eg_vl _)) (fun ad hx hb hown hts hl kk => lv_ldc2 hx hb hown (hts _ hc) hd (kk _ hl))
theorem eg_null  (hd : decode cc pc = .ok (.aconst_null, 1)) (k : eg_AW (own, cc, nL, d, sc, nm, rt) Z N S h0 (pc + 1) lv (.null :: st) h) : eg_AW (own, cc, nL, d, sc, nm, rt) Z N S h0 pc lv (st) h :=
  eg_one k (fun w => eg_oc w eg_vn) (fun ad hx hb hown hts hl kk => lv_null hx hb hd (kk _ hl))
theorem eg_iload_n {a : Fin 4} {i : Nat} {x : Int32} (j : Nat) (hd : decode cc pc = .ok (.iload_n a, 1)) (ha : (a : Nat) = i) (hj : lv[j]? = some (i, .int x)) (k : eg_AW (own, cc, nL, d, sc, nm, rt) Z N S h0 (pc + 1) lv (.int x :: st) h) : eg_AW (own, cc, nL, d, sc, nm, rt) Z N S h0 pc lv (st) h :=
  eg_one k (fun w => eg_oc w (eg_ol w hj)) (fun ad hx hb hown hts hl kk => lv_iload_n hx hb hd ha (lv_at hl j (eg_lmat hj)) (kk _ hl))
theorem eg_lload_n {a : Fin 4} {i : Nat} {x : Int64} (j : Nat) (hd : decode cc pc = .ok (.lload_n a, 1)) (ha : (a : Nat) = i) (hj : lv[j]? = some (i, .long x)) (k : eg_AW (own, cc, nL, d, sc, nm, rt) Z N S h0 (pc + 1) lv (.long x :: st) h) : eg_AW (own, cc, nL, d, sc, nm, rt) Z N S h0 pc lv (st) h :=
  eg_one k (fun w => eg_oc w (eg_ol w hj)) (fun ad hx hb hown hts hl kk => lv_lload_n hx hb hd ha (lv_at hl j (eg_lmat hj)) (kk _ hl))
theorem eg_aload_n {a : Fin 4} {i : Nat} {x : Nat} (j : Nat) (hd : decode cc pc = .ok (.aload_n a, 1)) (ha : (a : Nat) = i) (hj : lv[j]? = some (i, .ref x)) (k : eg_AW (own, cc, nL, d, sc, nm, rt) Z N S h0 (pc + 1) lv (.ref x :: st) h) : eg_AW (own, cc, nL, d, sc, nm, rt) Z N S h0 pc lv (st) h :=
  eg_one k (fun w => eg_oc w (eg_ol w hj)) (fun ad hx hb hown hts hl kk => lv_aload_n hx hb hd ha (lv_at hl j (eg_lmat hj)) (kk _ hl))
theorem eg_iload {i : Nat} {x : Int32} (j : Nat) (hd : decode cc pc = .ok (.iload i, 2)) (hj : lv[j]? = some (i, .int x)) (k : eg_AW (own, cc, nL, d, sc, nm, rt) Z N S h0 (pc + 2) lv (.int x :: st) h) : eg_AW (own, cc, nL, d, sc, nm, rt) Z N S h0 pc lv (st) h :=
  eg_one k (fun w => eg_oc w (eg_ol w hj)) (fun ad hx hb hown hts hl kk => lv_iload hx hb hd (lv_at hl j (eg_lmat hj)) (kk _ hl))
theorem eg_lload {i : Nat} {x : Int64} (j : Nat) (hd : decode cc pc = .ok (.lload i, 2)) (hj : lv[j]? = some (i, .long x)) (k : eg_AW (own, cc, nL, d, sc, nm, rt) Z N S h0 (pc + 2) lv (.long x :: st) h) : eg_AW (own, cc, nL, d, sc, nm, rt) Z N S h0 pc lv (st) h :=
  eg_one k (fun w => eg_oc w (eg_ol w hj)) (fun ad hx hb hown hts hl kk => lv_lload hx hb hd (lv_at hl j (eg_lmat hj)) (kk _ hl))
theorem eg_aload {i : Nat} {x : Nat} (j : Nat) (hd : decode cc pc = .ok (.aload i, 2)) (hj : lv[j]? = some (i, .ref x)) (k : eg_AW (own, cc, nL, d, sc, nm, rt) Z N S h0 (pc + 2) lv (.ref x :: st) h) : eg_AW (own, cc, nL, d, sc, nm, rt) Z N S h0 pc lv (st) h :=
  eg_one k (fun w => eg_oc w (eg_ol w hj)) (fun ad hx hb hown hts hl kk => lv_aload hx hb hd (lv_at hl j (eg_lmat hj)) (kk _ hl))
theorem eg_aload_nq {a : Fin 4} {i : Nat} {r : Option Nat} (j : Nat) (hd : decode cc pc = .ok (.aload_n a, 1)) (ha : (a : Nat) = i) (hj : lv[j]? = some (i, va_rf r)) (k : eg_AW (own, cc, nL, d, sc, nm, rt) Z N S h0 (pc + 1) lv (va_rf r :: st) h) : eg_AW (own, cc, nL, d, sc, nm, rt) Z N S h0 pc lv (st) h :=
  eg_one k (fun w => eg_oc w (eg_ol w hj)) (fun ad hx hb hown hts hl kk => by
    cases r with
    | none => exact lv_aload_nN hx hb hd ha (lv_at hl j (eg_lmat hj)) (kk _ hl)
    | some x => exact lv_aload_n hx hb hd ha (lv_at hl j (eg_lmat hj)) (kk _ hl))
theorem eg_aloadq {i : Nat} {r : Option Nat} (j : Nat) (hd : decode cc pc = .ok (.aload i, 2)) (hj : lv[j]? = some (i, va_rf r)) (k : eg_AW (own, cc, nL, d, sc, nm, rt) Z N S h0 (pc + 2) lv (va_rf r :: st) h) : eg_AW (own, cc, nL, d, sc, nm, rt) Z N S h0 pc lv (st) h :=
  eg_one k (fun w => eg_oc w (eg_ol w hj)) (fun ad hx hb hown hts hl kk => by
    cases r with
    | none => exact lv_aloadN hx hb hd (lv_at hl j (eg_lmat hj)) (kk _ hl)
    | some x => exact lv_aload hx hb hd (lv_at hl j (eg_lmat hj)) (kk _ hl))
theorem eg_istore_n {a : Fin 4} {i : Nat} {x : Int32} (lv' : List (Nat × Value)) (hd : decode cc pc = .ok (.istore_n a, 1)) (ha : (a : Nat) = i) (hn : i < nL) (he : eg_st1 i (.int x) lv = lv') (k : eg_AW (own, cc, nL, d, sc, nm, rt) Z N S h0 (pc + 1) lv' st h) : eg_AW (own, cc, nL, d, sc, nm, rt) Z N S h0 pc lv (.int x :: st) h := by
  subst he
  exact eg_one k (fun w => eg_os1 w) (fun ad hx hb hown hts hl kk => lv_istore_n hx hb hd ha hl hn (eg_lm_st1 ad i (.int x) lv) kk)
theorem eg_istore {i : Nat} {x : Int32} (lv' : List (Nat × Value)) (hd : decode cc pc = .ok (.istore i, 2)) (hn : i < nL) (he : eg_st1 i (.int x) lv = lv') (k : eg_AW (own, cc, nL, d, sc, nm, rt) Z N S h0 (pc + 2) lv' st h) : eg_AW (own, cc, nL, d, sc, nm, rt) Z N S h0 pc lv (.int x :: st) h := by
  subst he
  exact eg_one k (fun w => eg_os1 w) (fun ad hx hb hown hts hl kk => lv_istore hx hb hd hl hn (eg_lm_st1 ad i (.int x) lv) kk)
theorem eg_lstore_n {a : Fin 4} {i : Nat} {x : Int64} (lv' : List (Nat × Value)) (hd : decode cc pc = .ok (.lstore_n a, 1)) (ha : (a : Nat) = i) (hn : i + 1 < nL) (he : eg_st2 i (.long x) lv = lv') (k : eg_AW (own, cc, nL, d, sc, nm, rt) Z N S h0 (pc + 1) lv' st h) : eg_AW (own, cc, nL, d, sc, nm, rt) Z N S h0 pc lv (.long x :: st) h := by
  subst he
  exact eg_one k (fun w => eg_os2 w) (fun ad hx hb hown hts hl kk => lv_lstore_n hx hb hd ha hl hn (eg_lm_st2 ad i (.long x) lv) kk)
theorem eg_lstore {i : Nat} {x : Int64} (lv' : List (Nat × Value)) (hd : decode cc pc = .ok (.lstore i, 2)) (hn : i + 1 < nL) (he : eg_st2 i (.long x) lv = lv') (k : eg_AW (own, cc, nL, d, sc, nm, rt) Z N S h0 (pc + 2) lv' st h) : eg_AW (own, cc, nL, d, sc, nm, rt) Z N S h0 pc lv (.long x :: st) h := by
  subst he
  exact eg_one k (fun w => eg_os2 w) (fun ad hx hb hown hts hl kk => lv_lstore hx hb hd hl hn (eg_lm_st2 ad i (.long x) lv) kk)
theorem eg_astore_n {a : Fin 4} {i : Nat} {x : Nat} (lv' : List (Nat × Value)) (hd : decode cc pc = .ok (.astore_n a, 1)) (ha : (a : Nat) = i) (hn : i < nL) (he : eg_st1 i (.ref x) lv = lv') (k : eg_AW (own, cc, nL, d, sc, nm, rt) Z N S h0 (pc + 1) lv' st h) : eg_AW (own, cc, nL, d, sc, nm, rt) Z N S h0 pc lv (.ref x :: st) h := by
  subst he
  exact eg_one k (fun w => eg_os1 w) (fun ad hx hb hown hts hl kk => lv_astore_n hx hb hd ha hl hn (eg_lm_st1 ad i (.ref x) lv) kk)
theorem eg_astore {i : Nat} {x : Nat} (lv' : List (Nat × Value)) (hd : decode cc pc = .ok (.astore i, 2)) (hn : i < nL) (he : eg_st1 i (.ref x) lv = lv') (k : eg_AW (own, cc, nL, d, sc, nm, rt) Z N S h0 (pc + 2) lv' st h) : eg_AW (own, cc, nL, d, sc, nm, rt) Z N S h0 pc lv (.ref x :: st) h := by
  subst he
  exact eg_one k (fun w => eg_os1 w) (fun ad hx hb hown hts hl kk => lv_astore hx hb hd hl hn (eg_lm_st1 ad i (.ref x) lv) kk)
theorem eg_astore_nq {a : Fin 4} {i : Nat} {r : Option Nat} (lv' : List (Nat × Value)) (hd : decode cc pc = .ok (.astore_n a, 1)) (ha : (a : Nat) = i) (hn : i < nL) (he : eg_st1 i (va_rf r) lv = lv') (k : eg_AW (own, cc, nL, d, sc, nm, rt) Z N S h0 (pc + 1) lv' st h) : eg_AW (own, cc, nL, d, sc, nm, rt) Z N S h0 pc lv (va_rf r :: st) h := by
  subst he
  exact eg_one k (fun w => eg_os1 w) (fun ad hx hb hown hts hl kk => by
    cases r with
    | none => exact lv_astore_nN hx hb hd ha hl hn (eg_lm_st1 ad i .null lv) kk
    | some x => exact lv_astore_n hx hb hd ha hl hn (eg_lm_st1 ad i (.ref x) lv) kk)
theorem eg_astoreq {i : Nat} {r : Option Nat} (lv' : List (Nat × Value)) (hd : decode cc pc = .ok (.astore i, 2)) (hn : i < nL) (he : eg_st1 i (va_rf r) lv = lv') (k : eg_AW (own, cc, nL, d, sc, nm, rt) Z N S h0 (pc + 2) lv' st h) : eg_AW (own, cc, nL, d, sc, nm, rt) Z N S h0 pc lv (va_rf r :: st) h := by
  subst he
  exact eg_one k (fun w => eg_os1 w) (fun ad hx hb hown hts hl kk => by
    cases r with
    | none => exact lv_astoreN hx hb hd hl hn (eg_lm_st1 ad i .null lv) kk
    | some x => exact lv_astore hx hb hd hl hn (eg_lm_st1 ad i (.ref x) lv) kk)
theorem eg_iinc {i : Nat} {n : Int} {x v : Int32} (j : Nat) (lv' : List (Nat × Value)) (hd : decode cc pc = .ok (.iinc i n, 3)) (hj : lv[j]? = some (i, .int x)) (hv : x + Int32.ofInt n = v) (hn : i < nL) (he : eg_st1 i (.int v) lv = lv') (k : eg_AW (own, cc, nL, d, sc, nm, rt) Z N S h0 (pc + 3) lv' st h) : eg_AW (own, cc, nL, d, sc, nm, rt) Z N S h0 pc lv st h := by
  subst he
  exact eg_one k (fun w => eg_os1 (eg_oc w (eg_vi v))) (fun ad hx hb hown hts hl kk => lv_iinc (k := j) hx hb hd hl (eg_lmat hj) hv hn (eg_lm_st1 ad i (.int v) lv) kk)
theorem eg_iadd {x y : Int32} (hd : decode cc pc = .ok (.iadd, 1)) (k : eg_AW (own, cc, nL, d, sc, nm, rt) Z N S h0 (pc + 1) lv (.int (x + y) :: st) h) : eg_AW (own, cc, nL, d, sc, nm, rt) Z N S h0 pc lv (.int y :: .int x :: st) h :=
  eg_one k (fun w => eg_oc (eg_o1 (eg_o1 w)) (eg_vi _)) (fun ad hx hb hown hts hl kk => lv_iadd hx hb hd (kk _ hl))
theorem eg_isub {x y : Int32} (hd : decode cc pc = .ok (.isub, 1)) (k : eg_AW (own, cc, nL, d, sc, nm, rt) Z N S h0 (pc + 1) lv (.int (x - y) :: st) h) : eg_AW (own, cc, nL, d, sc, nm, rt) Z N S h0 pc lv (.int y :: .int x :: st) h :=
  eg_one k (fun w => eg_oc (eg_o1 (eg_o1 w)) (eg_vi _)) (fun ad hx hb hown hts hl kk => lv_isub hx hb hd (kk _ hl))
theorem eg_imul {x y : Int32} (hd : decode cc pc = .ok (.imul, 1)) (k : eg_AW (own, cc, nL, d, sc, nm, rt) Z N S h0 (pc + 1) lv (.int (x * y) :: st) h) : eg_AW (own, cc, nL, d, sc, nm, rt) Z N S h0 pc lv (.int y :: .int x :: st) h :=
  eg_one k (fun w => eg_oc (eg_o1 (eg_o1 w)) (eg_vi _)) (fun ad hx hb hown hts hl kk => lv_imul hx hb hd (kk _ hl))
theorem eg_iand {x y : Int32} (hd : decode cc pc = .ok (.iand, 1)) (k : eg_AW (own, cc, nL, d, sc, nm, rt) Z N S h0 (pc + 1) lv (.int (x &&& y) :: st) h) : eg_AW (own, cc, nL, d, sc, nm, rt) Z N S h0 pc lv (.int y :: .int x :: st) h :=
  eg_one k (fun w => eg_oc (eg_o1 (eg_o1 w)) (eg_vi _)) (fun ad hx hb hown hts hl kk => lv_iand hx hb hd (kk _ hl))
theorem eg_ior {x y : Int32} (hd : decode cc pc = .ok (.ior, 1)) (k : eg_AW (own, cc, nL, d, sc, nm, rt) Z N S h0 (pc + 1) lv (.int (x ||| y) :: st) h) : eg_AW (own, cc, nL, d, sc, nm, rt) Z N S h0 pc lv (.int y :: .int x :: st) h :=
  eg_one k (fun w => eg_oc (eg_o1 (eg_o1 w)) (eg_vi _)) (fun ad hx hb hown hts hl kk => lv_ior hx hb hd (kk _ hl))
theorem eg_ixor {x y : Int32} (hd : decode cc pc = .ok (.ixor, 1)) (k : eg_AW (own, cc, nL, d, sc, nm, rt) Z N S h0 (pc + 1) lv (.int (x ^^^ y) :: st) h) : eg_AW (own, cc, nL, d, sc, nm, rt) Z N S h0 pc lv (.int y :: .int x :: st) h :=
  eg_one k (fun w => eg_oc (eg_o1 (eg_o1 w)) (eg_vi _)) (fun ad hx hb hown hts hl kk => lv_ixor hx hb hd (kk _ hl))
theorem eg_ishl {x y : Int32} (hd : decode cc pc = .ok (.ishl, 1)) (k : eg_AW (own, cc, nL, d, sc, nm, rt) Z N S h0 (pc + 1) lv (.int (x <<< (y &&& 31)) :: st) h) : eg_AW (own, cc, nL, d, sc, nm, rt) Z N S h0 pc lv (.int y :: .int x :: st) h :=
  eg_one k (fun w => eg_oc (eg_o1 (eg_o1 w)) (eg_vi _)) (fun ad hx hb hown hts hl kk => lv_ishl hx hb hd (kk _ hl))
theorem eg_ishr {x y : Int32} (hd : decode cc pc = .ok (.ishr, 1)) (k : eg_AW (own, cc, nL, d, sc, nm, rt) Z N S h0 (pc + 1) lv (.int (x >>> (y &&& 31)) :: st) h) : eg_AW (own, cc, nL, d, sc, nm, rt) Z N S h0 pc lv (.int y :: .int x :: st) h :=
  eg_one k (fun w => eg_oc (eg_o1 (eg_o1 w)) (eg_vi _)) (fun ad hx hb hown hts hl kk => lv_ishr hx hb hd (kk _ hl))
theorem eg_iushr {x y : Int32} (hd : decode cc pc = .ok (.iushr, 1)) (k : eg_AW (own, cc, nL, d, sc, nm, rt) Z N S h0 (pc + 1) lv (.int ((x.toUInt32 >>> (y.toUInt32 &&& Int32.toUInt32 31)).toInt32) :: st) h) : eg_AW (own, cc, nL, d, sc, nm, rt) Z N S h0 pc lv (.int y :: .int x :: st) h :=
  eg_one k (fun w => eg_oc (eg_o1 (eg_o1 w)) (eg_vi _)) (fun ad hx hb hown hts hl kk => lv_iushr hx hb hd rfl (kk _ hl))
theorem eg_idiv {x y : Int32} (hd : decode cc pc = .ok (.idiv, 1)) (hne : ¬ y = 0) (k : eg_AW (own, cc, nL, d, sc, nm, rt) Z N S h0 (pc + 1) lv (.int (x / y) :: st) h) : eg_AW (own, cc, nL, d, sc, nm, rt) Z N S h0 pc lv (.int y :: .int x :: st) h :=
  eg_one k (fun w => eg_oc (eg_o1 (eg_o1 w)) (eg_vi _)) (fun ad hx hb hown hts hl kk => lv_idiv hx hb hd hne (kk _ hl))
theorem eg_irem {x y : Int32} (hd : decode cc pc = .ok (.irem, 1)) (hne : ¬ y = 0) (k : eg_AW (own, cc, nL, d, sc, nm, rt) Z N S h0 (pc + 1) lv (.int (x % y) :: st) h) : eg_AW (own, cc, nL, d, sc, nm, rt) Z N S h0 pc lv (.int y :: .int x :: st) h :=
  eg_one k (fun w => eg_oc (eg_o1 (eg_o1 w)) (eg_vi _)) (fun ad hx hb hown hts hl kk => lv_irem hx hb hd hne (by rw [irem_eq_mod]; exact kk _ hl))
theorem eg_ineg {x : Int32} (hd : decode cc pc = .ok (.ineg, 1)) (k : eg_AW (own, cc, nL, d, sc, nm, rt) Z N S h0 (pc + 1) lv (.int (-x) :: st) h) : eg_AW (own, cc, nL, d, sc, nm, rt) Z N S h0 pc lv (.int x :: st) h :=
  eg_one k (fun w => eg_oc (eg_o1 w) (eg_vi _)) (fun ad hx hb hown hts hl kk => lv_ineg hx hb hd (kk _ hl))
theorem eg_ladd {x y : Int64} (hd : decode cc pc = .ok (.ladd, 1)) (k : eg_AW (own, cc, nL, d, sc, nm, rt) Z N S h0 (pc + 1) lv (.long (x + y) :: st) h) : eg_AW (own, cc, nL, d, sc, nm, rt) Z N S h0 pc lv (.long y :: .long x :: st) h :=
  eg_one k (fun w => eg_oc (eg_o1 (eg_o1 w)) (eg_vl _)) (fun ad hx hb hown hts hl kk => lv_ladd hx hb hd (kk _ hl))
theorem eg_lsub {x y : Int64} (hd : decode cc pc = .ok (.lsub, 1)) (k : eg_AW (own, cc, nL, d, sc, nm, rt) Z N S h0 (pc + 1) lv (.long (x - y) :: st) h) : eg_AW (own, cc, nL, d, sc, nm, rt) Z N S h0 pc lv (.long y :: .long x :: st) h :=
  eg_one k (fun w => eg_oc (eg_o1 (eg_o1 w)) (eg_vl _)) (fun ad hx hb hown hts hl kk => lv_lsub hx hb hd (kk _ hl))
theorem eg_lmul {x y : Int64} (hd : decode cc pc = .ok (.lmul, 1)) (k : eg_AW (own, cc, nL, d, sc, nm, rt) Z N S h0 (pc + 1) lv (.long (x * y) :: st) h) : eg_AW (own, cc, nL, d, sc, nm, rt) Z N S h0 pc lv (.long y :: .long x :: st) h :=
  eg_one k (fun w => eg_oc (eg_o1 (eg_o1 w)) (eg_vl _)) (fun ad hx hb hown hts hl kk => lv_lmul hx hb hd (kk _ hl))
theorem eg_land {x y : Int64} (hd : decode cc pc = .ok (.land, 1)) (k : eg_AW (own, cc, nL, d, sc, nm, rt) Z N S h0 (pc + 1) lv (.long (x &&& y) :: st) h) : eg_AW (own, cc, nL, d, sc, nm, rt) Z N S h0 pc lv (.long y :: .long x :: st) h :=
  eg_one k (fun w => eg_oc (eg_o1 (eg_o1 w)) (eg_vl _)) (fun ad hx hb hown hts hl kk => lv_land hx hb hd (kk _ hl))
theorem eg_lor {x y : Int64} (hd : decode cc pc = .ok (.lor, 1)) (k : eg_AW (own, cc, nL, d, sc, nm, rt) Z N S h0 (pc + 1) lv (.long (x ||| y) :: st) h) : eg_AW (own, cc, nL, d, sc, nm, rt) Z N S h0 pc lv (.long y :: .long x :: st) h :=
  eg_one k (fun w => eg_oc (eg_o1 (eg_o1 w)) (eg_vl _)) (fun ad hx hb hown hts hl kk => lv_lor hx hb hd (kk _ hl))
theorem eg_ldiv {x y : Int64} (hd : decode cc pc = .ok (.ldiv, 1)) (hne : ¬ y = 0) (k : eg_AW (own, cc, nL, d, sc, nm, rt) Z N S h0 (pc + 1) lv (.long (x / y) :: st) h) : eg_AW (own, cc, nL, d, sc, nm, rt) Z N S h0 pc lv (.long y :: .long x :: st) h :=
  eg_one k (fun w => eg_oc (eg_o1 (eg_o1 w)) (eg_vl _)) (fun ad hx hb hown hts hl kk => lv_ldiv hx hb hd hne (kk _ hl))
theorem eg_lrem {x y : Int64} (hd : decode cc pc = .ok (.lrem, 1)) (hne : ¬ y = 0) (k : eg_AW (own, cc, nL, d, sc, nm, rt) Z N S h0 (pc + 1) lv (.long (x - x / y * y) :: st) h) : eg_AW (own, cc, nL, d, sc, nm, rt) Z N S h0 pc lv (.long y :: .long x :: st) h :=
  eg_one k (fun w => eg_oc (eg_o1 (eg_o1 w)) (eg_vl _)) (fun ad hx hb hown hts hl kk => lv_lrem hx hb hd hne (kk _ hl))
theorem eg_lshl {x : Int64} {y : Int32} (hd : decode cc pc = .ok (.lshl, 1)) (k : eg_AW (own, cc, nL, d, sc, nm, rt) Z N S h0 (pc + 1) lv (.long (x <<< (y.toInt64 &&& 63)) :: st) h) : eg_AW (own, cc, nL, d, sc, nm, rt) Z N S h0 pc lv (.int y :: .long x :: st) h :=
  eg_one k (fun w => eg_oc (eg_o1 (eg_o1 w)) (eg_vl _)) (fun ad hx hb hown hts hl kk => lv_lshl hx hb hd rfl (kk _ hl))
theorem eg_lushr {x : Int64} {y : Int32} (hd : decode cc pc = .ok (.lushr, 1)) (k : eg_AW (own, cc, nL, d, sc, nm, rt) Z N S h0 (pc + 1) lv (.long ((x.toUInt64 >>> (y.toInt64.toUInt64 &&& Int64.toUInt64 63)).toInt64) :: st) h) : eg_AW (own, cc, nL, d, sc, nm, rt) Z N S h0 pc lv (.int y :: .long x :: st) h :=
  eg_one k (fun w => eg_oc (eg_o1 (eg_o1 w)) (eg_vl _)) (fun ad hx hb hown hts hl kk => lv_lushr hx hb hd rfl (kk _ hl))
theorem eg_i2l {x : Int32} (hd : decode cc pc = .ok (.i2l, 1)) (k : eg_AW (own, cc, nL, d, sc, nm, rt) Z N S h0 (pc + 1) lv (.long x.toInt64 :: st) h) : eg_AW (own, cc, nL, d, sc, nm, rt) Z N S h0 pc lv (.int x :: st) h :=
  eg_one k (fun w => eg_oc (eg_o1 w) (eg_vl _)) (fun ad hx hb hown hts hl kk => lv_i2l hx hb hd rfl (kk _ hl))
theorem eg_l2i {x : Int64} (hd : decode cc pc = .ok (.l2i, 1)) (k : eg_AW (own, cc, nL, d, sc, nm, rt) Z N S h0 (pc + 1) lv (.int x.toInt32 :: st) h) : eg_AW (own, cc, nL, d, sc, nm, rt) Z N S h0 pc lv (.long x :: st) h :=
  eg_one k (fun w => eg_oc (eg_o1 w) (eg_vi _)) (fun ad hx hb hown hts hl kk => lv_l2i hx hb hd rfl (kk _ hl))
theorem eg_i2b {x : Int32} (hd : decode cc pc = .ok (.i2b, 1)) (k : eg_AW (own, cc, nL, d, sc, nm, rt) Z N S h0 (pc + 1) lv (.int x.toInt8.toInt32 :: st) h) : eg_AW (own, cc, nL, d, sc, nm, rt) Z N S h0 pc lv (.int x :: st) h :=
  eg_one k (fun w => eg_oc (eg_o1 w) (eg_vi _)) (fun ad hx hb hown hts hl kk => lv_i2b hx hb hd rfl (kk _ hl))
theorem eg_i2c {x : Int32} (hd : decode cc pc = .ok (.i2c, 1)) (k : eg_AW (own, cc, nL, d, sc, nm, rt) Z N S h0 (pc + 1) lv (.int ((x.toUInt32 % 65536).toInt32) :: st) h) : eg_AW (own, cc, nL, d, sc, nm, rt) Z N S h0 pc lv (.int x :: st) h :=
  eg_one k (fun w => eg_oc (eg_o1 w) (eg_vi _)) (fun ad hx hb hown hts hl kk => lv_i2c hx hb hd rfl (kk _ hl))
theorem eg_dup {v : Value} (hd : decode cc pc = .ok (.dup, 1)) (hc : v.category = 1) (k : eg_AW (own, cc, nL, d, sc, nm, rt) Z N S h0 (pc + 1) lv (v :: v :: st) h) : eg_AW (own, cc, nL, d, sc, nm, rt) Z N S h0 pc lv (v :: st) h :=
  eg_one k (fun w => eg_oc w (eg_ot w)) (fun ad hx hb hown hts hl kk => lv_dup hx hb hd (by rw [eg_cat]; exact hc) (kk _ hl))
theorem eg_pop {v : Value} (hd : decode cc pc = .ok (.pop, 1)) (hc : v.category = 1) (k : eg_AW (own, cc, nL, d, sc, nm, rt) Z N S h0 (pc + 1) lv (st) h) : eg_AW (own, cc, nL, d, sc, nm, rt) Z N S h0 pc lv (v :: st) h :=
  eg_one k (fun w => eg_o1 w) (fun ad hx hb hown hts hl kk => lv_pop hx hb hd (by rw [eg_cat]; exact hc) (kk _ hl))
theorem eg_pop2 {v : Value} (hd : decode cc pc = .ok (.pop2, 1)) (hc : v.category = 2) (k : eg_AW (own, cc, nL, d, sc, nm, rt) Z N S h0 (pc + 1) lv (st) h) : eg_AW (own, cc, nL, d, sc, nm, rt) Z N S h0 pc lv (v :: st) h :=
  eg_one k (fun w => eg_o1 w) (fun ad hx hb hown hts hl kk => lv_pop2_2 hx hb hd (by rw [eg_cat]; exact hc) (kk _ hl))
theorem eg_if_eq {x : Int32} {off : Int} (tgt : Nat) (hd : decode cc pc = .ok (.ifCond .eq off, 3)) (ht : (pc : Int) + off = (tgt : Int)) (kt : x = 0 → eg_AW (own, cc, nL, d, sc, nm, rt) Z N S h0 tgt lv st h) (kf : ¬ (x = 0) → eg_AW (own, cc, nL, d, sc, nm, rt) Z N S h0 (pc + 3) lv st h) : eg_AW (own, cc, nL, d, sc, nm, rt) Z N S h0 pc lv (.int x :: st) h :=
  eg_two kt kf (fun w => eg_o1 w) (fun ad hx hb k1 k2 => lv_if_eq hx hb hd ht k1 k2)
theorem eg_ic_eq {x y : Int32} {off : Int} (tgt : Nat) (hd : decode cc pc = .ok (.if_icmp .eq off, 3)) (ht : (pc : Int) + off = (tgt : Int)) (kt : x = y → eg_AW (own, cc, nL, d, sc, nm, rt) Z N S h0 tgt lv st h) (kf : ¬ (x = y) → eg_AW (own, cc, nL, d, sc, nm, rt) Z N S h0 (pc + 3) lv st h) : eg_AW (own, cc, nL, d, sc, nm, rt) Z N S h0 pc lv (.int y :: .int x :: st) h :=
  eg_two kt kf (fun w => eg_o1 (eg_o1 w)) (fun ad hx hb k1 k2 => lv_icmp_eq hx hb hd ht k1 k2)
theorem eg_if_ne {x : Int32} {off : Int} (tgt : Nat) (hd : decode cc pc = .ok (.ifCond .ne off, 3)) (ht : (pc : Int) + off = (tgt : Int)) (kt : x = 0 → eg_AW (own, cc, nL, d, sc, nm, rt) Z N S h0 (pc + 3) lv st h) (kf : ¬ x = 0 → eg_AW (own, cc, nL, d, sc, nm, rt) Z N S h0 tgt lv st h) : eg_AW (own, cc, nL, d, sc, nm, rt) Z N S h0 pc lv (.int x :: st) h :=
  eg_two kt kf (fun w => eg_o1 w) (fun ad hx hb k1 k2 => lv_if_ne hx hb hd ht k2 k1)
theorem eg_ic_ne {x y : Int32} {off : Int} (tgt : Nat) (hd : decode cc pc = .ok (.if_icmp .ne off, 3)) (ht : (pc : Int) + off = (tgt : Int)) (kt : x = y → eg_AW (own, cc, nL, d, sc, nm, rt) Z N S h0 (pc + 3) lv st h) (kf : ¬ x = y → eg_AW (own, cc, nL, d, sc, nm, rt) Z N S h0 tgt lv st h) : eg_AW (own, cc, nL, d, sc, nm, rt) Z N S h0 pc lv (.int y :: .int x :: st) h :=
  eg_two kt kf (fun w => eg_o1 (eg_o1 w)) (fun ad hx hb k1 k2 => lv_icmp_ne hx hb hd ht k2 k1)
theorem eg_if_lt {x : Int32} {off : Int} (tgt : Nat) (hd : decode cc pc = .ok (.ifCond .lt off, 3)) (ht : (pc : Int) + off = (tgt : Int)) (kt : x < 0 → eg_AW (own, cc, nL, d, sc, nm, rt) Z N S h0 tgt lv st h) (kf : ¬ (x < 0) → eg_AW (own, cc, nL, d, sc, nm, rt) Z N S h0 (pc + 3) lv st h) : eg_AW (own, cc, nL, d, sc, nm, rt) Z N S h0 pc lv (.int x :: st) h :=
  eg_two kt kf (fun w => eg_o1 w) (fun ad hx hb k1 k2 => lv_if_lt hx hb hd ht k1 k2)
theorem eg_ic_lt {x y : Int32} {off : Int} (tgt : Nat) (hd : decode cc pc = .ok (.if_icmp .lt off, 3)) (ht : (pc : Int) + off = (tgt : Int)) (kt : x < y → eg_AW (own, cc, nL, d, sc, nm, rt) Z N S h0 tgt lv st h) (kf : ¬ (x < y) → eg_AW (own, cc, nL, d, sc, nm, rt) Z N S h0 (pc + 3) lv st h) : eg_AW (own, cc, nL, d, sc, nm, rt) Z N S h0 pc lv (.int y :: .int x :: st) h :=
  eg_two kt kf (fun w => eg_o1 (eg_o1 w)) (fun ad hx hb k1 k2 => lv_icmp_lt hx hb hd ht k1 k2)
theorem eg_if_ge {x : Int32} {off : Int} (tgt : Nat) (hd : decode cc pc = .ok (.ifCond .ge off, 3)) (ht : (pc : Int) + off = (tgt : Int)) (kt : 0 ≤ x → eg_AW (own, cc, nL, d, sc, nm, rt) Z N S h0 tgt lv st h) (kf : ¬ (0 ≤ x) → eg_AW (own, cc, nL, d, sc, nm, rt) Z N S h0 (pc + 3) lv st h) : eg_AW (own, cc, nL, d, sc, nm, rt) Z N S h0 pc lv (.int x :: st) h :=
  eg_two kt kf (fun w => eg_o1 w) (fun ad hx hb k1 k2 => lv_if_ge hx hb hd ht k1 k2)
theorem eg_ic_ge {x y : Int32} {off : Int} (tgt : Nat) (hd : decode cc pc = .ok (.if_icmp .ge off, 3)) (ht : (pc : Int) + off = (tgt : Int)) (kt : y ≤ x → eg_AW (own, cc, nL, d, sc, nm, rt) Z N S h0 tgt lv st h) (kf : ¬ (y ≤ x) → eg_AW (own, cc, nL, d, sc, nm, rt) Z N S h0 (pc + 3) lv st h) : eg_AW (own, cc, nL, d, sc, nm, rt) Z N S h0 pc lv (.int y :: .int x :: st) h :=
  eg_two kt kf (fun w => eg_o1 (eg_o1 w)) (fun ad hx hb k1 k2 => lv_icmp_ge hx hb hd ht k1 k2)
theorem eg_if_gt {x : Int32} {off : Int} (tgt : Nat) (hd : decode cc pc = .ok (.ifCond .gt off, 3)) (ht : (pc : Int) + off = (tgt : Int)) (kt : 0 < x → eg_AW (own, cc, nL, d, sc, nm, rt) Z N S h0 tgt lv st h) (kf : ¬ (0 < x) → eg_AW (own, cc, nL, d, sc, nm, rt) Z N S h0 (pc + 3) lv st h) : eg_AW (own, cc, nL, d, sc, nm, rt) Z N S h0 pc lv (.int x :: st) h :=
  eg_two kt kf (fun w => eg_o1 w) (fun ad hx hb k1 k2 => lv_if_gt hx hb hd ht k1 k2)
theorem eg_ic_gt {x y : Int32} {off : Int} (tgt : Nat) (hd : decode cc pc = .ok (.if_icmp .gt off, 3)) (ht : (pc : Int) + off = (tgt : Int)) (kt : y < x → eg_AW (own, cc, nL, d, sc, nm, rt) Z N S h0 tgt lv st h) (kf : ¬ (y < x) → eg_AW (own, cc, nL, d, sc, nm, rt) Z N S h0 (pc + 3) lv st h) : eg_AW (own, cc, nL, d, sc, nm, rt) Z N S h0 pc lv (.int y :: .int x :: st) h :=
  eg_two kt kf (fun w => eg_o1 (eg_o1 w)) (fun ad hx hb k1 k2 => lv_icmp_gt hx hb hd ht k1 k2)
theorem eg_if_le {x : Int32} {off : Int} (tgt : Nat) (hd : decode cc pc = .ok (.ifCond .le off, 3)) (ht : (pc : Int) + off = (tgt : Int)) (kt : x ≤ 0 → eg_AW (own, cc, nL, d, sc, nm, rt) Z N S h0 tgt lv st h) (kf : ¬ (x ≤ 0) → eg_AW (own, cc, nL, d, sc, nm, rt) Z N S h0 (pc + 3) lv st h) : eg_AW (own, cc, nL, d, sc, nm, rt) Z N S h0 pc lv (.int x :: st) h :=
  eg_two kt kf (fun w => eg_o1 w) (fun ad hx hb k1 k2 => lv_if_le hx hb hd ht k1 k2)
theorem eg_ic_le {x y : Int32} {off : Int} (tgt : Nat) (hd : decode cc pc = .ok (.if_icmp .le off, 3)) (ht : (pc : Int) + off = (tgt : Int)) (kt : x ≤ y → eg_AW (own, cc, nL, d, sc, nm, rt) Z N S h0 tgt lv st h) (kf : ¬ (x ≤ y) → eg_AW (own, cc, nL, d, sc, nm, rt) Z N S h0 (pc + 3) lv st h) : eg_AW (own, cc, nL, d, sc, nm, rt) Z N S h0 pc lv (.int y :: .int x :: st) h :=
  eg_two kt kf (fun w => eg_o1 (eg_o1 w)) (fun ad hx hb k1 k2 => lv_icmp_le hx hb hd ht k1 k2)
theorem eg_lc_eq {x y : Int64} {off : Int} (tgt : Nat) (hd0 : decode cc pc = .ok (.lcmp, 1)) (hd : decode cc (pc + 1) = .ok (.ifCond .eq off, 3)) (ht : ((pc + 1 : Nat) : Int) + off = (tgt : Int)) (kt : x = y → eg_AW (own, cc, nL, d, sc, nm, rt) Z N S h0 tgt lv st h) (kf : ¬ (x = y) → eg_AW (own, cc, nL, d, sc, nm, rt) Z N S h0 (pc + 4) lv st h) : eg_AW (own, cc, nL, d, sc, nm, rt) Z N S h0 pc lv (.long y :: .long x :: st) h :=
  eg_two kt kf (fun w => eg_o1 (eg_o1 w)) (fun ad hx hb k1 k2 => W.lcmp hx hb hd0 (lv_if_eq hx hb hd ht (fun q => k1 ((lg_cmp_eq x y).mp q)) (fun q => k2 (fun z => q ((lg_cmp_eq x y).mpr z)))))
theorem eg_lc_ne {x y : Int64} {off : Int} (tgt : Nat) (hd0 : decode cc pc = .ok (.lcmp, 1)) (hd : decode cc (pc + 1) = .ok (.ifCond .ne off, 3)) (ht : ((pc + 1 : Nat) : Int) + off = (tgt : Int)) (kt : x = y → eg_AW (own, cc, nL, d, sc, nm, rt) Z N S h0 (pc + 4) lv st h) (kf : ¬ x = y → eg_AW (own, cc, nL, d, sc, nm, rt) Z N S h0 tgt lv st h) : eg_AW (own, cc, nL, d, sc, nm, rt) Z N S h0 pc lv (.long y :: .long x :: st) h :=
  eg_two kt kf (fun w => eg_o1 (eg_o1 w)) (fun ad hx hb k1 k2 => W.lcmp hx hb hd0 (lv_if_ne hx hb hd ht (fun q => k2 (fun z => q ((lg_cmp_eq x y).mpr z))) (fun q => k1 ((lg_cmp_eq x y).mp q))))
theorem eg_lc_lt {x y : Int64} {off : Int} (tgt : Nat) (hd0 : decode cc pc = .ok (.lcmp, 1)) (hd : decode cc (pc + 1) = .ok (.ifCond .lt off, 3)) (ht : ((pc + 1 : Nat) : Int) + off = (tgt : Int)) (kt : x < y → eg_AW (own, cc, nL, d, sc, nm, rt) Z N S h0 tgt lv st h) (kf : ¬ (x < y) → eg_AW (own, cc, nL, d, sc, nm, rt) Z N S h0 (pc + 4) lv st h) : eg_AW (own, cc, nL, d, sc, nm, rt) Z N S h0 pc lv (.long y :: .long x :: st) h :=
  eg_two kt kf (fun w => eg_o1 (eg_o1 w)) (fun ad hx hb k1 k2 => W.lcmp hx hb hd0 (lv_if_lt hx hb hd ht (fun q => k1 ((lg_cmp_lt x y).mp q)) (fun q => k2 (fun z => q ((lg_cmp_lt x y).mpr z)))))
theorem eg_lc_ge {x y : Int64} {off : Int} (tgt : Nat) (hd0 : decode cc pc = .ok (.lcmp, 1)) (hd : decode cc (pc + 1) = .ok (.ifCond .ge off, 3)) (ht : ((pc + 1 : Nat) : Int) + off = (tgt : Int)) (kt : y ≤ x → eg_AW (own, cc, nL, d, sc, nm, rt) Z N S h0 tgt lv st h) (kf : ¬ (y ≤ x) → eg_AW (own, cc, nL, d, sc, nm, rt) Z N S h0 (pc + 4) lv st h) : eg_AW (own, cc, nL, d, sc, nm, rt) Z N S h0 pc lv (.long y :: .long x :: st) h :=
  eg_two kt kf (fun w => eg_o1 (eg_o1 w)) (fun ad hx hb k1 k2 => W.lcmp hx hb hd0 (lv_if_ge hx hb hd ht (fun q => k1 ((lg_cmp_ge x y).mp q)) (fun q => k2 (fun z => q ((lg_cmp_ge x y).mpr z)))))
theorem eg_lc_gt {x y : Int64} {off : Int} (tgt : Nat) (hd0 : decode cc pc = .ok (.lcmp, 1)) (hd : decode cc (pc + 1) = .ok (.ifCond .gt off, 3)) (ht : ((pc + 1 : Nat) : Int) + off = (tgt : Int)) (kt : y < x → eg_AW (own, cc, nL, d, sc, nm, rt) Z N S h0 tgt lv st h) (kf : ¬ (y < x) → eg_AW (own, cc, nL, d, sc, nm, rt) Z N S h0 (pc + 4) lv st h) : eg_AW (own, cc, nL, d, sc, nm, rt) Z N S h0 pc lv (.long y :: .long x :: st) h :=
  eg_two kt kf (fun w => eg_o1 (eg_o1 w)) (fun ad hx hb k1 k2 => W.lcmp hx hb hd0 (lv_if_gt hx hb hd ht (fun q => k1 ((lg_cmp_gt x y).mp q)) (fun q => k2 (fun z => q ((lg_cmp_gt x y).mpr z)))))
theorem eg_lc_le {x y : Int64} {off : Int} (tgt : Nat) (hd0 : decode cc pc = .ok (.lcmp, 1)) (hd : decode cc (pc + 1) = .ok (.ifCond .le off, 3)) (ht : ((pc + 1 : Nat) : Int) + off = (tgt : Int)) (kt : x ≤ y → eg_AW (own, cc, nL, d, sc, nm, rt) Z N S h0 tgt lv st h) (kf : ¬ (x ≤ y) → eg_AW (own, cc, nL, d, sc, nm, rt) Z N S h0 (pc + 4) lv st h) : eg_AW (own, cc, nL, d, sc, nm, rt) Z N S h0 pc lv (.long y :: .long x :: st) h :=
  eg_two kt kf (fun w => eg_o1 (eg_o1 w)) (fun ad hx hb k1 k2 => W.lcmp hx hb hd0 (lv_if_le hx hb hd ht (fun q => k1 ((lg_cmp_le x y).mp q)) (fun q => k2 (fun z => q ((lg_cmp_le x y).mpr z)))))
theorem eg_goto {off : Int} (tgt : Nat) (hd : decode cc pc = .ok (.goto off, 3)) (ht : (pc : Int) + off = (tgt : Int)) (k : eg_AW (own, cc, nL, d, sc, nm, rt) Z N S h0 tgt lv st h) : eg_AW (own, cc, nL, d, sc, nm, rt) Z N S h0 pc lv st h :=
  eg_one k (fun w => w) (fun ad hx hb hown hts hl kk => lv_goto hx hb hd ht (kk _ hl))
theorem eg_ifnull {r : Option Nat} {off : Int} (tgt : Nat) (hd : decode cc pc = .ok (.ifnull off, 3)) (ht : (pc : Int) + off = (tgt : Int)) (kt : r = none → eg_AW (own, cc, nL, d, sc, nm, rt) Z N S h0 tgt lv st h) (kf : ¬ r = none → eg_AW (own, cc, nL, d, sc, nm, rt) Z N S h0 (pc + 3) lv st h) : eg_AW (own, cc, nL, d, sc, nm, rt) Z N S h0 pc lv (va_rf r :: st) h :=
  eg_two kt kf (fun w => eg_o1 w) (fun ad hx hb k1 k2 => by
    cases r with
    | none => exact lv_ifnullN hx hb hd ht (k1 rfl)
    | some x => exact lv_ifnull hx hb hd (k2 (fun q => by cases q)))
theorem eg_ifnonnull {r : Option Nat} {off : Int} (tgt : Nat) (hd : decode cc pc = .ok (.ifnonnull off, 3)) (ht : (pc : Int) + off = (tgt : Int)) (kt : r = none → eg_AW (own, cc, nL, d, sc, nm, rt) Z N S h0 (pc + 3) lv st h) (kf : ¬ r = none → eg_AW (own, cc, nL, d, sc, nm, rt) Z N S h0 tgt lv st h) : eg_AW (own, cc, nL, d, sc, nm, rt) Z N S h0 pc lv (va_rf r :: st) h :=
  eg_two kt kf (fun w => eg_o1 w) (fun ad hx hb k1 k2 => by
    cases r with
    | none => exact lv_ifnonnullN hx hb hd (k1 rfl)
    | some x => exact lv_ifnonnull hx hb hd ht (k2 (fun q => by cases q)))
theorem eg_tIn {dflt lo hi : Int} {offs : Array Int} {len : Nat} {x v : Int32} {off : Int} (tgt : Nat) (hx0 : x = v) (hd : decode cc pc = .ok (.tableswitch dflt lo hi offs, len)) (h1 : ¬ v.toInt < lo) (h2 : ¬ hi < v.toInt) (ho : offs[(v.toInt - lo).toNat]? = some off) (ht : (pc : Int) + off = (tgt : Int)) (k : eg_AW (own, cc, nL, d, sc, nm, rt) Z N S h0 tgt lv st h) : eg_AW (own, cc, nL, d, sc, nm, rt) Z N S h0 pc lv (.int x :: st) h := by
  subst hx0
  exact eg_one k (fun w => eg_o1 w) (fun ad hx hb hown hts hl kk => lv_tableIn hx hb hd h1 h2 ho ht (kk _ hl))
theorem eg_tOut {dflt lo hi : Int} {offs : Array Int} {len : Nat} {x : Int32} (tgt : Nat) (hd : decode cc pc = .ok (.tableswitch dflt lo hi offs, len)) (hr : x.toInt < lo ∨ hi < x.toInt) (ht : (pc : Int) + dflt = (tgt : Int)) (k : eg_AW (own, cc, nL, d, sc, nm, rt) Z N S h0 tgt lv st h) : eg_AW (own, cc, nL, d, sc, nm, rt) Z N S h0 pc lv (.int x :: st) h :=
  eg_one k (fun w => eg_o1 w) (fun ad hx hb hown hts hl kk => lv_tableOut hx hb hd hr ht (kk _ hl))
theorem eg_lsw {dflt : Int} {ps : Array (Int × Int)} {len : Nat} {x : Int32} {off : Int} (tgt : Nat) (hd : decode cc pc = .ok (.lookupswitch dflt ps, len)) (hp : (ps.toList.zip (ps.toList.drop 1)).all (fun (a, next) => a.1 < next.1) = true) (ho : Op.lookupswitch.offset ps.toList dflt x.toInt = off) (ht : (pc : Int) + off = (tgt : Int)) (k : eg_AW (own, cc, nL, d, sc, nm, rt) Z N S h0 tgt lv st h) : eg_AW (own, cc, nL, d, sc, nm, rt) Z N S h0 pc lv (.int x :: st) h :=
  eg_one k (fun w => eg_o1 w) (fun ad hx hb hown hts hl kk => lv_lookup hx hb hd hp ho ht (kk _ hl))
theorem eg_sub (ks : List Nat) (lv' : List (Nat × Value)) (hs : lv_pick lv ks = lv') (k : eg_AW (own, cc, nL, d, sc, nm, rt) Z N S h0 pc lv' st h) : eg_AW (own, cc, nL, d, sc, nm, rt) Z N S h0 pc lv st h := by
  refine eg_one k (fun w => ⟨fun q hq => ?_, w.2⟩) (fun ad hx hb hown hts hl kk => kk _ (lv_sub hl ks ?_))
  · rw [← hs] at hq
    obtain ⟨i, -, hi⟩ := List.mem_filterMap.mp hq
    exact w.1 q (List.mem_of_getElem? hi)
  · rw [← hs]
    unfold lv_pick eg_lm
    rw [List.map_filterMap]
    congr 1
    funext i
    rw [List.getElem?_map]
end RP
