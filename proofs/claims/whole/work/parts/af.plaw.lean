def pl_hh : List (Nat × Nat × Nat × Nat) := [(0, 10, 13, 13)]
def pl_Met (y : MethodName) (cc : ByteArray) (nL : Nat) (rt : Option FieldType) (d : Nat) (av : List Value) (h : eg_H) (rv : Option Value) (h' : eg_H) (mc ms : Nat) : Prop :=
  ∀ (l : Launch) (D : va_G) (dA : Nat → ClassId) (ad : Nat → Nat) (sz : Nat), l.stackTraces = false → (∀ v ∈ av, eg_vk (eg_nc h) v) →
    Met l y (.codeWith y cc nL rt pl_hh :: eg_G) (eg_rm d mc ms) (va_Pc (av.map (eg_cv ad)) (px_World D dA ad h sz)) (eg_Qm D dA ad h (va_A (eg_ws dA ad h) sz) rv h') mc ms (va_A (eg_ws dA ad h) sz)
theorem pl_ofWH {l : Launch} {y : MethodName} {ws ws' : List Cond} {rm : Room} {Pc : Array Value → State → Prop} {Qc : Array Value → State → Outcome → State → Prop} {mc ms : Nat} {free : Addr → Prop} {cc : ByteArray} {maxL : Nat} {ret : Option FieldType} {hh : List (Nat × Nat × Nat × Nat)}
    (hy : plainName y.cls = true) (hw : ws = Cond.codeWith y cc maxL ret hh :: ws')
    (body : ∀ p e s m args below meth c s₁, BodyLoose p l y (headSpec ws rm) cc maxL ret e s m args below meth c s₁ → c.maxLocals = maxL → Pc args s →
      W p l e (headSpec ws rm).room s m args below meth c s.heap [] 0 0 (MQ below Qc args s mc ms free) (entryFrame m args maxL)) : Met l y ws rm Pc Qc mc ms free := by
  refine MetFree.of_bodyS (code := cc) (maxLocals := maxL) (ret := ret) hy ?_ ?_
  · intro args s m h hn
    obtain ⟨m9, meth, c, hn9, h1, h2, h3, h4, -, h5, h6, -⟩ := Cond.codeWith_spec (atoms_spec (ws := ws) h _ (by rw [hw]; exact List.mem_cons_self))
    cases hn.symm.trans hn9
    exact ⟨meth, c, h1, h2, h3, h4, h5, h6⟩
  · intro p e s m args below meth c s₁ B hml hP _
    have hh0 : s₁.heap = s.heap := by rw [B.state]; rfl
    obtain ⟨t, a1, o, b1, b2, b3⟩ := body p e s m args below meth c s₁ B hml hP s₁ hh0 (Stand.of_body B)
    exact ⟨t, o, a1, b1, b2, ⟨b3.1, b3.2⟩⟩
theorem pl_enter {y : MethodName} {cc : ByteArray} {nL d mc ms N S : Nat} {rt : Option FieldType} {av : List Value} {h h' : eg_H} {rv : Option Value} {Z : eg_C → State → Prop} (hpl : plainName y.cls = true) (hsl : (lg_sl av).length ≤ nL)
    (k : eg_AW (y.cls, cc, nL, d, none, y.name, rt) Z N S h 0 (lv_args 0 av) [] h) (hN : N - eg_nc h ≤ mc) (hS : S - eg_ns h ≤ ms)
    (hZ : ∀ (p : Program) (l : Launch) (e : Env) (R : Room) (s : State) (m : MethodId) (args : Array Value) (below : List Frame) (meth : Method) (c : Code) (A : Nat → Prop) (D : va_G) (dA : Nat → ClassId) (ad0 : Nat → Nat) (t : State), l.stackTraces = false → px_Z A s s.heap → c.exceptionTable.toList = tableOf pl_hh → Z (p, l, e, R, s, m, args, below, meth, c, A, D, dA, ad0) t → MQ below (eg_Qm D dA ad0 h A rv h') args s mc ms A t) : pl_Met y cc nL rt d av h rv h' mc ms := by
  intro l D dA ad sz hlt hav
  refine pl_ofWH (cc := cc) (maxL := nL) (ret := rt) (hh := pl_hh) hpl rfl ?_
  intro p e s m args below meth c s₁ B hml hv
  obtain ⟨rfl, ⟨hsz, hP, hK, hD0, hwf, hXt⟩, hZ0⟩ := hv
  have hts := atoms_spec (ws := .codeWith y cc nL rt pl_hh :: eg_G) B.pre
  have hown : s.vm.findClass y.cls = some m.cls := findClass_of_methodNamed B.named
  have htab : c.exceptionTable.toList = tableOf pl_hh := vx_table (x := y) B (hts _ List.mem_cons_self)
  subst hsz
  have hD := hD0.self (sz := s.heap.size)
  have hin : meth.name = y.name := (name_of_methodNamed B.named B.method).1
  have hl := lv_entry (av.map (eg_cv ad)) (n := nL) (by rw [eg_slw]; exact hsl)
  rw [lg_entry_eq]
  rw [eg_args_map] at hl
  have k2 := k.2 (p, l, e, eg_rm d mc ms, s, m, (av.map (eg_cv ad)).toArray, below, meth, c, va_A (eg_ws dA ad h) s.heap.size, D, dA, ad) ⟨B.exec, B.bytes, hml, hown, fun w hw => hts w (List.mem_cons_of_mem _ hw), hK, fun q hq => Or.inr hq, Nat.le_refl _, Nat.le_refl _, hN, hS, hXt, fun L xs g q => (by cases q), hin, B.returns, B.notSynchronized⟩
  have k3 := k2 ad s.heap [] _ hl (eg_args_ok 0 av hav) ⟨hP, hD, va_S.rf, hwf, fun _ _ => rfl, Nat.le_refl _, Nat.le_refl _, hwf.1⟩
  rw [Nat.sub_self, Nat.sub_self] at k3
  intro T hT X
  obtain ⟨t, a, b⟩ := k3 T hT X
  exact ⟨t, a, hZ _ _ _ _ _ _ _ _ _ _ _ _ _ _ _ hlt hZ0 htab b⟩
def pl_Zt (h : eg_H) : eg_C → State → Prop := fun (_, l, _, _, s, _, args, below, _, c, A, D, dA, ad0) t => l.stackTraces = false → px_Z A s s.heap → c.exceptionTable.toList = tableOf pl_hh → MQ below (eg_Qm D dA ad0 h A (some (.int 1)) h) args s 1 6 A t
theorem hy_L_person : yX12_person.cls = yX12_person.cls ∧ yX12_person.cls ≠ "java/lang/invoke/MethodHandle" ∧ yX12_person.cls ≠ "java/lang/invoke/VarHandle" ∧ (parseMethodDescriptor yX12_person.desc).map (fun d => d.parameters.length) = some 2 := hy_X12_person
theorem pl_5 {h : eg_H} {U : Nat → Nat} {P E : Nat} {p w : Int32} (hs : eg_stt h) (V : XV h U P E) (hg : ¬ (G1 P p ∧ GI (nI 0) (nI 3) w)) : eg_AW (RLw, cL_person, 5, 10, none, "person", some .int) (pl_Zt h) (eg_nc h + 1) (eg_ns h + 6) h 5 [(0, .ref 16), (1, .int p), (2, .int w), (3, .ref 94)] [.int w, .int p, .ref 16, .int 0, .ref 94] h := by
  refine ⟨⟨⟨Nat.le_succ _, Nat.le_add_right _ _⟩, Nat.le_refl _⟩, fun X hX => ?_⟩
  obtain ⟨p', l, e, R, s, m, args, below, meth, c, A, D, dA, ad0⟩ := X
  intro ad H locs ls hl hok hr
  obtain ⟨x1, x2, x3, x4, x5, x6, x7, x8, x9, x10, x11, x12, x13, x14, x15, x16⟩ := hX
  obtain ⟨r1, r2, r3, r4, r5, r6, r7, r8⟩ := hr
  have x8 : 10 ≤ R.frames := x8
  have x9 : 64 * 10 ≤ R.locals := x9
  have x10 : eg_nc h + 1 - eg_nc h + 0 ≤ R.cells := x10
  have x11 : eg_ns h + 6 - eg_ns h + 16 * 0 ≤ R.slots := x11
  show W p' l e R s m args below meth c H locs (eg_nc h - eg_nc h + 0) (eg_ns h - eg_ns h + 16 * 0) (pl_Zt h (p', l, e, R, s, m, args, below, meth, c, A, D, dA, ad0)) (F0 m 5 ls ([Value.int w, .int p, .ref 16, .int 0, .ref 94].map (eg_cv ad)))
  rw [Nat.sub_self, Nat.sub_self]
  by_cases E : l.stackTraces = false ∧ px_Z A s s.heap ∧ c.exceptionTable.toList = tableOf pl_hh
  rotate_left
  · intro T hT X
    exact ⟨_, Steps.refl _, fun a b c => absurd ⟨a, b, c⟩ E⟩
  have hAA : ∀ q, va_A (eg_ws dA ad h) H.size q → A q := by
    intro q hq
    rcases hq with ⟨k, e, hq⟩ | hq
    · exact r2.2 k (q, e) hq
    · exact x7 q (Nat.le_trans r3.1 hq)
  have hXt : eg_Xt ad (va_A (eg_ws dA ad h) H.size) s H := eg_Xt_kept (eg_Xt_ad x12 (fun k hk => r5 k (by omega))) r3.2.1 hAA
  have hZx : px_Z (va_A (eg_ws dA ad h) H.size) s H := px_Z_kept E.2.1 r3.2.1 hAA
  have hat := eg_ws_at dA ad h (iO_16 hs).1 (eg_kd_lt (iO_16 hs).2 (by omega))
  rw [(iO_16 hs).2, eg_ce_O (by omega)] at hat
  have hrec := va_recv x6 r1 (eg_clat 12 (by omega)) hat
  have hG : GoodIn eg_G (wsV RLw 7 yX12_person.cls yX12_person (.code yX12_person cX12_person 3 (some .int) :: eg_G)) := eg_gds (ws := [.methodLink RLw 7 yX12_person, .instanceMethod yX12_person, .selects yX12_person.cls yX12_person yX12_person, .initialized yX12_person.cls]) ew_1359 (fun w hw => by
    simp only [List.mem_cons, List.not_mem_nil, or_false] at hw
    rcases hw with rfl | rfl | rfl | rfl
    · exact ew_1356
    · exact ew_1357
    · exact ew_1358
    · exact ew_100)
  have hrun : vx_Run p' l e R s m args below meth c H locs 0 (16 * 0) 1 6 (F0 m 5 ls ([Value.int w, .int p, .ref 16, .int 0, .ref 94].map (eg_cv ad))) ([Value.int 0, .ref 94].map (eg_cv ad)) ((fun _ _ _ _ => False : Array Value → State → Outcome → State → Prop) (Value.ref (ad 16) :: [Value.int p, .int w]).toArray) (px_X D dA ad (va_A (eg_ws dA ad h) H.size) h) (va_A (eg_ws dA ad h) H.size) :=
    vx_runV (As := [Value.int p, .int w]) (rest := [Value.int 0, .ref 94].map (eg_cv ad)) (b := ad 16) (C := yX12_person.cls) (Ts := eg_G) (own := RLw) ⟨x1, x2, x3, x4, x5⟩ (px_throws hs V hg l D dA ad H.size E.1 (fun v hv => by
        simp only [List.mem_cons, List.not_mem_nil, or_false] at hv
        rcases hv with rfl | rfl | rfl
        · exact hok.2 _ (by simp)
        · exact eg_vi _
        · exact eg_vi _)) (cwV 2 x5 hG rfl rfl rfl hy_L_person ⟨by show 8 + 1 ≤ R.frames; omega, by show 8 + (3 + 11) + 64 * 8 ≤ R.locals; omega⟩) ⟨px_blind, hrec, fun U hU hW => ⟨rfl, ⟨by rw [hU], by rw [hU]; exact r1, va_K.moved hW.alike x6, r2.weaken (fun _ _ _ _ => trivial), r4, by rw [hU]; exact eg_Xt_warm hXt hW⟩, by rw [hU]; exact px_Z_moved hZx hW.alike⟩⟩ rfl rfl hl.1 rfl (lv_room (Nat.le_of_ble_eq_true rfl)) dL_person_5 ⟨by omega, by omega⟩
  intro T hT X
  rcases hrun T hT X with ⟨v, st₀, t, T', L, h0, X', hL, e1, e2, hq, st⟩ | ⟨q, st₀, t, T', L, E9, ce, h0, X', hL, e1, e2, ⟨rfl, hP1, hz, hk⟩, hce, hcv, hcl, st⟩
  · exact hq.elim
  rw [h0] at hz hk
  have hS1 : va_S A s.heap T'.heap (locs ++ L) := ⟨Nat.le_trans r3.1 (by rw [e1]; exact hz), fun q g1 g2 => by rw [e1, hk q (Nat.lt_of_lt_of_le g1 r3.1) (fun z => g2 (hAA q z))]; exact r3.2.1 q g1 g2, fun q hq => by
      rcases List.mem_append.mp hq with z | z
      · exact r3.2.2 q z
      · exact hAA _ (hL q z)⟩
  have wc : vx_W p' l e R s m args below meth c T'.heap (locs ++ L) (0 + 1) (16 * 0 + 6) (MQ below (eg_Qm D dA ad0 h A (some (.int 1)) h) args s 1 6 A) (F0 m 5 ls ([Value.int 0, .ref 94].map (eg_cv ad))) q := by
    refine vx_catch (own := RLw) (name := "java/util/NoSuchElementException") (E := "java/util/NoSuchElementException") x4 [] ⟨0, 10, 13, 13⟩ [] (by rw [E.2.2]; rfl) (fun z hz => by cases hz) rfl (by decide) (x5 _ ew_1355) (va_Nw.use rfl E.2.1.2.2.1) (by rw [e1]; exact hce) hcv hcl ?_
    refine lv_astore (lv' := [(4, .ref q), (0, .ref (ad 16)), (1, .int p), (2, .int w), (3, .ref (ad 94))]) x1 x2 dL_person_13 hl (Nat.le_of_ble_eq_true rfl) rfl (fun ls2 hl2 => ?_)
    refine lv_iconst (v := (1 : Int32)) x1 x2 dL_person_15 (by decide) ?_
    exact W.iret x1 x2 x15 (fun t9 ht9 hW9 => ⟨⟨ad, rfl, r5, by rw [ht9, e1]; exact hP1, r2, r4, fun v hv => by cases hv; exact eg_vi _⟩, hS1.F ht9⟩) hS1.2.2 dL_person_16 x16
  obtain ⟨t2, a1, b1⟩ := wc T' rfl X'
  exact ⟨t2, st.trans a1, fun _ _ _ => b1⟩
theorem pl_throws {h : eg_H} {U : Nat → Nat} {P E : Nat} {p w : Int32} (hs : eg_stt h) (V : XV h U P E) (hg : ¬ (G1 P p ∧ GI (nI 0) (nI 3) w)) : pl_Met yL_person cL_person 5 (some .int) 10 [.ref 16, .int p, .int w, .ref 94] h (some (.int 1)) h 1 6 := by
  refine pl_enter (N := eg_nc h + 1) (S := eg_ns h + 6) (Z := pl_Zt h) rfl (Nat.le_of_ble_eq_true rfl) ?_ (by omega) (by omega) (fun p l e R s m args below meth c A D dA ad0 t a b c z => z a b c)
  show eg_AW (RLw, cL_person, 5, 10, none, "person", some .int) (pl_Zt h) (eg_nc h + 1) (eg_ns h + 6) h 0 [(0, .ref 16), (1, .int p), (2, .int w), (3, .ref 94)] [] h
  refine eg_aload_n (i := 3) 3 dL_person_0 rfl rfl ?_
  refine eg_iconst (v := (0 : Int32)) dL_person_1 (by decide) ?_
  refine eg_aload_n (i := 0) 0 dL_person_2 rfl rfl ?_
  refine eg_iload_n (i := 1) 1 dL_person_3 rfl rfl ?_
  refine eg_iload_n (i := 2) 2 dL_person_4 rfl rfl ?_
  exact pl_5 hs V hg
theorem pl_returns {h : eg_H} {U : Nat → Nat} {P E : Nat} (hs : eg_stt h) (V : XV h U P E) (hU : 0 < P → Uok U P E) (hP : P < 2 ^ 31) {p w : Int32} (hg : G1 P p ∧ GI (nI 0) (nI 3) w) : pl_Met yL_person cL_person 5 (some .int) 10 [.ref 16, .int p, .int w, .ref 94] h (some (.int 0)) (eg_sL h 94 0 (nI (U (4 + 4 * dN p + dN w))).toInt64) 0 0 := by
  refine pl_enter (N := eg_nc h) (S := eg_ns h) (Z := eg_Zm (some (.int 0)) (eg_sL h 94 0 (nI (U (4 + 4 * dN p + dN w))).toInt64) h) rfl (Nat.le_of_ble_eq_true rfl) ?_ (by omega) (by omega) (fun p' l e R s m args below meth c A D dA ad0 t a b c z => by
    have z : MQ below (eg_Qm D dA ad0 h A (some (.int 0)) (eg_sL h 94 0 (nI (U (4 + 4 * dN p + dN w))).toInt64)) args s (eg_nc h - eg_nc h) (eg_ns h - eg_ns h) A t := z
    rw [Nat.sub_self, Nat.sub_self] at z
    exact z)
  show eg_AW (RLw, cL_person, 5, 10, none, "person", some .int) (eg_Zm (some (.int 0)) (eg_sL h 94 0 (nI (U (4 + 4 * dN p + dN w))).toInt64) h) (eg_nc h) (eg_ns h) h 0 [(0, .ref 16), (1, .int p), (2, .int w), (3, .ref 94)] [] h
  refine eg_aload_n (i := 3) 3 dL_person_0 rfl rfl ?_
  refine eg_iconst (v := (0 : Int32)) dL_person_1 (by decide) ?_
  refine eg_aload_n (i := 0) 0 dL_person_2 rfl rfl ?_
  refine eg_iload_n (i := 1) 1 dL_person_3 rfl rfl ?_
  refine eg_iload_n (i := 2) 2 dL_person_4 rfl rfl ?_
  refine eg_callV (c := 12) (n := 2) [.int p, .int w] dL_person_5 (px_returns hs V hU hP hg) rfl (iO_16 hs) (Nat.le_of_ble_eq_true rfl) rfl ew_1356 ew_1357 ew_1358 ew_100 ew_1359 hy_X12_person rfl (Nat.le_of_ble_eq_true rfl) (Nat.le_of_ble_eq_true rfl) (Nat.le_of_ble_eq_true rfl) ?_
  refine eg_i2l dL_person_8 ?_
  refine eg_last dL_person_9 (wL_94 (i := 0) hs (by decide) (by decide)) ?_
  refine eg_goto 17 dL_person_10 rfl ?_
  refine eg_iconst (v := (0 : Int32)) dL_person_17 (by decide) ?_
  exact eg_iret (h := eg_sL h 94 0 (nI (U (4 + 4 * dN p + dN w))).toInt64) dL_person_18
