def eg_Qm (D : va_G) (dA : Nat → ClassId) (ad0 : Nat → Nat) (h0 : eg_H) (A : Nat → Prop) (rv : Option Value) (hf : eg_H) : Array Value → State → Outcome → State → Prop := fun _ st oc t =>
  (∃ ad : Nat → Nat, oc = .returned (rv.map (eg_cv ad)) ∧ (∀ k, k < eg_nc h0 → ad k = ad0 k) ∧ va_P D eg_cl (eg_ws dA ad hf) t.heap ∧ va_D A (eg_ws dA ad hf) ∧ eg_wf hf ∧ (∀ v, rv = some v → eg_vk (eg_nc hf) v)) ∧ va_F A st t
def eg_Zm (rv : Option Value) (hf h0 : eg_H) : eg_C → State → Prop := fun (p, l, e, R, s, m, args, below, meth, c, A, D, dA, ad0) =>
  MQ below (eg_Qm D dA ad0 h0 A rv hf) args s (eg_nc hf - eg_nc h0) (eg_ns hf - eg_ns h0) A
def eg_World (D : va_G) (dA : Nat → ClassId) (ad : Nat → Nat) (h : eg_H) (sz : Nat) (U : State) : Prop :=
  U.heap.size = sz ∧ va_P D eg_cl (eg_ws dA ad h) U.heap ∧ va_K D eg_cl (eg_tys dA) U ∧ va_D (fun _ => True) (eg_ws dA ad h) ∧ eg_wf h ∧ eg_Xt ad (va_A (eg_ws dA ad h) sz) U U.heap
def eg_rm (d mc ms : Nat) : Room := { frames := d, cells := mc, slots := ms, locals := 64 * d }
def eg_Met (y : MethodName) (cc : ByteArray) (nL : Nat) (rt : Option FieldType) (d : Nat) (av : List Value) (h : eg_H) (rv : Option Value) (h' : eg_H) : Prop :=
  (eg_nc h ≤ eg_nc h' ∧ eg_ns h ≤ eg_ns h') ∧ ∀ (l : Launch) (D : va_G) (dA : Nat → ClassId) (ad : Nat → Nat) (sz : Nat), (∀ v ∈ av, eg_vk (eg_nc h) v) →
    Met l y (.code y cc nL rt :: eg_G) (eg_rm d (eg_nc h' - eg_nc h) (eg_ns h' - eg_ns h)) (va_Pc (av.map (eg_cv ad)) (eg_World D dA ad h sz)) (eg_Qm D dA ad h (va_A (eg_ws dA ad h) sz) rv h') (eg_nc h' - eg_nc h) (eg_ns h' - eg_ns h) (va_A (eg_ws dA ad h) sz)
theorem eg_args_map (ad : Nat → Nat) : ∀ (i : Nat) (av : List Value), lv_args i (av.map (eg_cv ad)) = eg_lm ad (lv_args i av) := by
  intro i av
  induction av generalizing i with
  | nil => rfl
  | cons v l ih =>
    simp only [List.map_cons, lv_args, eg_cat, ih]
    rfl
theorem eg_slw (ad : Nat → Nat) (av : List Value) : (lg_sl (av.map (eg_cv ad))).length = (lg_sl av).length := by
  induction av with
  | nil => rfl
  | cons v l ih =>
    simp only [lg_sl, List.map_cons, List.flatMap_cons, List.length_append, eg_cat] at ih ⊢
    rw [ih]
    by_cases hv : v.category = 2
    · simp [hv]
    · simp [hv]
theorem eg_args_ok {n : Nat} : ∀ (i : Nat) (av : List Value), (∀ v ∈ av, eg_vk n v) → eg_ok n (lv_args i av) [] := by
  intro i av h
  refine ⟨fun q hq => ?_, fun v hv => by cases hv⟩
  induction av generalizing i with
  | nil => cases hq
  | cons v l ih =>
    simp only [lv_args] at hq
    rcases List.mem_cons.mp hq with z | z
    · rw [z]; exact h v List.mem_cons_self
    · exact ih _ (fun w hw => h w (List.mem_cons_of_mem _ hw)) z
theorem eg_enter {y : MethodName} {cc : ByteArray} {nL d : Nat} {rt : Option FieldType} {av : List Value} {h h' : eg_H} {rv : Option Value} (hpl : plainName y.cls = true) (hsl : (lg_sl av).length ≤ nL)
    (k : eg_AW (y.cls, cc, nL, d, none, y.name, rt) (eg_Zm rv h' h) (eg_nc h') (eg_ns h') h 0 (lv_args 0 av) [] h) : eg_Met y cc nL rt d av h rv h' := by
  refine ⟨k.1.1, fun l D dA ad sz hav => ?_⟩
  refine Met.ofW (cc := cc) (maxL := nL) (ret := rt) hpl rfl ?_
  intro p e s m args below meth c s₁ B hml hv
  obtain ⟨rfl, hsz, hP, hK, hD0, hwf, hXt⟩ := hv
  have hts := atoms_spec (ws := .code y cc nL rt :: eg_G) B.pre
  have hown : s.vm.findClass y.cls = some m.cls := findClass_of_methodNamed B.named
  subst hsz
  have hD := hD0.self (sz := s.heap.size)
  have hin : meth.name = y.name := (name_of_methodNamed B.named B.method).1
  have hl := lv_entry (av.map (eg_cv ad)) (n := nL) (by rw [eg_slw]; exact hsl)
  rw [lg_entry_eq]
  rw [eg_args_map] at hl
  have k2 := k.2 (p, l, e, eg_rm d (eg_nc h' - eg_nc h) (eg_ns h' - eg_ns h), s, m, (av.map (eg_cv ad)).toArray, below, meth, c, va_A (eg_ws dA ad h) s.heap.size, D, dA, ad) ⟨B.exec, B.bytes, hml, hown, fun w hw => hts w (List.mem_cons_of_mem _ hw), hK, fun q hq => Or.inr hq, Nat.le_refl _, Nat.le_refl _, Nat.le_refl _, Nat.le_refl _, hXt, fun L xs g q => (by cases q), hin, B.returns, B.notSynchronized⟩
  have k3 := k2 ad s.heap [] _ hl (eg_args_ok 0 av hav) ⟨hP, hD, va_S.rf, hwf, fun _ _ => rfl, Nat.le_refl _, Nat.le_refl _, hwf.1⟩
  rw [Nat.sub_self, Nat.sub_self] at k3
  exact k3
section RC
variable {own : String} {cc : ByteArray} {nL d : Nat} {sc : Option (Nat × (Nat → Int32) × Nat)} {nm : String} {rt : Option FieldType} {h0 : eg_H} {pc : Nat} {lv : List (Nat × Value)} {st : List Value} {h : eg_H}
theorem eg_end {rv : Option Value} (hf : ∀ v, rv = some v → v ∈ st)
    (f : ∀ {p : Program} {l : Launch} {e : Env} {R : Room} {s : State} {m : MethodId} {args : Array Value} {below : List Frame} {meth : Method} {c : Code} {H : Heap} {locs : List Loc} {cells slots : Nat} {ls : Array Slot} {A : Nat → Prop} {D : va_G} {dA : Nat → ClassId} {ad0 : Nat → Nat} (ad : Nat → Nat), p.tables.exec = Jvm.exec → c.code = cc → meth.sig.returnType = rt → meth.locks = false →
      (∀ t : State, t.heap = H → s.WarmedH t.vm → eg_Qm D dA ad0 h0 A rv h args s (.returned (rv.map (eg_cv ad))) t) → (∀ q ∈ locs, A q.base) → W p l e R s m args below meth c H locs cells slots (MQ below (eg_Qm D dA ad0 h0 A rv h) args s cells slots A) (F0 m pc ls (st.map (eg_cv ad)))) :
    eg_AW (own, cc, nL, d, none, nm, rt) (eg_Zm rv h h0) (eg_nc h) (eg_ns h) h0 pc lv st h := by
  refine ⟨⟨⟨Nat.le_refl _, Nat.le_refl _⟩, Nat.le_refl _⟩, fun X hX => ?_⟩
  obtain ⟨p, l, e, R, s, m, args, below, meth, c, A, D, dA, ad0⟩ := X
  intro ad H locs ls hl hok hr
  obtain ⟨x1, x2, x3, x4, x5, x6, x7, x8, x9, x10, x11, x12, x13, x14, x15, x16⟩ := hX
  obtain ⟨r1, r2, r3, r4, r5, r6, r7, r8⟩ := hr
  exact f ad x1 x2 x15 x16 (fun t ht hW => ⟨⟨ad, rfl, r5, by rw [ht]; exact r1, r2, r4, fun v hv => hok.2 v (hf v hv)⟩, r3.F ht⟩) r3.2.2
theorem eg_iret {x : Int32} (hd : decode cc pc = .ok (.ireturn, 1)) : eg_AW (own, cc, nL, d, none, nm, some .int) (eg_Zm (some (.int x)) h h0) (eg_nc h) (eg_ns h) h0 pc lv [.int x] h :=
  eg_end (fun v hv => by cases hv; exact List.mem_cons_self) (fun ad hx hb hr hlk hq hfr => W.iret hx hb hr hq hfr hd hlk)
theorem eg_zret {x : Int32} (hd : decode cc pc = .ok (.ireturn, 1)) (hz : x = 0 ∨ x = 1) : eg_AW (own, cc, nL, d, none, nm, some .boolean) (eg_Zm (some (.int x)) h h0) (eg_nc h) (eg_ns h) h0 pc lv [.int x] h :=
  eg_end (fun v hv => by cases hv; exact List.mem_cons_self) (fun ad hx hb hr hlk hq hfr => W.zret hx hb hr (by rcases hz with rfl | rfl <;> rfl) hq hfr hd hlk)
theorem eg_lret {x : Int64} (hd : decode cc pc = .ok (.lreturn, 1)) : eg_AW (own, cc, nL, d, none, nm, some .long) (eg_Zm (some (.long x)) h h0) (eg_nc h) (eg_ns h) h0 pc lv [.long x] h :=
  eg_end (fun v hv => by cases hv; exact List.mem_cons_self) (fun ad hx hb hr hlk hq hfr => W.lret hx hb hr hq hfr hd hlk)
theorem eg_vret (hd : decode cc pc = .ok (.return_, 1)) : eg_AW (own, cc, nL, d, none, nm, none) (eg_Zm none h h0) (eg_nc h) (eg_ns h) h0 pc lv [] h :=
  eg_end (fun v hv => by cases hv) (fun ad hx hb hr hlk hq hfr => W.vret hx hb hr hq hfr hd hlk)
theorem eg_aret {r : Option Nat} {ty : FieldType} (hd : decode cc pc = .ok (.areturn, 1)) (ht : (∃ n, ty = .object n) ∨ ∃ t, ty = .array t) : eg_AW (own, cc, nL, d, none, nm, some ty) (eg_Zm (some (va_rf r)) h h0) (eg_nc h) (eg_ns h) h0 pc lv [va_rf r] h :=
  eg_end (fun v hv => by cases hv; exact List.mem_cons_self) (fun ad hx hb hr hlk hq hfr => W.aret hx hb hr ht (by rw [eg_cv_q]; cases r with
    | none => exact Or.inl rfl
    | some k => exact Or.inr ⟨_, rfl⟩) hq hfr hd hlk)
variable {Z : eg_C → State → Prop} {N S : Nat}
theorem eg_blind {av : List Value} {D : va_G} {dA : Nat → ClassId} {ad : Nat → Nat} {sz : Nat} : FrameBlind (va_Pc av (eg_World D dA ad h sz)) := by
  intro a U g mk q
  obtain ⟨q0, q1, qP, qK, qD, qw, qX⟩ := q
  exact ⟨q0, q1, qP, va_K.moved (u := U) (U := U.calling g mk a) (Vm.Alike.refl U.vm) qK, qD, qw, eg_Xt_same (s := U) (U := U.calling g mk a) qX rfl⟩
theorem eg_call {y : MethodName} {bytes : ByteArray} {maxL dc : Nat} {rtc : Option FieldType} {av : List Value} {rv : Option Value} {h1 : eg_H} {sta : List Value} (hM : eg_Met y bytes maxL rtc dc av h rv h1) (hav : ∀ v ∈ av, v ∈ sta) (hsub : ∀ v ∈ st, v ∈ sta)
    (kk : eg_AW (own, cc, nL, d, sc, nm, rt) Z N S h0 (pc + 3) lv (rv.toList ++ st) h1)
    (f : ∀ {p : Program} {l : Launch} {e : Env} {R : Room} {s : State} {m : MethodId} {args : Array Value} {below : List Frame} {meth : Method} {c : Code} {H : Heap} {locs : List Loc} {cells slots : Nat} {ls : Array Slot} {A : Nat → Prop} {D : va_G} {dA : Nat → ClassId} (ad : Nat → Nat), CallFix p m c cc nL s args eg_G own → eg_Xt ad A s s.heap → d ≤ R.frames → 64 * d ≤ R.locals → lv_has ls nL (eg_lm ad lv) → va_K D eg_cl (eg_tys dA) s → va_P D eg_cl (eg_ws dA ad h) H →
      (cells + (eg_nc h1 - eg_nc h) ≤ R.cells ∧ slots + (eg_ns h1 - eg_ns h) ≤ R.slots) → Met l y (.code y bytes maxL rtc :: eg_G) (eg_rm dc (eg_nc h1 - eg_nc h) (eg_ns h1 - eg_ns h)) (va_Pc (av.map (eg_cv ad)) (eg_World D dA ad h H.size)) (eg_Qm D dA ad h (va_A (eg_ws dA ad h) H.size) rv h1) (eg_nc h1 - eg_nc h) (eg_ns h1 - eg_ns h) (va_A (eg_ws dA ad h) H.size) →
      PreS s H (va_Pc (av.map (eg_cv ad)) (eg_World D dA ad h H.size)) (av.map (eg_cv ad)) →
      va_Run p l e R s m args below meth c H locs cells slots (eg_nc h1 - eg_nc h) (eg_ns h1 - eg_ns h) (F0 m pc ls (sta.map (eg_cv ad))) (st.map (eg_cv ad)) (eg_Qm D dA ad h (va_A (eg_ws dA ad h) H.size) rv h1 (av.map (eg_cv ad)).toArray) (va_A (eg_ws dA ad h) H.size)) :
    eg_AW (own, cc, nL, d, sc, nm, rt) Z N S h0 pc lv sta h := by
  obtain ⟨⟨b1, b2⟩, b3⟩ := kk.1
  have b3 : eg_gb sc ≤ eg_gm sc := b3
  obtain ⟨m1, m2⟩ := hM.1
  refine ⟨⟨⟨by omega, by omega⟩, b3⟩, fun X hX => ?_⟩
  have k2 := kk.2 X hX
  obtain ⟨p, l, e, R, s, m, args, below, meth, c, A, D, dA, ad0⟩ := X
  intro ad H locs ls hl hok hr
  obtain ⟨x1, x2, x3, x4, x5, x6, x7, x8, x9, x10, x11, x12, x13, x14, x15, x16⟩ := hX
  have x10 : N - eg_nc h0 + eg_gm sc ≤ R.cells := x10
  have x11 : S - eg_ns h0 + 16 * eg_gm sc ≤ R.slots := x11
  obtain ⟨r1, r2, r3, r4, r5, r6, r7, r8⟩ := hr
  have hAA : ∀ q, va_A (eg_ws dA ad h) H.size q → A q := by
    intro q hq
    rcases hq with ⟨k, e, hq⟩ | hq
    · exact r2.2 k (q, e) hq
    · exact x7 q (Nat.le_trans r3.1 hq)
  have hXt : eg_Xt ad (va_A (eg_ws dA ad h) H.size) s H := eg_Xt_kept (eg_Xt_ad x12 (fun k hk => r5 k (by omega))) r3.2.1 hAA
  have hrun := f (locs := locs) (cells := eg_nc h - eg_nc h0 + eg_gb sc) (slots := eg_ns h - eg_ns h0 + 16 * eg_gb sc) (below := below) (meth := meth) (p := p) (l := l) (e := e) (R := R) (s := s) (m := m) (args := args) (c := c) (H := H) (ls := ls) (A := A) (D := D) (dA := dA) ad ⟨x1, x2, x3, x4, x5⟩ (eg_Xt_ad x12 (fun k hk => r5 k (by omega))) x8 x9 hl x6 r1 ⟨by omega, by omega⟩ (hM.2 l D dA ad H.size (fun v hv => hok.2 v (hav v hv)))
    ⟨eg_blind, fun U hU hW => ⟨rfl, by rw [hU], by rw [hU]; exact r1, va_K.moved hW.alike x6, r2.weaken (fun _ _ _ _ => trivial), r4, by rw [hU]; exact eg_Xt_warm hXt hW⟩⟩
  intro T hT X
  obtain ⟨v, st₀, t, T', L, e0, X', hL, e1, e2, ⟨⟨ad1, hv, ha1, hP1, hD1, hw1, hvk⟩, hz, hk⟩, stp⟩ := hrun T hT X
  cases hv
  rw [e0] at hz hk
  have hcs : eg_nc h - eg_nc h0 + eg_gb sc + (eg_nc h1 - eg_nc h) = eg_nc h1 - eg_nc h0 + eg_gb sc := by omega
  have hss : eg_ns h - eg_ns h0 + 16 * eg_gb sc + (eg_ns h1 - eg_ns h) = eg_ns h1 - eg_ns h0 + 16 * eg_gb sc := by omega
  rw [hcs, hss] at X'
  have hst : eg_ok (eg_nc h) lv st := ⟨hok.1, fun v hv => hok.2 v (hsub v hv)⟩
  have go := k2 ad1 T'.heap (locs ++ L) ls (by rw [eg_lm_ad ha1 hst]; exact hl) ⟨fun q hq => (eg_ok_le m1 hst).1 q hq, fun v hv => by
      rcases List.mem_append.mp hv with z | z
      · cases rv with
        | none => cases z
        | some w => rw [List.mem_singleton.mp z]; exact hvk w rfl
      · exact (eg_ok_le m1 hst).2 v z⟩
    ⟨by rw [e1]; exact hP1, hD1.weaken (fun _ _ _ q => hAA _ q), ⟨Nat.le_trans r3.1 (by rw [e1]; exact hz), fun q g1 g2 => by rw [e1, hk q (Nat.lt_of_lt_of_le g1 r3.1) (fun z => g2 (hAA q z))]; exact r3.2.1 q g1 g2, fun q hq => by
      rcases List.mem_append.mp hq with z | z
      · exact r3.2.2 q z
      · exact hAA _ (hL q z)⟩, hw1, fun k hk => by rw [ha1 k (by omega)]; exact r5 k hk, by omega, by omega, r8⟩
  obtain ⟨t2, a1, a2⟩ := go T' rfl X'
  refine ⟨t2, stp t2 ?_, a2⟩
  have e3 : (rv.map (eg_cv ad1)).toList ++ st.map (eg_cv ad) = (rv.toList ++ st).map (eg_cv ad1) := by
    rw [List.map_append, eg_sm_ad ha1 hst]
    cases rv <;> rfl
  show Steps p.tables e below (T'.setTop (F0 m (pc + 3) ls ((rv.map (eg_cv ad1)).toList ++ st.map (eg_cv ad)))) t2
  rw [e3]
  exact a1
theorem eg_cat_map (ad : Nat → Nat) (l : List Value) : ((l.map (eg_cv ad)).map fun v => v.category) = l.map fun v => v.category := by
  rw [List.map_map]
  exact List.map_congr_left (fun v _ => eg_cat ad v)
theorem eg_gds {y : MethodName} {bytes : ByteArray} {maxL : Nat} {rtc : Option FieldType} {ws : List Cond} (hcode : Cond.code y bytes maxL rtc ∈ eg_G) (hws : ∀ w ∈ ws, w ∈ eg_G) : GoodIn eg_G (ws ++ (.code y bytes maxL rtc :: eg_G)) := by
  have key : ∀ w ∈ eg_G, w ∈ eg_G ∧ ((w.onTables && w.keeps) = true ∨ ∃ ty, w = .arrayClass ty) := fun w hw => ⟨hw, good_of_word (List.mem_filter.mp hw).2⟩
  intro w hw
  rcases List.mem_append.mp hw with z | z
  · exact key w (hws w z)
  · rcases List.mem_cons.mp z with z | z
    · rw [z]; exact key _ hcode
    · exact key w z
theorem eg_callV {y : MethodName} {bytes : ByteArray} {maxL dc idx c p n : Nat} {rtc : Option FieldType} {sta : List Value} {rv : Option Value} {h1 : eg_H} (as : List Value) (hd : decode cc pc = .ok (.invokevirtual idx, 3)) (hM : eg_Met y bytes maxL rtc dc (.ref p :: as) h rv h1) (hsta : sta = as.reverse ++ .ref p :: st) (hO : eg_isO h c p) (hc : c < 14) (hcy : eg_R c = y.cls)
    (w1 : Cond.methodLink own idx y ∈ eg_G) (w2 : Cond.instanceMethod y ∈ eg_G) (w3 : Cond.selects y.cls y y ∈ eg_G) (w4 : Cond.initialized y.cls ∈ eg_G) (w5 : Cond.code y bytes maxL rtc ∈ eg_G)
    (hy : y.cls = y.cls ∧ y.cls ≠ "java/lang/invoke/MethodHandle" ∧ y.cls ≠ "java/lang/invoke/VarHandle" ∧ (parseMethodDescriptor y.desc).map (fun d => d.parameters.length) = some n) (hn : as.length = n) (hdc : dc + 1 ≤ d) (hml : maxL ≤ 45) (hst : (st.map fun v => v.category).sum ≤ 8)
    (kk : eg_AW (own, cc, nL, d, sc, nm, rt) Z N S h0 (pc + 3) lv (rv.toList ++ st) h1) : eg_AW (own, cc, nL, d, sc, nm, rt) Z N S h0 pc lv sta h := by
  subst hsta
  refine eg_call hM (fun v hv => ?_) (fun v hv => ?_) kk (fun {p' l e R s m args below meth cd H locs cells slots ls A D dA} ad S0 hXt hfr hlo hl hK hP hcs hMet hPre => ?_)
  · rcases List.mem_cons.mp hv with z | z
    · rw [z]; simp
    · simp [z]
  · simp [hv]
  have hat := eg_ws_at dA ad h hO.1 (eg_kd_lt hO.2 (by omega))
  rw [hO.2, eg_ce_O (by omega)] at hat
  have hrec := va_recv hK hP (eg_clat c hc) hat
  have hG : GoodIn eg_G (wsV own idx y.cls y (.code y bytes maxL rtc :: eg_G)) := eg_gds (ws := [.methodLink own idx y, .instanceMethod y, .selects y.cls y y, .initialized y.cls]) w5 (fun w hw => by
    simp only [List.mem_cons, List.not_mem_nil, or_false] at hw
    rcases hw with rfl | rfl | rfl | rfl
    · exact w1
    · exact w2
    · exact w3
    · exact w4)
  exact va_runV (As := as.map (eg_cv ad)) (rest := st.map (eg_cv ad)) (b := ad p) (C := y.cls) S0 hMet (cwV n S0.2.2.2.2 hG rfl rfl rfl hy ⟨by show dc + 1 ≤ R.frames; omega, by show 8 + (maxL + 11) + 64 * dc ≤ R.locals; omega⟩) ⟨hPre.1, by rw [← hcy]; exact hrec, hPre.2⟩ rfl (by rw [List.length_map]; exact hn) hl.1 (by simp [eg_cv, List.map_reverse]) (by
    have e := eg_cat_map ad st
    exact lv_room (by rw [e]; exact hst)) hd hcs
theorem eg_callS {y : MethodName} {bytes : ByteArray} {maxL dc idx n : Nat} {rtc : Option FieldType} {sta : List Value} {rv : Option Value} {h1 : eg_H} (as : List Value) (hd : decode cc pc = .ok (.invokestatic idx, 3)) (hM : eg_Met y bytes maxL rtc dc as h rv h1) (hsta : sta = as.reverse ++ st)
    (w1 : Cond.methodLink own idx y ∈ eg_G) (w2 : Cond.static y ∈ eg_G) (w4 : Cond.initialized y.cls ∈ eg_G) (w5 : Cond.code y bytes maxL rtc ∈ eg_G)
    (hy : y.cls ≠ "java/lang/invoke/MethodHandle" ∧ y.cls ≠ "java/lang/invoke/VarHandle" ∧ (parseMethodDescriptor y.desc).map (fun d => d.parameters.length) = some n) (hn : as.length = n) (hdc : dc + 1 ≤ d) (hml : maxL ≤ 45) (hst : (st.map fun v => v.category).sum ≤ 8)
    (kk : eg_AW (own, cc, nL, d, sc, nm, rt) Z N S h0 (pc + 3) lv (rv.toList ++ st) h1) : eg_AW (own, cc, nL, d, sc, nm, rt) Z N S h0 pc lv sta h := by
  subst hsta
  refine eg_call hM (fun v hv => ?_) (fun v hv => ?_) kk (fun {p' l e R s m args below meth cd H locs cells slots ls A D dA} ad S0 hXt hfr hlo hl hK hP hcs hMet hPre => ?_)
  · simp [hv]
  · simp [hv]
  have hG : GoodIn eg_G (va_wsS own idx y (.code y bytes maxL rtc :: eg_G)) := eg_gds (ws := [.methodLink own idx y, .static y, .initialized y.cls]) w5 (fun w hw => by
    simp only [List.mem_cons, List.not_mem_nil, or_false] at hw
    rcases hw with rfl | rfl | rfl
    · exact w1
    · exact w2
    · exact w4)
  exact va_runS (As := as.map (eg_cv ad)) (rest := st.map (eg_cv ad)) S0 hMet (va_cwS n S0.2.2.2.2 hG rfl rfl rfl hy ⟨by show dc + 1 ≤ R.frames; omega, by show 8 + (maxL + 11) + 64 * dc ≤ R.locals; omega⟩) hPre rfl (by rw [List.length_map]; exact hn) hl.1 (by simp [List.map_reverse]) (by
    have e := eg_cat_map ad st
    exact lv_room (by rw [e]; exact hst)) hd hcs
theorem eg_callI {y : MethodName} {bytes : ByteArray} {maxL dc idx p n : Nat} {sta : List Value} {rv : Option Value} {h1 : eg_H} (as : List Value) (hd : decode cc pc = .ok (.invokespecial idx, 3)) (hM : eg_Met y bytes maxL none dc (.ref p :: as) h rv h1) (hsta : sta = as.reverse ++ .ref p :: st)
    (w1 : Cond.methodLink own idx y ∈ eg_G) (w2 : Cond.instanceMethod y ∈ eg_G) (w4 : Cond.initialized y.cls ∈ eg_G) (w5 : Cond.code y bytes maxL none ∈ eg_G) (hi : y.name = "<init>")
    (hy : y.cls ≠ "java/lang/invoke/MethodHandle" ∧ y.cls ≠ "java/lang/invoke/VarHandle" ∧ (parseMethodDescriptor y.desc).map (fun d => d.parameters.length) = some n) (hn : as.length = n) (hdc : dc + 1 ≤ d) (hml : maxL ≤ 45) (hst : (st.map fun v => v.category).sum ≤ 8)
    (kk : eg_AW (own, cc, nL, d, sc, nm, rt) Z N S h0 (pc + 3) lv (rv.toList ++ st) h1) : eg_AW (own, cc, nL, d, sc, nm, rt) Z N S h0 pc lv sta h := by
  subst hsta
  refine eg_call hM (fun v hv => ?_) (fun v hv => ?_) kk (fun {p' l e R s m args below meth cd H locs cells slots ls A D dA} ad S0 hXt hfr hlo hl hK hP hcs hMet hPre => ?_)
  · rcases List.mem_cons.mp hv with z | z
    · rw [z]; simp
    · simp [z]
  · simp [hv]
  have hG : GoodIn eg_G (.code y bytes maxL none :: eg_G) := eg_gds (ws := []) w5 (fun w hw => by cases hw)
  exact va_runI (As := as.map (eg_cv ad)) (rest := st.map (eg_cv ad)) (b := ad p) S0 hMet (cwI n S0.2.2.2.2 hG rfl rfl rfl (S0.2.2.2.2 _ w4) (S0.2.2.2.2 _ w1) (S0.2.2.2.2 _ w2) hi hy ⟨by show dc + 1 ≤ R.frames; omega, by show 8 + (maxL + 11) + 64 * dc ≤ R.locals; omega⟩) hPre rfl (by rw [List.length_map]; exact hn) hl.1 (by simp [eg_cv, List.map_reverse]) (by
    have e := eg_cat_map ad st
    exact lv_room (by rw [e]; exact hst)) hd hcs
theorem eg_callIN {c0 : String} {bytes : ByteArray} {maxL dc idx p n : Nat} {sta : List Value} {rv : Option Value} {h1 : eg_H} (as : List Value) (hd : decode cc pc = .ok (.invokespecial idx, 3)) (hM : eg_Met ⟨c0, "<init>", "()V"⟩ bytes maxL none dc (.ref p :: as) h rv h1) (hsta : sta = as.reverse ++ .ref p :: st)
    (hown0 : own = "EggThrow") (w1 : (idx = 9 ∧ c0 = "EggThrow$Tape") ∨ (idx = 34 ∧ c0 = "EggThrow$Meadow") ∨ (idx = 114 ∧ c0 = "EggThrow$Search")) (w2 : Cond.instanceMethod ⟨c0, "<init>", "()V"⟩ ∈ eg_G) (w4 : Cond.initialized c0 ∈ eg_G) (w5 : Cond.code ⟨c0, "<init>", "()V"⟩ bytes maxL none ∈ eg_G)
    (hy : c0 ≠ "java/lang/invoke/MethodHandle" ∧ c0 ≠ "java/lang/invoke/VarHandle" ∧ (parseMethodDescriptor "()V").map (fun d => d.parameters.length) = some n) (hn : as.length = n) (hdc : dc + 1 ≤ d) (hml : maxL ≤ 45) (hst : (st.map fun v => v.category).sum ≤ 8)
    (kk : eg_AW (own, cc, nL, d, sc, nm, rt) Z N S h0 (pc + 3) lv (rv.toList ++ st) h1) : eg_AW (own, cc, nL, d, sc, nm, rt) Z N S h0 pc lv sta h := by
  subst hsta
  refine eg_call hM (fun v hv => ?_) (fun v hv => ?_) kk (fun {p' l e R s m args below meth cd H locs cells slots ls A D dA} ad S0 hXt hfr hlo hl hK hP hcs hMet hPre => ?_)
  · rcases List.mem_cons.mp hv with z | z
    · rw [z]; simp
    · simp [z]
  · simp [hv]
  have hG : GoodIn eg_G (.code ⟨c0, "<init>", "()V"⟩ bytes maxL none :: eg_G) := eg_gds (ws := []) w5 (fun w hw => by cases hw)
  exact va_runIN (host := "EggThrow") (As := as.map (eg_cv ad)) (rest := st.map (eg_cv ad)) (b := ad p) S0 hMet ⟨va_cnB n S0.2.2.2.2 hG rfl rfl rfl (by rw [hown0]; exact hXt.2.2.2.1 idx _ w1) (S0.2.2.2.2 _ w4) hy ⟨by show dc + 1 ≤ R.frames; omega, by show 8 + (maxL + 11) + 64 * dc ≤ R.locals; omega⟩, rfl, S0.2.2.2.2 _ w2⟩ hPre rfl (by rw [List.length_map]; exact hn) hl.1 (by simp [eg_cv, List.map_reverse]) (by
    have e := eg_cat_map ad st
    exact lv_room (by rw [e]; exact hst)) hd hcs
end RC
