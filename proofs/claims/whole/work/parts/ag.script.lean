def px_E : eg_C → Prop := fun (_, l, _, _, s, _, _, _, _, _, A, _, _, _) => l.stackTraces = false ∧ px_Z A s s.heap
theorem pl_gds {ws : List Cond} (hws : ∀ w ∈ ws, w ∈ eg_G) : GoodIn eg_G (ws ++ (.codeWith yL_person cL_person 5 (some .int) pl_hh :: eg_G)) := by
  have key : ∀ w ∈ eg_G, w ∈ eg_G ∧ ((w.onTables && w.keeps) = true ∨ ∃ ty, w = .arrayClass ty) := fun w hw => ⟨hw, good_of_word (List.mem_filter.mp hw).2⟩
  intro w hw
  rcases List.mem_append.mp hw with z | z
  · exact key w (hws w z)
  · rcases List.mem_cons.mp z with z | z
    · rw [z]; exact key _ ewL_code
    · exact key w z
theorem pl_hy : yL_person.cls ≠ "java/lang/invoke/MethodHandle" ∧ yL_person.cls ≠ "java/lang/invoke/VarHandle" ∧ (parseMethodDescriptor yL_person.desc).map (fun d => d.parameters.length) = some 4 := by decide +kernel
section RSC
variable {cc : ByteArray} {nL d L g : Nat} {xs : Nat → Int32} {nm : String} {rt : Option FieldType} {Z : eg_C → State → Prop} {N S : Nat} {h0 : eg_H} {pc : Nat} {lv : List (Nat × Value)} {st : List Value} {h : eg_H}
theorem eg_sld {own : String} {i : Int32} (hd : decode cc pc = .ok (.iaload, 1)) (hi : ¬ i < 0 ∧ i.toNatClampNeg < L)
    (k : eg_AW (own, cc, nL, d, some (L, xs, g), nm, rt) Z N S h0 (pc + 1) lv (.int (xs i.toNatClampNeg) :: st) h) : eg_AW (own, cc, nL, d, some (L, xs, g), nm, rt) Z N S h0 pc lv (.int i :: .ref 0 :: st) h := by
  refine ⟨k.1, fun X hX => ?_⟩
  have k2 := k.2 X hX
  obtain ⟨p, l, e, R, s, m, args, below, meth, c, A, D, dA, ad0⟩ := X
  intro ad H locs ls hl hok hr
  obtain ⟨x1, x2, x3, x4, x5, x6, x7, x8, x9, x10, x11, x12, x13, x14, x15, x16⟩ := hX
  obtain ⟨y1, y2, y3⟩ := x13 L xs g rfl
  have e0 : ad 0 = ad0 0 := hr.2.2.2.2.1 0 (by have := hr.2.2.2.2.2.2.2; omega)
  have k3 := k2 ad H locs ls hl (eg_oc (eg_o1 (eg_o1 hok)) (eg_vi _)) hr
  have e1 : (Value.int i :: .ref 0 :: st).map (eg_cv ad) = .int i :: .ref (ad0 0) :: st.map (eg_cv ad) := by rw [← e0]; rfl
  rw [e1]
  exact va_sld x1 x2 y1 y2 y3 hr.2.2.1 (eg_in_of hi.1 hi.2) hd k3
theorem eg_slen2 {own : String} (hd : decode cc pc = .ok (.arraylength, 1))
    (k : eg_AW (own, cc, nL, d, some (L, xs, g), nm, rt) Z N S h0 (pc + 1) lv (.int (nI L) :: st) h) : eg_AW (own, cc, nL, d, some (L, xs, g), nm, rt) Z N S h0 pc lv (.ref 0 :: st) h := by
  refine ⟨k.1, fun X hX => ?_⟩
  have k2 := k.2 X hX
  obtain ⟨p, l, e, R, s, m, args, below, meth, c, A, D, dA, ad0⟩ := X
  intro ad H locs ls hl hok hr
  obtain ⟨x1, x2, x3, x4, x5, x6, x7, x8, x9, x10, x11, x12, x13, x14, x15, x16⟩ := hX
  obtain ⟨y1, y2, y3⟩ := x13 L xs g rfl
  have e0 : ad 0 = ad0 0 := hr.2.2.2.2.1 0 (by have := hr.2.2.2.2.2.2.2; omega)
  have k3 := k2 ad H locs ls hl (eg_oc (eg_o1 hok) (eg_vi _)) hr
  have e1 : (Value.ref 0 :: st).map (eg_cv ad) = .ref (ad0 0) :: st.map (eg_cv ad) := by rw [← e0]; rfl
  rw [e1]
  exact va_slen x1 x2 y1 y2 y3 hr.2.2.1 hd k3
theorem pl_call {dc mc ms : Nat} {av : List Value} {rv : Option Value} {h1 : eg_H} (hZ : ∀ X t, ¬ px_E X → Z X t) (hd : decode cc pc = .ok (.invokestatic 38, 3)) (hM : pl_Met yL_person cL_person 5 (some .int) dc av h rv h1 mc ms) (hn1 : eg_nc h1 = eg_nc h) (hn2 : eg_ns h1 = eg_ns h) (hmc : mc ≤ 1) (hms : ms ≤ 16) (hal : av.length = 4) (hdc : dc + 1 ≤ d) (hst : (st.map fun v => v.category).sum ≤ 8)
    (kk : eg_AW (RLw, cc, nL, d, some (L, xs, g + 1), nm, rt) Z N S h0 (pc + 3) lv (rv.toList ++ st) h1) : eg_AW (RLw, cc, nL, d, some (L, xs, g), nm, rt) Z N S h0 pc lv (av.reverse ++ st) h := by
  obtain ⟨⟨b1, b2⟩, b3⟩ := kk.1
  have b3 : g + 1 ≤ 600 := b3
  refine ⟨⟨⟨by omega, by omega⟩, (show g ≤ 600 by omega)⟩, fun X hX => ?_⟩
  have hX' : eg_Cx (RLw, cc, nL, d, some (L, xs, g + 1), nm, rt) N S h0 X := by
    obtain ⟨p, l, e, R, s, m, args, below, meth, c, A, D, dA, ad0⟩ := X
    obtain ⟨x1, x2, x3, x4, x5, x6, x7, x8, x9, x10, x11, x12, x13, x14, x15, x16⟩ := hX
    exact ⟨x1, x2, x3, x4, x5, x6, x7, x8, x9, x10, x11, x12, fun L' xs' g' q => by cases q; exact x13 _ _ _ rfl, x14, x15, x16⟩
  have k2 := kk.2 X hX'
  obtain ⟨p, l, e, R, s, m, args, below, meth, c, A, D, dA, ad0⟩ := X
  intro ad H locs ls hl hok hr
  obtain ⟨x1, x2, x3, x4, x5, x6, x7, x8, x9, x10, x11, x12, x13, x14, x15, x16⟩ := hX
  have x8 : d ≤ R.frames := x8
  have x9 : 64 * d ≤ R.locals := x9
  have x10 : N - eg_nc h0 + 600 ≤ R.cells := x10
  have x11 : S - eg_ns h0 + 16 * 600 ≤ R.slots := x11
  by_cases E : l.stackTraces = false ∧ px_Z A s s.heap
  rotate_left
  · intro T hT X
    exact ⟨_, Steps.refl _, hZ _ _ E⟩
  obtain ⟨r1, r2, r3, r4, r5, r6, r7, r8⟩ := hr
  have hAA : ∀ q, va_A (eg_ws dA ad h) H.size q → A q := by
    intro q hq
    rcases hq with ⟨k, e, hq⟩ | hq
    · exact r2.2 k (q, e) hq
    · exact x7 q (Nat.le_trans r3.1 hq)
  have hXt : eg_Xt ad (va_A (eg_ws dA ad h) H.size) s H := eg_Xt_kept (eg_Xt_ad x12 (fun k hk => r5 k (by omega))) r3.2.1 hAA
  have hZx : px_Z (va_A (eg_ws dA ad h) H.size) s H := px_Z_kept E.2 r3.2.1 hAA
  have hG : GoodIn eg_G (va_wsS RLw 38 yL_person (.codeWith yL_person cL_person 5 (some .int) pl_hh :: eg_G)) := pl_gds (ws := [.methodLink RLw 38 yL_person, .static yL_person, .initialized yL_person.cls]) (fun w hw => by
    simp only [List.mem_cons, List.not_mem_nil, or_false] at hw
    rcases hw with rfl | rfl | rfl
    · exact ew_1352
    · exact ew_1353
    · exact ew_99)
  have hrun : va_Run p l e R s m args below meth c H locs (eg_nc h - eg_nc h0 + g) (eg_ns h - eg_ns h0 + 16 * g) mc ms (F0 m pc ls ((av.reverse ++ st).map (eg_cv ad))) (st.map (eg_cv ad)) (eg_Qm D dA ad h (va_A (eg_ws dA ad h) H.size) rv h1 (av.map (eg_cv ad)).toArray) (va_A (eg_ws dA ad h) H.size) :=
    vx_runSW (As := av.map (eg_cv ad)) (rest := st.map (eg_cv ad)) (Ts := eg_G) (own := RLw) (hh := pl_hh) ⟨x1, x2, x3, x4, x5⟩ (hM l D dA ad H.size E.1 (fun v hv => hok.2 v (by simp [hv]))) (vx_cwSW 4 x5 hG rfl rfl rfl pl_hy ⟨by show dc + 1 ≤ R.frames; omega, by show 8 + (5 + 11) + 64 * dc ≤ R.locals; omega⟩) ⟨px_blind, fun U hU hW => ⟨rfl, ⟨by rw [hU], by rw [hU]; exact r1, va_K.moved hW.alike x6, r2.weaken (fun _ _ _ _ => trivial), r4, by rw [hU]; exact eg_Xt_warm hXt hW⟩, by rw [hU]; exact px_Z_moved hZx hW.alike⟩⟩ rfl (by rw [List.length_map]; exact hal) hl.1 (by simp [List.map_reverse]) (by
      have e := eg_cat_map ad st
      exact lv_room (by rw [e]; exact hst)) hd ⟨by omega, by omega⟩
  intro T hT X
  obtain ⟨v, st₀, t, T', L', e0, X', hL, e1, e2, ⟨⟨ad1, hv, ha1, hP1, hD1, hw1, hvk⟩, hz, hk⟩, stp⟩ := hrun T hT X
  cases hv
  rw [e0] at hz hk
  have X2 := stand_widen (k := eg_nc h1 - eg_nc h0 + (g + 1)) (n := eg_ns h1 - eg_ns h0 + 16 * (g + 1)) X' (by omega) (by omega)
  have hst : eg_ok (eg_nc h) lv st := ⟨hok.1, fun v hv => hok.2 v (by simp [hv])⟩
  have go := k2 ad1 T'.heap (locs ++ L') ls (by rw [eg_lm_ad ha1 hst]; exact hl) ⟨fun q hq => by rw [hn1]; exact hst.1 q hq, fun v hv => by
      rcases List.mem_append.mp hv with z | z
      · cases rv with
        | none => cases z
        | some w => rw [List.mem_singleton.mp z]; exact hvk w rfl
      · rw [hn1]; exact hst.2 v z⟩
    ⟨by rw [e1]; exact hP1, hD1.weaken (fun _ _ _ q => hAA _ q), ⟨Nat.le_trans r3.1 (by rw [e1]; exact hz), fun q g1 g2 => by rw [e1, hk q (Nat.lt_of_lt_of_le g1 r3.1) (fun z => g2 (hAA q z))]; exact r3.2.1 q g1 g2, fun q hq => by
      rcases List.mem_append.mp hq with z | z
      · exact r3.2.2 q z
      · exact hAA _ (hL q z)⟩, hw1, fun k hk => by rw [ha1 k (by omega)]; exact r5 k hk, by omega, by omega, r8⟩
  obtain ⟨t2, a1, a2⟩ := go T' rfl X2
  refine ⟨t2, stp t2 ?_, a2⟩
  have e3 : (rv.map (eg_cv ad1)).toList ++ st.map (eg_cv ad) = (rv.toList ++ st).map (eg_cv ad1) := by
    rw [List.map_append, eg_sm_ad ha1 hst]
    cases rv <;> rfl
  show Steps p.tables e below (T'.setTop (F0 m (pc + 3) ls ((rv.map (eg_cv ad1)).toList ++ st.map (eg_cv ad)))) t2
  rw [e3]
  exact a1
end RSC
