def eg_F : Nat := 5000
def eg_D : Nat := 64
theorem eg_D_eq : eg_D = 64 := rfl
theorem eg_F_eq : eg_F = 5000 := rfl
theorem eg_it {c : Prop} [Decidable c] {β : Type} {a b : Option β} {x : β} (hc : c) (e : (if c then a else b) = some x) : a = some x := by rw [if_pos hc] at e; exact e
theorem eg_if {c : Prop} [Decidable c] {β : Type} {a b : Option β} {x : β} (hc : ¬ c) (e : (if c then a else b) = some x) : b = some x := by rw [if_neg hc] at e; exact e
theorem eg_ifn {c : Prop} [Decidable c] {β : Type} {a : Option β} {x : β} (e : (if c then a else none) = some x) : c ∧ a = some x := by
  by_cases hc : c
  · exact ⟨hc, eg_it hc e⟩
  · exact absurd (eg_if hc e) (fun q => by cases q)
theorem eg_nif {c : Prop} [Decidable c] {β : Type} {a : Option β} {x : β} (e : (if c then none else a) = some x) : ¬ c ∧ a = some x := by
  by_cases hc : c
  · exact absurd (eg_it hc e) (fun q => by cases q)
  · exact ⟨hc, eg_if hc e⟩
def eg_maxI (x y : Int32) : Int32 := if x < y then y else x
def eg_minI (x y : Int32) : Int32 := if y < x then y else x
def eg_absI (x : Int32) : Int32 := if 0 ≤ x then x else 0 - x
def eg_maxL (x y : Int64) : Int64 := if y < x then x else y
def eg_minL (x y : Int64) : Int64 := if y < x then y else x
def eg_slen (p : Nat) : Option Int32 := if 5 ≤ p ∧ p < 10 then some (nI (eg_sb (p - 5)).length) else none
def eg_sat (p : Nat) (i : Int32) : Option Int32 := if 5 ≤ p ∧ p < 10 ∧ ¬ i < 0 ∧ i.toNatClampNeg < (eg_sb (p - 5)).length then some ((eg_sb (p - 5)).getD i.toNatClampNeg 0) else none
theorem ew_o1 : Cond.instanceMethod Lib.objectInit ∈ eg_G := eg_in (i := 132) (by decide +kernel) (by decide +kernel)
theorem ew_o2 : Cond.code Lib.objectInit ⟨#[0xb1]⟩ 1 none ∈ eg_G := eg_in (i := 133) (by decide +kernel) (by decide +kernel)
theorem ew_m0 : Cond.initialized "java/lang/Math" ∈ eg_G := eg_in (i := 115) (by decide +kernel) (by decide +kernel)
theorem ew_m1 : Cond.static Lib.Math.min.name ∈ eg_G := eg_in (i := 658) (by decide +kernel) (by decide +kernel)
theorem ew_m2 : Cond.code Lib.Math.min.name Lib.Math.min.code 2 (some .int) ∈ eg_G := eg_in (i := 659) (by decide +kernel) (by decide +kernel)
theorem ew_m3 : Cond.static Lib.Math.max.name ∈ eg_G := eg_in (i := 998) (by decide +kernel) (by decide +kernel)
theorem ew_m4 : Cond.code Lib.Math.max.name Lib.Math.max.code 2 (some .int) ∈ eg_G := eg_in (i := 999) (by decide +kernel) (by decide +kernel)
theorem ew_m5 : Cond.static Lib.Math.abs.name ∈ eg_G := eg_in (i := 1921) (by decide +kernel) (by decide +kernel)
theorem ew_m6 : Cond.code Lib.Math.abs.name Lib.Math.abs.code 1 (some .int) ∈ eg_G := eg_in (i := 1922) (by decide +kernel) (by decide +kernel)
theorem ew_m7 : Cond.static Lib.MathLoose.min_long.x ∈ eg_G := eg_in (i := 1847) (by decide +kernel) (by decide +kernel)
theorem ew_m8 : Cond.code Lib.MathLoose.min_long.x Lib.MathLoose.min_long.code 4 (some .long) ∈ eg_G := eg_in (i := 1848) (by decide +kernel) (by decide +kernel)
theorem ew_m9 : Cond.static Lib.MathLoose.max_long.x ∈ eg_G := eg_in (i := 1850) (by decide +kernel) (by decide +kernel)
theorem ew_m10 : Cond.code Lib.MathLoose.max_long.x Lib.MathLoose.max_long.code 4 (some .long) ∈ eg_G := eg_in (i := 1851) (by decide +kernel) (by decide +kernel)
section RB
variable {own : String} {cc : ByteArray} {nL d : Nat} {sc : Option (Nat × (Nat → Int32) × Nat)} {nm : String} {rt : Option FieldType} {Z : eg_C → State → Prop} {N S : Nat} {h0 : eg_H} {pc : Nat} {lv : List (Nat × Value)} {st : List Value} {h : eg_H}
theorem eg_bi {pc' : Nat} {st' : List Value} (k : eg_AW (own, cc, nL, d, sc, nm, rt) Z N S h0 pc' lv st' h) (ho : eg_ok (eg_nc h) lv st → eg_wf h → eg_ok (eg_nc h) lv st')
    (f : ∀ {p : Program} {l : Launch} {e : Env} {R : Room} {s : State} {m : MethodId} {args : Array Value} {below : List Frame} {meth : Method} {c : Code} {H : Heap} {locs : List Loc} {cells slots : Nat} {Q : State → Prop} {ls : Array Slot} {A : Nat → Prop} (ad : Nat → Nat), CallFix p m c cc nL s args eg_G own → eg_Xt ad A s s.heap → va_S A s.heap H locs → lv_has ls nL (eg_lm ad lv) → d ≤ R.frames → 64 * d ≤ R.locals → cells ≤ R.cells → slots ≤ R.slots →
      W p l e R s m args below meth c H locs cells slots Q (F0 m pc' ls (st'.map (eg_cv ad))) → W p l e R s m args below meth c H locs cells slots Q (F0 m pc ls (st.map (eg_cv ad)))) :
    eg_AW (own, cc, nL, d, sc, nm, rt) Z N S h0 pc lv st h := by
  obtain ⟨⟨b1, b2⟩, b3⟩ := k.1
  have b3 : eg_gb sc ≤ eg_gm sc := b3
  refine ⟨k.1, fun X hX => ?_⟩
  have k2 := k.2 X hX
  obtain ⟨p, l, e, R, s, m, args, below, meth, c, A, D, dA, ad0⟩ := X
  intro ad H locs ls hl hok hr
  obtain ⟨x1, x2, x3, x4, x5, x6, x7, x8, x9, x10, x11, x12, x13, x14, x15, x16⟩ := hX
  have x10 : N - eg_nc h0 + eg_gm sc ≤ R.cells := x10
  have x11 : S - eg_ns h0 + 16 * eg_gm sc ≤ R.slots := x11
  show W _ _ _ _ _ _ _ _ _ _ _ _ (eg_nc h - eg_nc h0 + eg_gb sc) (eg_ns h - eg_ns h0 + 16 * eg_gb sc) _ _
  obtain ⟨r1, r2, r3, r4, r5, r6, r7, r8⟩ := hr
  exact f ad ⟨x1, x2, x3, x4, x5⟩ (eg_Xt_ad x12 (fun k hk => r5 k (by omega))) r3 hl x8 x9 (by omega) (by omega) (k2 ad H locs ls hl (ho hok r4) ⟨r1, r2, r3, r4, r5, r6, r7, r8⟩)
theorem eg_objInit {idx p : Nat} (hd : decode cc pc = .ok (.invokespecial idx, 3)) (w1 : Cond.methodLink own idx Lib.objectInit ∈ eg_G) (h1 : 1 ≤ d) (h8 : (st.map fun v => v.category).sum ≤ 8)
    (k : eg_AW (own, cc, nL, d, sc, nm, rt) Z N S h0 (pc + 3) lv st h) : eg_AW (own, cc, nL, d, sc, nm, rt) Z N S h0 pc lv (.ref p :: st) h :=
  eg_bi k (fun w _ => eg_o1 w) (fun {p' l e R s m args below meth c H locs cells slots Q ls A} ad S0 hXt hS hl hf hlo hc hs kk => W.objInit (idx := idx) S0.1 S0.2.1 S0.2.2.2.1 (S0.2.2.2.2 _ w1) (S0.2.2.2.2 _ ew_o1) (S0.2.2.2.2 _ ew_o2) rfl (hl.1.trans S0.2.2.1.symm) rfl hd (by omega) (by
    have e := eg_cat_map ad st
    have e2 : (F0 m pc ls ((Value.ref p :: st).map (eg_cv ad))).monitorRoom = 0 := rfl
    rw [e2, e]
    omega) kk)
theorem eg_mlo {d L n : Nat} {st : List Value} {ad : Nat → Nat} (h1 : 1 ≤ d) (h8 : (st.map fun v => v.category).sum ≤ 8) (hL : 64 * d ≤ L) (hn : n ≤ 56) : ((st.map (eg_cv ad)).map fun v => v.category).sum + n ≤ L := by
  rw [eg_cat_map]
  omega
theorem eg_mmax {idx : Nat} {x y : Int32} (hd : decode cc pc = .ok (.invokestatic idx, 3)) (w1 : Cond.methodLink own idx Lib.Math.max.name ∈ eg_G) (h1 : 1 ≤ d) (h8 : (st.map fun v => v.category).sum ≤ 8)
    (k : eg_AW (own, cc, nL, d, sc, nm, rt) Z N S h0 (pc + 3) lv (.int (eg_maxI x y) :: st) h) : eg_AW (own, cc, nL, d, sc, nm, rt) Z N S h0 pc lv (.int y :: .int x :: st) h :=
  eg_bi k (fun w _ => eg_oc (eg_o1 (eg_o1 w)) (eg_vi _)) (fun ad S0 hXt hS hl hf hlo hc hs kk => va_mmax S0.1 S0.2.1 (S0.2.2.1.trans hl.1.symm) S0.2.2.2.1 (S0.2.2.2.2 _ w1) (S0.2.2.2.2 _ ew_m3) (S0.2.2.2.2 _ ew_m0) (S0.2.2.2.2 _ ew_m4) (by omega) (eg_mlo h1 h8 hlo (by omega)) hc hs hd kk)
theorem eg_mmin {idx : Nat} {x y : Int32} (hd : decode cc pc = .ok (.invokestatic idx, 3)) (w1 : Cond.methodLink own idx Lib.Math.min.name ∈ eg_G) (h1 : 1 ≤ d) (h8 : (st.map fun v => v.category).sum ≤ 8)
    (k : eg_AW (own, cc, nL, d, sc, nm, rt) Z N S h0 (pc + 3) lv (.int (eg_minI x y) :: st) h) : eg_AW (own, cc, nL, d, sc, nm, rt) Z N S h0 pc lv (.int y :: .int x :: st) h :=
  eg_bi k (fun w _ => eg_oc (eg_o1 (eg_o1 w)) (eg_vi _)) (fun ad S0 hXt hS hl hf hlo hc hs kk => va_mmin S0.1 S0.2.1 (S0.2.2.1.trans hl.1.symm) S0.2.2.2.1 (S0.2.2.2.2 _ w1) (S0.2.2.2.2 _ ew_m1) (S0.2.2.2.2 _ ew_m0) (S0.2.2.2.2 _ ew_m2) (by omega) (eg_mlo h1 h8 hlo (by omega)) hc hs hd kk)
theorem eg_mabs {idx : Nat} {x : Int32} (hd : decode cc pc = .ok (.invokestatic idx, 3)) (w1 : Cond.methodLink own idx Lib.Math.abs.name ∈ eg_G) (h1 : 1 ≤ d) (h8 : (st.map fun v => v.category).sum ≤ 8)
    (k : eg_AW (own, cc, nL, d, sc, nm, rt) Z N S h0 (pc + 3) lv (.int (eg_absI x) :: st) h) : eg_AW (own, cc, nL, d, sc, nm, rt) Z N S h0 pc lv (.int x :: st) h :=
  eg_bi k (fun w _ => eg_oc (eg_o1 w) (eg_vi _)) (fun ad S0 hXt hS hl hf hlo hc hs kk => va_mabs S0.1 S0.2.1 (S0.2.2.1.trans hl.1.symm) S0.2.2.2.1 (S0.2.2.2.2 _ w1) (S0.2.2.2.2 _ ew_m5) (S0.2.2.2.2 _ ew_m0) (S0.2.2.2.2 _ ew_m6) (by omega) (eg_mlo h1 h8 hlo (by omega)) hc hs hd kk)
theorem eg_mmaxL {idx : Nat} {x y : Int64} (hd : decode cc pc = .ok (.invokestatic idx, 3)) (w1 : Cond.methodLink own idx Lib.MathLoose.max_long.x ∈ eg_G) (h1 : 1 ≤ d) (h8 : (st.map fun v => v.category).sum ≤ 8)
    (k : eg_AW (own, cc, nL, d, sc, nm, rt) Z N S h0 (pc + 3) lv (.long (eg_maxL x y) :: st) h) : eg_AW (own, cc, nL, d, sc, nm, rt) Z N S h0 pc lv (.long y :: .long x :: st) h :=
  eg_bi k (fun w _ => eg_oc (eg_o1 (eg_o1 w)) (eg_vl _)) (fun ad S0 hXt hS hl hf hlo hc hs kk => va_mmax_long S0.1 S0.2.1 (S0.2.2.1.trans hl.1.symm) S0.2.2.2.1 (S0.2.2.2.2 _ w1) (S0.2.2.2.2 _ ew_m9) (S0.2.2.2.2 _ ew_m0) (S0.2.2.2.2 _ ew_m10) (by omega) (eg_mlo h1 h8 hlo (by omega)) hc hs hd kk)
theorem eg_mminL {idx : Nat} {x y : Int64} (hd : decode cc pc = .ok (.invokestatic idx, 3)) (w1 : Cond.methodLink own idx Lib.MathLoose.min_long.x ∈ eg_G) (h1 : 1 ≤ d) (h8 : (st.map fun v => v.category).sum ≤ 8)
    (k : eg_AW (own, cc, nL, d, sc, nm, rt) Z N S h0 (pc + 3) lv (.long (eg_minL x y) :: st) h) : eg_AW (own, cc, nL, d, sc, nm, rt) Z N S h0 pc lv (.long y :: .long x :: st) h :=
  eg_bi k (fun w _ => eg_oc (eg_o1 (eg_o1 w)) (eg_vl _)) (fun ad S0 hXt hS hl hf hlo hc hs kk => va_mmin_long S0.1 S0.2.1 (S0.2.2.1.trans hl.1.symm) S0.2.2.2.1 (S0.2.2.2.2 _ w1) (S0.2.2.2.2 _ ew_m7) (S0.2.2.2.2 _ ew_m0) (S0.2.2.2.2 _ ew_m8) (by omega) (eg_mlo h1 h8 hlo (by omega)) hc hs hd kk)
theorem eg_ldcS {i idx : Nat} (hd : decode cc pc = .ok (.ldc idx, 2)) (hi : i < 6) (ho : own = eg_so i) (hx0 : idx = eg_sx i)
    (k : eg_AW (own, cc, nL, d, sc, nm, rt) Z N S h0 (pc + 2) lv (.ref (i + 5) :: st) h) : eg_AW (own, cc, nL, d, sc, nm, rt) Z N S h0 pc lv st h :=
  eg_bi k (fun w wf => eg_oc w (eg_vr (by have := wf.1; omega))) (fun ad S0 hXt hS hl hf hlo hc hs kk => by
    subst hx0
    exact va_ldcS S0.1 S0.2.1 S0.2.2.2.1 (by rw [ho]; exact hXt.2.2.2.2.1.2 i hi) hd kk)
end RB
theorem eg_catq (r : Option Nat) : (va_rf r).category = 1 := by cases r <;> rfl
section RE
variable {own : String} {cc : ByteArray} {nL d : Nat} {nm : String} {h0 : eg_H} {pc : Nat} {lv : List (Nat × Value)} {h hf : eg_H}
theorem eg_vretE (hd : decode cc pc = .ok (.return_, 1)) (e : some h = some hf) : eg_AW (own, cc, nL, d, none, nm, none) (eg_Zm none hf h0) (eg_nc hf) (eg_ns hf) h0 pc lv [] h := by
  cases e; exact eg_vret hd
theorem eg_iretE {x r : Int32} (hd : decode cc pc = .ok (.ireturn, 1)) (e : some (x, h) = some (r, hf)) : eg_AW (own, cc, nL, d, none, nm, some .int) (eg_Zm (some (.int r)) hf h0) (eg_nc hf) (eg_ns hf) h0 pc lv [.int x] h := by
  cases e; exact eg_iret hd
theorem eg_zretE {x r : Int32} (hd : decode cc pc = .ok (.ireturn, 1)) (hz : x = 0 ∨ x = 1) (e : some (x, h) = some (r, hf)) : eg_AW (own, cc, nL, d, none, nm, some .boolean) (eg_Zm (some (.int r)) hf h0) (eg_nc hf) (eg_ns hf) h0 pc lv [.int x] h := by
  cases e; exact eg_zret hd hz
theorem eg_lretE {x r : Int64} (hd : decode cc pc = .ok (.lreturn, 1)) (e : some (x, h) = some (r, hf)) : eg_AW (own, cc, nL, d, none, nm, some .long) (eg_Zm (some (.long r)) hf h0) (eg_nc hf) (eg_ns hf) h0 pc lv [.long x] h := by
  cases e; exact eg_lret hd
theorem eg_aretE {r x : Option Nat} {ty : FieldType} (hd : decode cc pc = .ok (.areturn, 1)) (ht : (∃ n, ty = .object n) ∨ ∃ t, ty = .array t) (e : some (r, h) = some (x, hf)) : eg_AW (own, cc, nL, d, none, nm, some ty) (eg_Zm (some (va_rf x)) hf h0) (eg_nc hf) (eg_ns hf) h0 pc lv [va_rf r] h := by
  cases e; exact eg_aret hd ht
theorem eg_aretR {r x : Nat} {ty : FieldType} (hd : decode cc pc = .ok (.areturn, 1)) (ht : (∃ n, ty = .object n) ∨ ∃ t, ty = .array t) (e : some (r, h) = some (x, hf)) : eg_AW (own, cc, nL, d, none, nm, some ty) (eg_Zm (some (.ref x)) hf h0) (eg_nc hf) (eg_ns hf) h0 pc lv [.ref r] h := by
  cases e; exact eg_aret (r := some r) hd ht
end RE
