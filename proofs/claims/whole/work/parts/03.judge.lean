def eg_G : List Cond := lw_tbl.filter goodWord
theorem eg_in {i : Nat} {w : Cond} (hi : lw_tbl[i]? = some w) (hg : goodWord w = true) : w ∈ eg_G := List.mem_filter.mpr ⟨List.mem_of_getElem? hi, hg⟩
theorem eg_good {w w' : Cond} (hw' : w' ∈ eg_G) {b : Cond} (h : w ∈ w' :: eg_G) : w ∈ b :: eg_G ∧ ((w.onTables && w.keeps) = true ∨ ∃ ty, w = .arrayClass ty) := by
  have h1 : w ∈ eg_G := by
    rcases List.mem_cons.mp h with h | h
    · rw [h]; exact hw'
    · exact h
  exact ⟨List.mem_cons_of_mem _ h1, good_of_word (List.mem_filter.mp h1).2⟩
abbrev eg_K : Type := String × ByteArray × Nat × Nat × Option (Nat × (Nat → Int32) × Nat) × String × Option FieldType
def eg_gb (sc : Option (Nat × (Nat → Int32) × Nat)) : Nat := match sc with
  | none => 0
  | some q => q.2.2
def eg_gm (sc : Option (Nat × (Nat → Int32) × Nat)) : Nat := match sc with
  | none => 0
  | some _ => 600
abbrev eg_C : Type := Program × Launch × Env × Room × State × MethodId × Array Value × List Frame × Method × Code × (Nat → Prop) × va_G × (Nat → ClassId) × (Nat → Nat)
def eg_tb (k : Nat) : List Int32 := match k with
  | 1 => [119, 100, 115, 102, 108, 97, 114, 98, 98, 99]
  | 2 => [0, 0, 1, 1, 0, 0, 0, 0, 1, 0]
  | 3 => [9, 1, 9, 60, 5, 9, 5, 9, 99, 1]
  | 4 => [0, 0, 2, 4, 1, 3, 1, 5, 30, 0]
  | _ => []
def eg_tn (k : Nat) : String := match k with
  | 1 => "ITEM_LETTERS"
  | 2 => "ITEM_LEAST"
  | 3 => "ITEM_MOST"
  | _ => "ITEM_USUAL"
def eg_sb (i : Nat) : List Int32 := match i with
  | 0 => [121]
  | 1 => [100, 98, 97, 119, 114]
  | 2 => [119, 100, 115, 102]
  | 3 => [108, 97, 114, 98]
  | 4 => [98, 99]
  | _ => [110, 111, 32, 115, 117, 99, 104, 32, 112, 101, 114, 115, 111, 110, 44, 32, 111, 114, 32, 110, 111, 32, 115, 117, 99, 104, 32, 119, 104, 97, 116]
def eg_sl : List Nat := [1, 5, 4, 4, 2, 31]
def eg_sB : List (List Int32) := [eg_sb 0, eg_sb 1, eg_sb 2, eg_sb 3, eg_sb 4, eg_sb 5]
def eg_so (i : Nat) : String := if i < 5 then "EggThrowModel" else "EggThrow"
def eg_sx (i : Nat) : Nat := match i with
  | 0 => 26
  | 1 => 32
  | 2 => 282
  | 3 => 284
  | 4 => 286
  | _ => 173
def eg_st (i : Nat) : String := match i with
  | 0 => "y"
  | 1 => "dbawr"
  | 2 => "wdsf"
  | 3 => "larb"
  | 4 => "bc"
  | _ => "no such person, or no such what"
def eg_Xt (ad : Nat → Nat) (A : Nat → Prop) (s : State) (H : Heap) : Prop :=
  (∀ k, 1 ≤ k → k < 5 → va_Z "EggThrow" (eg_tn k) "[I" (.ref (ad k)) A s H ∧ va_T .int (ad k) 10 (fun j => .int ((eg_tb k).getD j 0)) A s H) ∧
  (∀ C, C = RX2 ∨ C = RX3 ∨ C = RX4 ∨ C = RX5 → va_AO C s) ∧
  (∀ i n, (i = 83 ∧ n = "ITEM_USUAL") ∨ (i = 80 ∧ n = "ITEM_LETTERS") ∨ (i = 66 ∧ n = "ITEM_LEAST") ∨ (i = 69 ∧ n = "ITEM_MOST") → va_Nw (.fieldLinkNest "EggThrow$MeadowReader" i "EggThrow" n "[I" "EggThrow") s) ∧
  (∀ i c, (i = 9 ∧ c = "EggThrow$Tape") ∨ (i = 34 ∧ c = "EggThrow$Meadow") ∨ (i = 114 ∧ c = "EggThrow$Search") → va_Nw (.methodLinkNest "EggThrow" i ⟨c, "<init>", "()V"⟩ "EggThrow") s) ∧
  ((∃ adV, vk_S 6 eg_sl eg_sB (fun i => ad (i + 5)) adV A s H) ∧ ∀ i, i < 6 → vk_R (eg_so i) (eg_sx i) (eg_st i) (ad (i + 5)) s) ∧
  va_Z "java/lang/String" "COMPACT_STRINGS" "Z" (.int 1) A s H ∧ va_Zq "jdk/internal/util/Preconditions" "SIOOBE_FORMATTER" "Ljava/util/function/BiFunction;" A s H ∧ va_Nw (.castable "[I" "java/lang/Cloneable") s
theorem eg_Nk {C T : String} {s U : State} (hA : s.vm.Alike U.vm) (hZ : va_Nw (.castable C T) s) : va_Nw (.castable C T) U := va_tabs rfl (rfl : (s.setVm U.vm).vm = U.vm) (by rw [Cond.castable_setVm hA]; exact hZ)
theorem eg_Xt_ad {ad0 ad : Nat → Nat} {A : Nat → Prop} {s : State} {H : Heap} (h : eg_Xt ad0 A s H) (e : ∀ k, k < 16 → ad k = ad0 k) : eg_Xt ad A s H := by
  obtain ⟨h1, h2, h3, h4, ⟨⟨adV, h5⟩, h6⟩, h7, h8⟩ := h
  refine ⟨fun k g1 g2 => by rw [e k (by omega)]; exact h1 k g1 g2, h2, h3, h4, ⟨⟨adV, ?_⟩, fun i hi => by rw [e (i + 5) (by omega)]; exact h6 i hi⟩, h7, h8⟩
  refine ⟨fun i hi => ?_, fun i j hi hj q => h5.2 i j hi hj (by show ad0 (i + 5) = ad0 (j + 5); rw [← e (i + 5) (by omega), ← e (j + 5) (by omega)]; exact q)⟩
  have := h5.1 i hi
  dsimp only at this ⊢
  rw [← e (i + 5) (by omega)] at this
  exact this
theorem eg_Xt_warm {ad : Nat → Nat} {A : Nat → Prop} {s U : State} {H : Heap} (h : eg_Xt ad A s H) (hW : s.WarmedH U.vm) : eg_Xt ad A U H := by
  obtain ⟨h1, h2, h3, h4, ⟨⟨adV, h5⟩, h6⟩, h7, h8⟩ := h
  exact ⟨fun k g1 g2 => ⟨va_Z.moved hW.alike (h1 k g1 g2).1, va_T.moved hW.alike (h1 k g1 g2).2⟩, fun C hC => va_AO.moved hW.alike (h2 C hC), fun i n q => va_Nw.warmF hW (h3 i n q), fun i c q => va_Nw.warmM hW (h4 i c q), ⟨⟨adV, vk_S.moved hW.alike h5⟩, fun i hi => vk_R.warm hW (h6 i hi)⟩, va_Z.moved hW.alike h7, va_Zq.moved hW.alike h8.1, eg_Nk hW.alike h8.2⟩
theorem eg_Xt_same {ad : Nat → Nat} {A : Nat → Prop} {s U : State} {H : Heap} (h : eg_Xt ad A s H) (hv : U.vm = s.vm) : eg_Xt ad A U H := by
  obtain ⟨h1, h2, h3, h4, ⟨⟨adV, h5⟩, h6⟩, h7, h8⟩ := h
  have ha : s.vm.Alike U.vm := by rw [hv]; exact Vm.Alike.refl s.vm
  exact ⟨fun k g1 g2 => ⟨va_Z.moved ha (h1 k g1 g2).1, va_T.moved ha (h1 k g1 g2).2⟩, fun C hC => va_AO.moved ha (h2 C hC), fun i n q => va_Nw.same rfl hv.symm (h3 i n q), fun i c q => va_Nw.same rfl hv.symm (h4 i c q), ⟨⟨adV, vk_S.moved ha h5⟩, fun i hi => vk_R.same hv (h6 i hi)⟩, va_Z.moved ha h7, va_Zq.moved ha h8.1, eg_Nk ha h8.2⟩
theorem eg_Xt_kept {ad : Nat → Nat} {A B : Nat → Prop} {s : State} {H H1 : Heap} (h : eg_Xt ad A s H) (hq : ∀ a : Nat, a < H.size → ¬ A a → H1[a]? = H[a]?) (hAB : ∀ q, B q → A q) : eg_Xt ad B s H1 := by
  obtain ⟨h1, h2, h3, h4, ⟨⟨adV, h5⟩, h6⟩, h7, h8⟩ := h
  exact ⟨fun k g1 g2 => ⟨((h1 k g1 g2).1.kept hq).narrow hAB, ((h1 k g1 g2).2.kept hq).narrow hAB⟩, h2, h3, h4, ⟨⟨adV, (h5.kept hq).narrow hAB⟩, h6⟩, (h7.kept hq).narrow hAB, (h8.1.kept hq).narrow hAB, h8.2⟩
def eg_Cx (K : eg_K) (N S : Nat) (h0 : eg_H) : eg_C → Prop := fun (p, l, e, R, s, m, args, below, meth, c, A, D, dA, ad0) =>
  p.tables.exec = Jvm.exec ∧ c.code = K.2.1 ∧ c.maxLocals = K.2.2.1 ∧ s.vm.findClass K.1 = some m.cls ∧ (∀ w ∈ eg_G, w.before args s = true) ∧ va_K D eg_cl (eg_tys dA) s ∧ (∀ q, s.heap.size ≤ q → A q) ∧ K.2.2.2.1 ≤ R.frames ∧ 64 * K.2.2.2.1 ≤ R.locals ∧ N - eg_nc h0 + eg_gm K.2.2.2.2.1 ≤ R.cells ∧ S - eg_ns h0 + 16 * eg_gm K.2.2.2.2.1 ≤ R.slots ∧ eg_Xt ad0 A s s.heap ∧
  (∀ L xs g, K.2.2.2.2.1 = some (L, xs, g) → va_X (ad0 0) L xs s s.heap ∧ ad0 0 < s.heap.size ∧ ¬ A (ad0 0)) ∧ meth.name = K.2.2.2.2.2.1 ∧ meth.sig.returnType = K.2.2.2.2.2.2 ∧ meth.locks = false
def eg_Rl (h0 : eg_H) (s : State) (A : Nat → Prop) (D : va_G) (dA : Nat → ClassId) (ad0 ad : Nat → Nat) (h : eg_H) (H : Heap) (locs : List Loc) : Prop :=
  va_P D eg_cl (eg_ws dA ad h) H ∧ va_D A (eg_ws dA ad h) ∧ va_S A s.heap H locs ∧ eg_wf h ∧ (∀ k, k < eg_nc h0 → ad k = ad0 k) ∧ eg_nc h0 ≤ eg_nc h ∧ eg_ns h0 ≤ eg_ns h ∧ 16 ≤ eg_nc h0
def eg_lm (ad : Nat → Nat) (lv : List (Nat × Value)) : List (Nat × Value) := lv.map (fun q => (q.1, eg_cv ad q.2))
def eg_ok (n : Nat) (lv : List (Nat × Value)) (st : List Value) : Prop := (∀ q ∈ lv, eg_vk n q.2) ∧ ∀ v ∈ st, eg_vk n v
def eg_Wx (K : eg_K) (Z : eg_C → State → Prop) (h0 : eg_H) (pc : Nat) (lv : List (Nat × Value)) (st : List Value) (h : eg_H) : eg_C → Prop := fun (p, l, e, R, s, m, args, below, meth, c, A, D, dA, ad0) =>
  ∀ (ad : Nat → Nat) (H : Heap) (locs : List Loc) (ls : Array Slot), lv_has ls K.2.2.1 (eg_lm ad lv) → eg_ok (eg_nc h) lv st → eg_Rl h0 s A D dA ad0 ad h H locs →
    W p l e R s m args below meth c H locs (eg_nc h - eg_nc h0 + eg_gb K.2.2.2.2.1) (eg_ns h - eg_ns h0 + 16 * eg_gb K.2.2.2.2.1) (Z (p, l, e, R, s, m, args, below, meth, c, A, D, dA, ad0)) (F0 m pc ls (st.map (eg_cv ad)))
def eg_AW (K : eg_K) (Z : eg_C → State → Prop) (N S : Nat) (h0 : eg_H) (pc : Nat) (lv : List (Nat × Value)) (st : List Value) (h : eg_H) : Prop :=
  ((eg_nc h ≤ N ∧ eg_ns h ≤ S) ∧ eg_gb K.2.2.2.2.1 ≤ eg_gm K.2.2.2.2.1) ∧ ∀ X : eg_C, eg_Cx K N S h0 X → eg_Wx K Z h0 pc lv st h X
theorem eg_vi {n : Nat} (x : Int32) : eg_vk n (.int x) := fun k hk => by cases hk
theorem eg_vl {n : Nat} (x : Int64) : eg_vk n (.long x) := fun k hk => by cases hk
theorem eg_vn {n : Nat} : eg_vk n .null := fun k hk => by cases hk
theorem eg_vr {n k : Nat} (h : k < n) : eg_vk n (.ref k) := fun j hj => by cases hj; exact h
theorem eg_vq {n : Nat} {r : Option Nat} (h : ∀ k, r = some k → k < n) : eg_vk n (va_rf r) := fun k hk => by
  cases r with
  | none => cases hk
  | some j => cases hk; exact h _ rfl
theorem eg_o1 {n : Nat} {lv : List (Nat × Value)} {v : Value} {st : List Value} (h : eg_ok n lv (v :: st)) : eg_ok n lv st := ⟨h.1, fun w hw => h.2 w (List.mem_cons_of_mem _ hw)⟩
theorem eg_oc {n : Nat} {lv : List (Nat × Value)} {v : Value} {st : List Value} (h : eg_ok n lv st) (hv : eg_vk n v) : eg_ok n lv (v :: st) := ⟨h.1, fun w hw => (List.mem_cons.mp hw).elim (fun z => by rw [z]; exact hv) (fun z => h.2 w z)⟩
theorem eg_ot {n : Nat} {lv : List (Nat × Value)} {v : Value} {st : List Value} (h : eg_ok n lv (v :: st)) : eg_vk n v := h.2 v List.mem_cons_self
theorem eg_ol {n i k : Nat} {lv : List (Nat × Value)} {v : Value} {st : List Value} (h : eg_ok n lv st) (hk : lv[k]? = some (i, v)) : eg_vk n v := h.1 (i, v) (List.mem_of_getElem? hk)
theorem eg_lmat {ad : Nat → Nat} {lv : List (Nat × Value)} {k i : Nat} {v : Value} (hk : lv[k]? = some (i, v)) : (eg_lm ad lv)[k]? = some (i, eg_cv ad v) := by
  unfold eg_lm
  rw [List.getElem?_map, hk]
  rfl
theorem eg_cat (ad : Nat → Nat) (v : Value) : (eg_cv ad v).category = v.category := by cases v <;> rfl
theorem eg_cv_q (ad : Nat → Nat) (r : Option Nat) : eg_cv ad (va_rf r) = va_rf (r.map ad) := by cases r <;> rfl
def eg_st1 (i : Nat) (v : Value) (lv : List (Nat × Value)) : List (Nat × Value) := (i, v) :: lv.filter (fun q => !(q.1 == i) && !(q.1 + 1 == i && q.2.category == 2))
def eg_st2 (i : Nat) (v : Value) (lv : List (Nat × Value)) : List (Nat × Value) := (i, v) :: lv.filter (fun q => !(q.1 == i) && (!(q.1 == i + 1) && !(q.1 + 1 == i && q.2.category == 2)))
theorem eg_lm_st1 (ad : Nat → Nat) (i : Nat) (v : Value) (lv : List (Nat × Value)) : (i, eg_cv ad v) :: (eg_lm ad lv).filter (fun q => !(q.1 == i) && !(q.1 + 1 == i && q.2.category == 2)) = eg_lm ad (eg_st1 i v lv) := by
  unfold eg_lm eg_st1
  rw [List.map_cons, List.filter_map]
  congr 2
  apply congrArg (fun f => List.filter f lv)
  funext q
  simp [eg_cat]
theorem eg_lm_st2 (ad : Nat → Nat) (i : Nat) (v : Value) (lv : List (Nat × Value)) : (i, eg_cv ad v) :: (eg_lm ad lv).filter (fun q => !(q.1 == i) && (!(q.1 == i + 1) && !(q.1 + 1 == i && q.2.category == 2))) = eg_lm ad (eg_st2 i v lv) := by
  unfold eg_lm eg_st2
  rw [List.map_cons, List.filter_map]
  congr 2
  apply congrArg (fun f => List.filter f lv)
  funext q
  simp [eg_cat]
theorem eg_os1 {n i : Nat} {v : Value} {lv : List (Nat × Value)} {st : List Value} (h : eg_ok n lv (v :: st)) : eg_ok n (eg_st1 i v lv) st := by
  refine ⟨fun q hq => ?_, (eg_o1 h).2⟩
  rcases List.mem_cons.mp hq with z | z
  · rw [z]; exact eg_ot h
  · exact h.1 q (List.mem_filter.mp z).1
theorem eg_os2 {n i : Nat} {v : Value} {lv : List (Nat × Value)} {st : List Value} (h : eg_ok n lv (v :: st)) : eg_ok n (eg_st2 i v lv) st := by
  refine ⟨fun q hq => ?_, (eg_o1 h).2⟩
  rcases List.mem_cons.mp hq with z | z
  · rw [z]; exact eg_ot h
  · exact h.1 q (List.mem_filter.mp z).1
section RL
variable {own : String} {cc : ByteArray} {nL d : Nat} {sc : Option (Nat × (Nat → Int32) × Nat)} {nm : String} {rt : Option FieldType} {Z : eg_C → State → Prop} {N S : Nat} {h0 : eg_H} {pc : Nat} {lv : List (Nat × Value)} {st : List Value} {h : eg_H}
theorem eg_one {pc' : Nat} {lv' : List (Nat × Value)} {st' : List Value} (k : eg_AW (own, cc, nL, d, sc, nm, rt) Z N S h0 pc' lv' st' h) (ho : eg_ok (eg_nc h) lv st → eg_ok (eg_nc h) lv' st')
    (f : ∀ {p : Program} {l : Launch} {e : Env} {R : Room} {s : State} {m : MethodId} {args : Array Value} {below : List Frame} {meth : Method} {c : Code} {H : Heap} {locs : List Loc} {cells slots : Nat} {Q : State → Prop} {ls : Array Slot} (ad : Nat → Nat), p.tables.exec = Jvm.exec → c.code = cc → s.vm.findClass own = some m.cls → (∀ w ∈ eg_G, w.before args s = true) → lv_has ls nL (eg_lm ad lv) →
      (∀ ls', lv_has ls' nL (eg_lm ad lv') → W p l e R s m args below meth c H locs cells slots Q (F0 m pc' ls' (st'.map (eg_cv ad)))) → W p l e R s m args below meth c H locs cells slots Q (F0 m pc ls (st.map (eg_cv ad)))) :
    eg_AW (own, cc, nL, d, sc, nm, rt) Z N S h0 pc lv st h := by
  refine ⟨k.1, fun X hX => ?_⟩
  have k2 := k.2 X hX
  obtain ⟨p, l, e, R, s, m, args, below, meth, c, A, D, dA, ad0⟩ := X
  intro ad H locs ls hl hok hr
  exact f ad hX.1 hX.2.1 hX.2.2.2.1 hX.2.2.2.2.1 hl (fun ls' hl' => k2 ad H locs ls' hl' (ho hok) hr)
theorem eg_two {pc1 pc2 : Nat} {st' : List Value} {cnd : Prop} (k1 : cnd → eg_AW (own, cc, nL, d, sc, nm, rt) Z N S h0 pc1 lv st' h) (k2 : ¬ cnd → eg_AW (own, cc, nL, d, sc, nm, rt) Z N S h0 pc2 lv st' h) (ho : eg_ok (eg_nc h) lv st → eg_ok (eg_nc h) lv st')
    (f : ∀ {p : Program} {l : Launch} {e : Env} {R : Room} {s : State} {m : MethodId} {args : Array Value} {below : List Frame} {meth : Method} {c : Code} {H : Heap} {locs : List Loc} {cells slots : Nat} {Q : State → Prop} {ls : Array Slot} (ad : Nat → Nat), p.tables.exec = Jvm.exec → c.code = cc →
      (cnd → W p l e R s m args below meth c H locs cells slots Q (F0 m pc1 ls (st'.map (eg_cv ad)))) → (¬ cnd → W p l e R s m args below meth c H locs cells slots Q (F0 m pc2 ls (st'.map (eg_cv ad)))) → W p l e R s m args below meth c H locs cells slots Q (F0 m pc ls (st.map (eg_cv ad)))) :
    eg_AW (own, cc, nL, d, sc, nm, rt) Z N S h0 pc lv st h := by
  refine ⟨(Classical.em cnd).elim (fun q => (k1 q).1) (fun q => (k2 q).1), fun X hX => ?_⟩
  have j1 := fun q => (k1 q).2 X hX
  have j2 := fun q => (k2 q).2 X hX
  obtain ⟨p, l, e, R, s, m, args, below, meth, c, A, D, dA, ad0⟩ := X
  intro ad H locs ls hl hok hr
  exact f ad hX.1 hX.2.1 (fun q => j1 q ad H locs ls hl (ho hok) hr) (fun q => j2 q ad H locs ls hl (ho hok) hr)
end RL
