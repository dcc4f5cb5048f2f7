def R_law : String := "EggThrowLaw"
def lw_P (b : Addr) (xs : List Int32) (args : Array Value) (s : State) : Prop := args = #[.ref b] ∧ s.IntsAt b xs ∧ xs.length ≤ 3072 ∧ (Jvm.Cond.and given_1 narrow_1).before args s = true
def lw_Q (_ : Array Value) (s : State) (o : Outcome) (t : State) : Prop := o = .returned (some (.int 1)) ∧ Framed s o t [] 601024 7293034
def lw_Z (below : List Frame) (a : Array Value) (s : State) : State → Prop := fun t => ∃ o, t.status = .running ∧ Ended t below o ∧ lw_Q a s o t
theorem lw_ret {p : Program} {l : Launch} {e : Env} {s : State} {m : MethodId} {below : List Frame} {meth : Method} {c : Code} {b : Nat} (hx : p.tables.exec = Jvm.exec) (hb : c.code = code) (hr : meth.sig.returnType = ret) (hlocks : meth.locks = false) {pc : Nat} {H : Heap} {ls : Array Slot} (hdg : decode code pc = .ok (.ireturn, 1)) : W p l e room_1 s m #[Value.ref b] below meth c H [] 601024 7293034 (lw_Z below #[Value.ref b] s) (F0 m pc ls [.int 1]) := by
  intro T hT X
  obtain ⟨fs, hret, hrun, hended, hW, hframe⟩ := X.leave (v := some (.int 1)) (hlocks := hlocks) (fun h => by rw [hr] at h; cases h)
  have hmeth' : T.vm.method? m = some meth := X.method'
  refine ⟨T.setFrames fs, ?_, .returned (some (.int 1)), hrun, hended, rfl, ⟨_, rfl⟩, hW, hframe⟩
  jvm_step X.here [X.here.top, hx, hb, hdg, hmeth', hr, ret, narrow_b1]
  (try refine ⟨rfl, ?_⟩); (try refine ⟨rfl, ?_⟩)
  first | (intro acts; rw [hret _ acts rfl rfl rfl]) | rw [hret _ _ rfl rfl rfl]
  exact Steps.refl _
def lw_At (p : Program) (s : State) (m : MethodId) (meth : Method) (c : Code) (b L : Nat) (xs : Nat → Int32) : Prop :=
  p.tables.exec = Jvm.exec ∧ c.code = code ∧ meth.sig.returnType = ret ∧ c.maxLocals = 7 ∧ s.vm.findClass R_law = some m.cls ∧ (∀ w ∈ lw_tbl, w.before #[Value.ref b] s = true) ∧ va_X b L xs s s.heap ∧ b < s.heap.size ∧ meth.locks = false ∧ (Jvm.Cond.and given_1 narrow_1).before #[Value.ref b] s = true
def lz_Z : eg_C → State → Prop := fun (_, l, _, R, s, _, args, below, _, _, A, _, _, _) t => l.stackTraces = false → px_Z A s s.heap → (∃ b, args = #[Value.ref b]) → R = room_1 → (∀ q, A q → s.heap.size ≤ q) → lw_Z below args s t
theorem lz_no : ∀ X t, ¬ px_E X → lz_Z X t := fun X t hn => by
  obtain ⟨p, l, e, R, s, m, args, below, meth, c, A, D, dA, ad0⟩ := X
  intro a b
  exact absurd ⟨a, b⟩ hn
section LZ
variable {h : eg_H} {σ : eg_S} {tm i L g : Nat} {xs : Nat → Int32} {nm : String}
theorem lz_end {lv : List (Nat × Value)} (hn : eg_nc h ≤ 3000) (hs : eg_ns h ≤ 70000) (hg : g ≤ 600) : eg_AW (RLw, cL_law, 7, 460, some (L, xs, g), nm, ret) lz_Z 3000 70000 h00 2724 lv [.int 1] h := by
  refine ⟨⟨⟨hn, hs⟩, hg⟩, fun X hX => ?_⟩
  obtain ⟨p, l, e, R, s, m, args, below, meth, c, A, D, dA, ad0⟩ := X
  intro ad H locs ls hl hok hr
  obtain ⟨x1, x2, x3, x4, x5, x6, x7, x8, x9, x10, x11, x12, x13, x14, x15, x16⟩ := hX
  by_cases E : ∃ b, args = #[Value.ref b] ∧ R = room_1 ∧ ∀ q, A q → s.heap.size ≤ q
  · obtain ⟨b, rfl, rfl, hA⟩ := E
    have w : W p l e room_1 s m #[Value.ref b] below meth c H locs (eg_nc h - eg_nc h00 + g) (eg_ns h - eg_ns h00 + 16 * g) (lw_Z below #[Value.ref b] s) (F0 m 2724 ls [.int 1]) := W.widen (k := 601024) (n := 7293034) (by omega) (by omega) (va_forget (fun q hq => hA _ (hr.2.2.1.2.2 q hq)) (lw_ret x1 x2 x15 x16 dL_law_2724))
    intro T hT X
    obtain ⟨t, a, b'⟩ := w T hT X
    exact ⟨t, a, fun _ _ _ _ _ => b'⟩
  · intro T hT X
    exact ⟨_, Steps.refl _, fun _ _ hb hR hA => by
      obtain ⟨b, hb⟩ := hb
      exact absurd ⟨b, hb, hR, hA⟩ E⟩
theorem LI_room (LL : LI h σ B00 tm) : eg_nc h ≤ 3000 ∧ eg_ns h ≤ 70000 := by
  have C := LL.1.2.2.1.2.2.2.2
  have c1 := C.2.2.2.2.1
  have c2 := C.2.2.2.2.2
  have w1 := LL.1.1.2.2.1.1
  have w2 := LL.1.1.2.2.2.1.1
  have b1 : (bRm B00 σ).1 = 2000 + 4 * sN σ + 2 * sF σ := rfl
  have b2 : (bRm B00 σ).2 = 60000 + 300 * sN σ + 300 * sF σ := rfl
  rw [b1] at c1
  rw [b2] at c2
  omega
theorem ld_b {n : Nat} (hn : n < L) (hL : L ≤ 3072) : ¬ nI n < 0 ∧ (nI n).toNatClampNeg < L := by
  refine ⟨fun q => ?_, by rw [nI_clamp (by omega)]; exact hn⟩
  have := (nI_ltI (a := n) (b := 0) (by omega) (by omega)).mp q
  omega
theorem ld_1 (hi : i + 6 ≤ L) (hL : L ≤ 3072) : ¬ (nI i + (1 : Int32)) < 0 ∧ (nI i + (1 : Int32)).toNatClampNeg < L := by
  rw [show (1 : Int32) = nI 1 from rfl, nI_add]
  exact ld_b (by omega) hL
theorem ld_2 (hi : i + 6 ≤ L) (hL : L ≤ 3072) : ¬ (nI i + (2 : Int32)) < 0 ∧ (nI i + (2 : Int32)).toNatClampNeg < L := by
  rw [show (2 : Int32) = nI 2 from rfl, nI_add]
  exact ld_b (by omega) hL
theorem ld_3 (hi : i + 6 ≤ L) (hL : L ≤ 3072) : ¬ (nI i + (3 : Int32)) < 0 ∧ (nI i + (3 : Int32)).toNatClampNeg < L := by
  rw [show (3 : Int32) = nI 3 from rfl, nI_add]
  exact ld_b (by omega) hL
theorem ld_4 (hi : i + 6 ≤ L) (hL : L ≤ 3072) : ¬ (nI i + (4 : Int32)) < 0 ∧ (nI i + (4 : Int32)).toNatClampNeg < L := by
  rw [show (4 : Int32) = nI 4 from rfl, nI_add]
  exact ld_b (by omega) hL
theorem ld_5 (hi : i + 6 ≤ L) (hL : L ≤ 3072) : ¬ (nI i + (5 : Int32)) < 0 ∧ (nI i + (5 : Int32)).toNatClampNeg < L := by
  rw [show (5 : Int32) = nI 5 from rfl, nI_add]
  exact ld_b (by omega) hL
theorem lz_c (hL : L ≤ 3072) (hi : i ≤ 4000) (c : ¬ nI L - (6 : Int32) < nI i) : i + 6 ≤ L := by
  rcases Nat.lt_or_ge L (i + 6) with q | q
  · refine absurd ?_ c
    rw [show (6 : Int32) = iI 6 from rfl, ← iI_n, ← iI_n, iI_sub]
    exact (iI_lt (a := (L : Int) - 6) (b := (i : Int)) (by unfold i3; omega) (by unfold i3; omega)).mpr (by omega)
  · exact q
end LZ
