def eg_cp (h : eg_H) (p n : Nat) : eg_H := (h.1 ++ [(100, n)], (fun q => if q = h.1.length then (fun j => if j < n ∧ j < (eg_kd h p).2 then h.2.1 p j else 0) else h.2.1 q), (fun q => if q = h.1.length then (fun _ => 0) else h.2.2.1 q), (fun q => if q = h.1.length then (fun _ => none) else h.2.2.2 q))
def fJ7_copyOf_59c91 (h : eg_H) (l0 : Nat) (l1 : Int32) : Option (Nat × eg_H) := if 16 ≤ l0 ∧ (eg_kd h l0).1 = 100 ∧ ¬ l1 < 0 ∧ l1.toNatClampNeg ≤ 1000000 then some (eg_nc h, eg_cp h l0 l1.toNatClampNeg) else none
theorem mJ7_copyOf_59c91 {h : eg_H} {l0 : Nat} {l1 : Int32} {r9 : Nat} {h9 : eg_H} (hF : fJ7_copyOf_59c91 h l0 l1 = some (r9, h9)) : eg_Met yJ7_copyOf_59c91 cJ7_copyOf_59c91 3 (some (.array .int)) 1 [.ref l0, .int l1] h (some (.ref r9)) h9 := by
  sorry
section RS
variable {own : String} {cc : ByteArray} {nL d : Nat} {sc : Option (Nat × (Nat → Int32) × Nat)} {nm : String} {rt : Option FieldType} {Z : eg_C → State → Prop} {N S : Nat} {h0 : eg_H} {pc : Nat} {lv : List (Nat × Value)} {st : List Value} {h : eg_H}
theorem eg_WldcSw {p : Program} {l : Launch} {e : Env} {R : Room} {s : State} {m : MethodId} {args : Array Value} {below : List Frame} {meth : Method} {c : Code} {H : Heap} {locs : List Loc} {cells slots : Nat} {Q : State → Prop} {ls : Array Slot} {rest : List Value} (hexec : p.tables.exec = Jvm.exec) (hb : c.code = cc) {tx : String} {index q : Nat} (hown : s.vm.findClass own = some m.cls) (hZ : vk_R own index tx q s) (hdg : decode cc pc = .ok (.ldc_w index, 3))
    (k : W p l e R s m args below meth c H locs cells slots Q (F0 m (pc + 3) ls (.ref q :: rest))) : W p l e R s m args below meth c H locs cells slots Q (F0 m pc ls rest) := by
  intro T hT X
  obtain ⟨t, a1, b1⟩ := k T hT X
  obtain ⟨kc, cf, i, a', hk, hcf, hcp, -, hr, hev'⟩ := Cond.stringRef_spec (args := #[]) hown hZ.1
  cases hZ.2.symm.trans hev'
  obtain ⟨k', hk', he⟩ := X.warmed.alike.2.2 _ _ hk
  have hr' : k'.resolved[index]? = some (some (.string q)) := by
    rcases X.warmed.entry hk hk' index with h | ⟨h, -⟩
    · rw [h]; exact hr
    · rw [hr] at h; cases h
  have hdg' : decode c.code pc = .ok (.ldc_w index, 3) := by rw [hb]; exact hdg
  refine ⟨t, ?_, b1⟩
  jvm_step X.here [hexec, hdg', ldc_w.wp_string (e := e) (s := T) (f := F0 m pc ls rest) X.here.top hk' (by rw [he]; exact hcf) hcp hr']
  exact a1
theorem eg_ldcSw {i idx : Nat} (hd : decode cc pc = .ok (.ldc_w idx, 3)) (hi : i < 6) (ho : own = eg_so i) (hx0 : idx = eg_sx i)
    (k : eg_AW (own, cc, nL, d, sc, nm, rt) Z N S h0 (pc + 3) lv (.ref (i + 5) :: st) h) : eg_AW (own, cc, nL, d, sc, nm, rt) Z N S h0 pc lv st h :=
  eg_bi k (fun w wf => eg_oc w (eg_vr (by have := wf.1; omega))) (fun ad S0 hXt hS hl hf hlo hc hs kk => by
    subst hx0
    exact eg_WldcSw S0.1 S0.2.1 S0.2.2.2.1 (by rw [ho]; exact hXt.2.2.2.2.1.2 i hi) hd kk)
theorem eg_strlen {idx p : Nat} {v : Int32} (hd : decode cc pc = .ok (.invokevirtual idx, 3)) (hg : eg_slen p = some v) (w1 : Cond.methodLink own idx ⟨"java/lang/String", "length", "()I"⟩ ∈ eg_G) (h1 : 4 ≤ d) (h8 : (st.map fun v => v.category).sum ≤ 8)
    (k : eg_AW (own, cc, nL, d, sc, nm, rt) Z N S h0 (pc + 3) lv (.int v :: st) h) : eg_AW (own, cc, nL, d, sc, nm, rt) Z N S h0 pc lv (.ref p :: st) h := by
  sorry
theorem eg_strat {idx p : Nat} {i v : Int32} (hd : decode cc pc = .ok (.invokevirtual idx, 3)) (hg : eg_sat p i = some v) (w1 : Cond.methodLink own idx ⟨"java/lang/String", "charAt", "(I)C"⟩ ∈ eg_G) (h1 : 4 ≤ d) (h8 : (st.map fun v => v.category).sum ≤ 8)
    (k : eg_AW (own, cc, nL, d, sc, nm, rt) Z N S h0 (pc + 3) lv (.int v :: st) h) : eg_AW (own, cc, nL, d, sc, nm, rt) Z N S h0 pc lv (.int i :: .ref p :: st) h := by
  sorry
end RS
