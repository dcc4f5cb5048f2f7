/-! What is written by hand of the JDK's own methods. -/
/-- a new int[] of n cells, the first of them copied -/
def eg_cp (h : eg_H) (p n : Nat) : eg_H := (h.1 ++ [(100, n)], (fun q => if q = h.1.length then (fun j => if j < n ∧ j < (eg_kd h p).2 then h.2.1 p j else 0) else h.2.1 q), (fun q => if q = h.1.length then (fun _ => 0) else h.2.2.1 q), (fun q => if q = h.1.length then (fun _ => none) else h.2.2.2 q))
def fJ7_copyOf_59c91 (h : eg_H) (l0 : Nat) (l1 : Int32) : Option (Nat × eg_H) := if 16 ≤ l0 ∧ (eg_kd h l0).1 = 100 ∧ ¬ l1 < 0 ∧ l1.toNatClampNeg ≤ 1000000 then some (eg_nc h, eg_cp h l0 l1.toNatClampNeg) else none
theorem mJ7_copyOf_59c91 {h : eg_H} {l0 : Nat} {l1 : Int32} {r9 : Nat} {h9 : eg_H} (hF : fJ7_copyOf_59c91 h l0 l1 = some (r9, h9)) : eg_Met yJ7_copyOf_59c91 cJ7_copyOf_59c91 3 (some (.array .int)) 1 [.ref l0, .int l1] h (some (.ref r9)) h9 := by
  sorry
section RS
variable {own : String} {cc : ByteArray} {nL d : Nat} {sc : Option (Nat × (Nat → Int32))} {nm : String} {rt : Option FieldType} {Z : eg_C → State → Prop} {N S : Nat} {h0 : eg_H} {pc : Nat} {lv : List (Nat × Value)} {st : List Value} {h : eg_H}
theorem eg_strlen {idx p : Nat} {v : Int32} (hd : decode cc pc = .ok (.invokevirtual idx, 3)) (hg : eg_slen p = some v) (w1 : Cond.methodLink own idx ⟨"java/lang/String", "length", "()I"⟩ ∈ eg_G) (h1 : 1 ≤ d)
    (k : eg_AW (own, cc, nL, d, sc, nm, rt) Z N S h0 (pc + 3) lv (.int v :: st) h) : eg_AW (own, cc, nL, d, sc, nm, rt) Z N S h0 pc lv (.ref p :: st) h := by
  sorry
theorem eg_strat {idx p : Nat} {i v : Int32} (hd : decode cc pc = .ok (.invokevirtual idx, 3)) (hg : eg_sat p i = some v) (w1 : Cond.methodLink own idx ⟨"java/lang/String", "charAt", "(I)C"⟩ ∈ eg_G) (h1 : 1 ≤ d)
    (k : eg_AW (own, cc, nL, d, sc, nm, rt) Z N S h0 (pc + 3) lv (.int v :: st) h) : eg_AW (own, cc, nL, d, sc, nm, rt) Z N S h0 pc lv (.int i :: .ref p :: st) h := by
  sorry
end RS
