section RT
variable {own : String} {cc : ByteArray} {nL d : Nat} {sc : Option (Nat × (Nat → Int32) × Nat)} {nm : String} {rt : Option FieldType} {Z : eg_C → State → Prop} {N S : Nat} {h0 : eg_H} {pc : Nat} {lv : List (Nat × Value)} {st : List Value} {h : eg_H}
theorem eg_talen {k : Nat} (hd : decode cc pc = .ok (.arraylength, 1)) (h1 : 1 ≤ k) (h2 : k < 5)
    (kk : eg_AW (own, cc, nL, d, sc, nm, rt) Z N S h0 (pc + 1) lv (.int (10 : Int32) :: st) h) : eg_AW (own, cc, nL, d, sc, nm, rt) Z N S h0 pc lv (.ref k :: st) h := by
  refine eg_gen kk rfl rfl (fun w _ => eg_oc (eg_o1 w) (eg_vi _)) (fun _ w => w) (fun {p' l e R s m args below meth cd H locs cells slots Q ls A D dA} ad hx hb hown hts hK hP hD hS hnm hXt k1 => ?_)
  exact va_tlen hx hb (hXt.1 k h1 h2).2 hS rfl hd (k1 H locs hP hD hS)
end RT
