def mf (g : eg_H) (a f d : Int32) : eg_H := mfi (eg_sI g 54 12 d) a f
theorem sI_sI (g : eg_H) (p i : Nat) (x y : Int32) : eg_sI (eg_sI g p i x) p i y = eg_sI g p i y := fin_ext rfl (fun q j => by
  show (if q = p ∧ j = i then y else if q = p ∧ j = i then x else g.2.1 q j) = (if q = p ∧ j = i then y else g.2.1 q j)
  split <;> rfl) rfl
def bd (env : Nat → Int32) : Prop := ∀ l, -1000000 ≤ (env l).toInt ∧ (env l).toInt ≤ 1000000
def cd5 (l : Nat) : Nat := if l = 0 then 100 else if l = 1 then 98 else if l = 2 then 97 else if l = 3 then 119 else 114
def oM (t : Nat → Int32) (n : Nat) (env : Nat → Int32) (Q B : Int32 → Prop) (dep : Nat) (r : eg_PR) (v a f d : Int32) : Prop := Q v ∧ match r with
  | .inl e => f = nI e ∧ e ≤ n
  | .inr q => f = -1 ∧ d = nI dep ∧ (bd env → v = q.2.2 env ∧ B (q.2.2 env)) ∧ ∃ r1, a = nI r1 ∧ r1 ≤ n ∧ skp t n r1 = q.1
section ML
variable {q b n : Nat} {t env : Nat → Int32} {g : eg_H}
theorem Tm_12 (H : Tm q b n t g) (d : Int32) : Tm q b n t (eg_sI g 54 12 d) := by
  obtain ⟨h1, h2, h3, h4, h5, h6, h7⟩ := H
  refine ⟨h1, h2, h3, ?_, ?_, h6, fun i hi => ?_⟩
  · rw [I_sI, if_neg (by decide)]; exact h4
  · rw [I_sI, if_neg (by decide)]; exact h5
  · rw [I_sI, if_neg (by omega)]; exact h7 i hi
theorem mf_stt (H : Tm q b n t g) (a f d : Int32) : eg_stt (mf g a f d) := H.1
theorem mf_look (H : Tm q b n t g) {f d : Int32} {i : Nat} (hi : i ≤ 4000) : fX13_look (mf g (nI i) f d) 54 = some (lk t n (skp t n i), mf g (nI (skp t n i)) f d) := M_look (Tm_12 H d) hi
theorem mf_g11 (H : Tm q b n t g) (a f d : Int32) : eg_gI (mf g a f d) 13 11 54 = some f := by rw [gI_54 (mf_stt H a f d)]; rfl
theorem mf_g10 (H : Tm q b n t g) (a f d : Int32) : eg_gI (mf g a f d) 13 10 54 = some a := by rw [gI_54 (mf_stt H a f d)]; rfl
theorem mf_g12 (H : Tm q b n t g) (a f d : Int32) : eg_gI (mf g a f d) 13 12 54 = some d := by
  rw [gI_54 (mf_stt H a f d)]; unfold mf; rw [mfi_i _ _ _ (by decide), I_sI, if_pos ⟨rfl, rfl⟩]
theorem mf_p10 (H : Tm q b n t g) (a f d x : Int32) : eg_pI (mf g a f d) 13 10 54 x = some (mf g x f d) := by
  rw [pI_54 (mf_stt H a f d)]; unfold mf; rw [mfi_10]
theorem mf_p12 (H : Tm q b n t g) (a f d x : Int32) : eg_pI (mf g a f d) 13 12 54 x = some (mf g a f x) := by
  rw [pI_54 (mf_stt H a f d)]; unfold mf; rw [mfi_sI _ _ _ _ (by decide), sI_sI]
theorem mf_fails (H : Tm q b n t g) (a f d : Int32) : fX13_fails (mf g a f d) 54 = some (0, mf g a (if f = -1 then a else f) d) := M_fails (Tm_12 H d).1
theorem mf_takes (H : Tm q b n t g) {d c : Int32} {i : Nat} (hi : i ≤ 3999) : fX13_takes (mf g (nI i) (-1) d) 54 c = some (if lk t n (skp t n i) = c then (1, mf g (nI (skp t n i + 1)) (-1) d) else (0, mf g (nI (skp t n i)) (nI (skp t n i)) d)) := by
  have := M_takes (Tm_12 H d) (f := -1) (c := c) hi
  rw [if_pos rfl] at this
  exact this
theorem mf_takesD (H : Tm q b n t g) {a f d c : Int32} (hf : ¬ f = -1) : fX13_takes (mf g a f d) 54 c = some (0, mf g a f d) := by
  unfold fX13_takes
  rw [if_pos (iO_54 (mf_stt H _ _ _)), mf_g11 H, Option.bind_some, if_neg hf, mf_fails H, Option.bind_some, if_neg hf]
  rfl
theorem mf_dig (H : Tm q b n t g) {f d : Int32} {i : Nat} (hi : i ≤ 4000) : fX13_isDigit (mf g (nI i) f d) 54 = some (if dg (sg t n i) then 1 else 0, mf g (nI i) f d) := M_isDigit' (Tm_12 H d) hi
theorem lk_sg (i : Nat) : (lk t n i = sg t n i ∧ i < n) ∨ (lk t n i = -1 ∧ sg t n i = 0 ∧ n ≤ i) := by
  unfold lk sg
  by_cases h : i < n
  · rw [if_pos h, if_pos h]; exact Or.inl ⟨rfl, h⟩
  · rw [if_neg h, if_neg h]; exact Or.inr ⟨rfl, rfl, by omega⟩
theorem lk_c {i : Nat} {c : Int32} (h0 : ¬ c = 0) (h1 : ¬ c = -1) : lk t n i = c ↔ sg t n i = c := by
  rcases lk_sg (t := t) (n := n) i with ⟨z, _⟩ | ⟨z, y, _⟩
  · rw [z]
  · rw [z, y]; exact ⟨fun w => absurd w.symm h1, fun w => absurd w.symm h0⟩
def Mlive (t : Nat → Int32) (n : Nat) (env : Nat → Int32) (g : eg_H) (Q B : Int32 → Prop) (rd : eg_H → Option (Int32 × eg_H)) (dep i : Nat) (r : eg_PR) : Prop := ∀ r0, r0 ≤ n → skp t n r0 = i → ∃ v a f d, rd (mf g (nI r0) (-1) (nI dep)) = some (v, mf g a f d) ∧ oM t n env Q B dep r v a f d
theorem M_loop {Q B : Int32 → Prop} {dep : Nat} {L : Nat → eg_H → Int32 → Option (Int32 × eg_H)} {nr : eg_H → Option (Int32 × eg_H)} {ops : Int32 → Option Int32} {op' : Int32 → Int32 → Int32 → Int32} {nx : Nat → eg_PR} (h0 : ops 0 = none) (hn : n ≤ 160)
    (hdead : ∀ F a f d v, ¬ f = -1 → L (F + 1) (mf g a f d) v = some (v, mf g a f d))
    (hnone : ∀ F r0 d v, r0 ≤ n → ops (sg t n (skp t n r0)) = none → L (F + 1) (mf g (nI r0) (-1) d) v = some (v, mf g (nI (skp t n r0)) (-1) d))
    (hgo : ∀ F r0 d v o, r0 ≤ n → ops (sg t n (skp t n r0)) = some o → L (F + 1) (mf g (nI r0) (-1) d) v = (nr (mf g (nI (skp t n r0 + 1)) (-1) d)).bind fun z => L F z.2 (op' o v z.1))
    (hQ : ∀ o s v x, ops s = some o → Q v → Q x → Q (op' o v x)) (hB : ∀ o s v x, ops s = some o → B v → B x → op' o v x = opV o v x ∧ B (opV o v x))
    (hl : ∀ i, i ≤ n → skp t n i = i → Mlive t n env g Q B nr dep i (nx i)) (hok : ∀ i, i ≤ n → skp t n i = i → pOk t n i (nx i)) : ∀ f F r v r0, r0 ≤ n → skp t n r0 = r.1 → Q v → (bd env → v = r.2.2 env ∧ B (r.2.2 env)) → r.1 ≤ n → n - r.1 < f → f < F →
      ∃ v' a f' d, L F (mf g (nI r0) (-1) (nI dep)) v = some (v', mf g a f' d) ∧ oM t n env Q B dep (pL t n ops nx f r) v' a f' d := by
  intro f
  induction f with
  | zero => intro F r v r0 _ _ _ _ _ h; omega
  | succ f ih =>
    intro F r v r0 hr0 hsk hq hv hr hf hF
    obtain ⟨F, rfl⟩ : ∃ F', F = F' + 1 := ⟨F - 1, by omega⟩
    unfold pL
    rw [← hsk]
    cases ho : ops (sg t n (skp t n r0)) with
    | none =>
      refine ⟨v, _, _, _, hnone F r0 _ v hr0 ho, hq, rfl, rfl, hv, skp t n r0, rfl, ?_, ?_⟩
      · omega
      · rw [skp_id, hsk]
    | some o =>
      have hlt := op_n h0 ho
      rw [hgo F r0 _ v o hr0 ho]
      rw [hsk] at hlt ⊢
      have hle := skp_le t n (r.1 + 1) hlt
      have hge := skp_ge t n (r.1 + 1)
      obtain ⟨x, a, f1, d, e1, q1, o1⟩ := hl (skp t n (r.1 + 1)) hle (skp_id t n _) (r.1 + 1) hlt rfl
      have ok := hok (skp t n (r.1 + 1)) hle (skp_id t n _)
      rw [e1, Option.bind_some]
      dsimp only
      cases hx : nx (skp t n (r.1 + 1)) with
      | inl e =>
        rw [hx] at o1
        obtain ⟨u1, u2⟩ := o1
        obtain ⟨F, rfl⟩ : ∃ F', F = F' + 1 := ⟨F - 1, by omega⟩
        exact ⟨_, _, _, _, hdead F _ _ _ _ (by rw [u1]; exact nI_nm1 (by omega)), hQ o _ _ _ ho hq q1, u1, u2⟩
      | inr w =>
        rw [hx] at o1 ok
        obtain ⟨u1, u2, u3, r1, u4, u5, u6⟩ := o1
        obtain ⟨k1, k2, k3⟩ := ok
        subst u1; subst u2; subst u4
        refine ih F (w.1, r.2.1 ++ w.2.1 ++ [o], fun env => opV o (r.2.2 env) (w.2.2 env)) (op' o v x) r1 u5 u6 (hQ o _ _ _ ho hq q1) (fun hb => ?_) k2 (by show n - w.1 < f; omega) (by omega)
        obtain ⟨z1, z2⟩ := hv hb
        obtain ⟨z3, z4⟩ := u3 hb
        rw [z1, z3]
        exact hB o _ _ _ ho z2 z4
theorem M_lp {Q B : Int32 → Prop} {dep i i0 : Nat} {L : Nat → eg_H → Int32 → Option (Int32 × eg_H)} {r1 nr : eg_H → Option (Int32 × eg_H)} {ops : Int32 → Option Int32} {op' : Int32 → Int32 → Int32 → Int32} {nx : Nat → eg_PR} {r : eg_PR} (h0 : ops 0 = none) (hn : n ≤ 160)
    (h1 : Mlive t n env g Q B r1 dep i r) (hi : pOk t n i0 r)
    (hdead : ∀ F a f d v, ¬ f = -1 → L (F + 1) (mf g a f d) v = some (v, mf g a f d))
    (hnone : ∀ F r0 d v, r0 ≤ n → ops (sg t n (skp t n r0)) = none → L (F + 1) (mf g (nI r0) (-1) d) v = some (v, mf g (nI (skp t n r0)) (-1) d))
    (hgo : ∀ F r0 d v o, r0 ≤ n → ops (sg t n (skp t n r0)) = some o → L (F + 1) (mf g (nI r0) (-1) d) v = (nr (mf g (nI (skp t n r0 + 1)) (-1) d)).bind fun z => L F z.2 (op' o v z.1))
    (hQ : ∀ o s v x, ops s = some o → Q v → Q x → Q (op' o v x)) (hB : ∀ o s v x, ops s = some o → B v → B x → op' o v x = opV o v x ∧ B (opV o v x))
    (hl : ∀ i, i ≤ n → skp t n i = i → Mlive t n env g Q B nr dep i (nx i)) (hok : ∀ i, i ≤ n → skp t n i = i → pOk t n i (nx i)) : Mlive t n env g Q B (fun h => (r1 h).bind fun z => L eg_F z.2 z.1) dep i (pB r (pL t n ops nx 161)) := by
  intro r0 hr0 hsk
  obtain ⟨v, a, f, d, e, o0, o1⟩ := h1 r0 hr0 hsk
  show ∃ v a f d, (r1 _).bind _ = _ ∧ _
  rw [e, Option.bind_some]
  cases r with
  | inl e =>
    obtain ⟨u1, u2⟩ := o1
    exact ⟨v, _, _, _, hdead 4999 _ _ _ _ (by rw [u1]; exact nI_nm1 (by omega)), o0, u1, u2⟩
  | inr w =>
    obtain ⟨u1, u2, u3, r1, u4, u5, u6⟩ := o1
    subst u1; subst u2; subst u4
    exact M_loop h0 hn hdead hnone hgo hQ hB hl hok 161 eg_F w v r1 u5 u6 o0 u3 hi.2.1 (by omega) (by rw [eg_F_eq]; omega)
end ML
