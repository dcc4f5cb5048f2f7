abbrev eg_PV : Type := Nat × List Int32 × ((Nat → Int32) → Int32)
abbrev eg_PR : Type := Nat ⊕ eg_PV
def cl6 (x : Int64) : Int32 := if 1000000 < x then 1000000 else if -1000000 ≤ x then x.toInt32 else -1000000
def opV (o x y : Int32) : Int32 :=
  if o = -6 then cl6 (x + y).toInt64 else if o = -7 then cl6 (x - y).toInt64 else if o = -8 ∨ o = -13 then cl6 (x.toInt64 * y.toInt64)
  else if o = -9 then (if y = 0 then 0 else cl6 (x / y).toInt64) else if o = -10 then (if x = y then 1 else 0) else if o = -11 then (if x < y then 1 else 0) else if o = -12 then (if y < x then 1 else 0) else cl6 (x ||| y).toInt64
def lt5 (s : Int32) : Option Nat := if s = 100 then some 0 else if s = 98 then some 1 else if s = 97 then some 2 else if s = 119 then some 3 else if s = 114 then some 4 else none
def opT (s : Int32) : Option Int32 := if s = 42 then some (-8) else if s = 47 then some (-9) else none
def opS (s : Int32) : Option Int32 := if s = 43 then some (-6) else if s = 45 then some (-7) else none
def opA (s : Int32) : Option Int32 := if s = 38 then some (-13) else none
def opO (s : Int32) : Option Int32 := if s = 124 then some (-14) else none
def opC (s : Int32) : Option Int32 := if s = 61 then some (-10) else if s = 60 then some (-11) else if s = 62 then some (-12) else none
section LT
variable (t : Nat → Int32) (n : Nat)
def pL (ops : Int32 → Option Int32) (nx : Nat → eg_PR) : Nat → eg_PV → eg_PR
  | 0, r => .inr r
  | f + 1, r => match ops (sg t n r.1) with
    | none => .inr r
    | some o => match nx (skp t n (r.1 + 1)) with
      | .inl e => .inl e
      | .inr q => pL ops nx f (q.1, r.2.1 ++ q.2.1 ++ [o], fun env => opV o (r.2.2 env) (q.2.2 env))
def pB (r : eg_PR) (k : eg_PV → eg_PR) : eg_PR := match r with
  | .inl e => .inl e
  | .inr q => k q
def pN (c : Int32) (q : eg_PV) (k : Nat → eg_PR) : eg_PR := if sg t n q.1 = c then k (skp t n (q.1 + 1)) else .inl q.1
def pAtom (br : Nat → eg_PR) (i : Nat) : eg_PR :=
  if dg (sg t n i) then (match numE t n 4 i 0 1000000 with
    | some e => .inl e
    | none => .inr (skp t n (i + ndF t n 4 i), [nvF t n 4 i 0], fun _ => nvF t n 4 i 0))
  else match lt5 (sg t n i) with
    | some l => .inr (skp t n (i + 1), [-1 - nI l], fun env => env l)
    | none => if sg t n i = 91 then br i else .inl i
def pTerm (br : Nat → eg_PR) (i : Nat) : eg_PR := pB (pAtom t n br i) (pL t n opT (pAtom t n br) 161)
def pSumB (br : Nat → eg_PR) (i : Nat) : eg_PR := pB (pTerm t n br i) (pL t n opS (pTerm t n br) 161)
def pSum : Nat → Nat → eg_PR
  | 0 => pSumB t n (fun i => .inl i)
  | d + 1 => pSumB t n (fun i => pB (pSum d (skp t n (i + 1))) (fun q => pN t n 93 q (fun j => .inr (j, q.2))))
def pCmp (d : Nat) (q : eg_PV) : eg_PR := match opC (sg t n q.1) with
  | none => .inl q.1
  | some o => pB (pSum t n d (skp t n (q.1 + 1))) (fun w => .inr (w.1, q.2.1 ++ w.2.1 ++ [o], fun env => opV o (q.2.2 env) (w.2.2 env)))
def pCondF (un : Nat → eg_PR) (r : eg_PR) : eg_PR := pB (pB r (pL t n opA un 161)) (pL t n opO (fun i => pB (un i) (pL t n opA un 161)) 161)
def pUnitB (d : Nat) (no pa : Nat → eg_PR) (i : Nat) : eg_PR := if sg t n i = 33 then no i else if sg t n i = 40 then pa i else pB (pSum t n d i) (pCmp t n d)
def pUnit : Nat → Nat → eg_PR
  | 0 => pUnitB t n 0 (fun i => .inl i) (fun i => .inl i)
  | d + 1 => pUnitB t n (d + 1) (fun i => pB (pUnit d (skp t n (i + 1))) (fun q => .inr (q.1, q.2.1 ++ [-15], fun env => 1 - q.2.2 env)))
      (fun i => pB (pCondF t n (pUnit d) (pUnit d (skp t n (i + 1)))) (fun q => pN t n 41 q (fun j => .inr (j, q.2))))
abbrev eg_CV : Type := Nat × List Int32 × ((Nat → Int32) → Int32) × ((Nat → Int32) → Int32)
def pWhen (r : eg_PR) : Nat ⊕ eg_CV := match r with
  | .inl e => .inl e
  | .inr q => if sg t n q.1 = 63 then (match pSum t n 6 (skp t n (q.1 + 1)) with
    | .inl e => .inl e
    | .inr w => .inr (w.1, q.2.1 ++ [-16] ++ w.2.1 ++ [-17], q.2.2, w.2.2)) else .inl q.1
def pClause (i : Nat) : Nat ⊕ eg_CV :=
  if sg t n i = 121 then (if sg t n (skp t n (i + 1)) = 58 then
    (if sg t n (skp t n (skp t n (i + 1) + 1)) = 33 ∨ sg t n (skp t n (skp t n (i + 1) + 1)) = 40 then pWhen t n (pCondF t n (pUnit t n 6) (pUnit t n 6 (skp t n (skp t n (i + 1) + 1))))
    else match pSum t n 6 (skp t n (skp t n (i + 1) + 1)) with
      | .inl e => .inl e
      | .inr q => if (opC (sg t n q.1)).isSome = true then pWhen t n (pCondF t n (pUnit t n 6) (pCmp t n 6 q)) else .inr (q.1, q.2.1 ++ [-17], fun _ => 1, q.2.2))
    else .inl (skp t n (i + 1))) else .inl i
def pLawF : Nat → Nat → Nat ⊕ (List Int32 × ((Nat → Int32) → Int32))
  | 0, i => .inl i
  | f + 1, i => match pClause t n i with
    | .inl e => .inl e
    | .inr q => if sg t n q.1 = 59 then (match pLawF f (skp t n (q.1 + 1)) with
        | .inl e => .inl e
        | .inr w => .inr (q.2.1 ++ w.1, fun env => if q.2.2.1 env = 0 then w.2 env else q.2.2.2 env))
      else if sg t n q.1 = 0 then .inr (q.2.1, fun env => if q.2.2.1 env = 0 then 0 else q.2.2.2 env) else .inl q.1
def pLaw : Nat ⊕ (List Int32 × ((Nat → Int32) → Int32)) := pLawF t n 161 (skp t n 0)
end LT
def lwA (r : Nat ⊕ (List Int32 × ((Nat → Int32) → Int32))) : Int32 := match r with
  | .inl e => nI e
  | .inr _ => -1
section LP
variable {t : Nat → Int32} {n : Nat}
def pOk (t : Nat → Int32) (n i : Nat) (r : eg_PR) : Prop := match r with
  | .inl e => e ≤ n
  | .inr q => i + q.2.1.length ≤ q.1 ∧ q.1 ≤ n ∧ skp t n q.1 = q.1
theorem sg_n {i : Nat} {c : Int32} (h : sg t n i = c) (hc : ¬ c = 0) : i < n := by
  rcases Nat.lt_or_ge i n with z | z
  · exact z
  · have : sg t n i = 0 := if_neg (by omega)
    rw [this] at h
    exact absurd h.symm hc
theorem op_n {ops : Int32 → Option Int32} (h0 : ops 0 = none) {i : Nat} {o : Int32} (h : ops (sg t n i) = some o) : i < n := by
  rcases Nat.lt_or_ge i n with z | z
  · exact z
  · have : sg t n i = 0 := if_neg (by omega)
    rw [this, h0] at h
    cases h
theorem pOk_L {ops : Int32 → Option Int32} (h0 : ops 0 = none) {nx : Nat → eg_PR} (hx : ∀ i, i ≤ n → skp t n i = i → pOk t n i (nx i)) : ∀ f r i0, i0 + r.2.1.length ≤ r.1 → r.1 ≤ n → skp t n r.1 = r.1 → pOk t n i0 (pL t n ops nx f r) := by
  intro f
  induction f with
  | zero => intro r i0 h1 h2 h3; exact ⟨h1, h2, h3⟩
  | succ f ih =>
    intro r i0 h1 h2 h3
    unfold pL
    cases ho : ops (sg t n r.1) with
    | none => exact ⟨h1, h2, h3⟩
    | some o =>
      have hlt := op_n h0 ho
      have q := hx (skp t n (r.1 + 1)) (skp_le t n _ hlt) (skp_id t n _)
      have hge := skp_ge t n (r.1 + 1)
      dsimp only
      cases hr : nx (skp t n (r.1 + 1)) with
      | inl e => rw [hr] at q; exact q
      | inr w =>
        rw [hr] at q
        obtain ⟨q1, q2, q3⟩ := q
        exact ih _ i0 (by simp only [List.length_append, List.length_cons, List.length_nil]; omega) q2 q3
theorem pOk_B {i : Nat} {r : eg_PR} {k : eg_PV → eg_PR} (h : pOk t n i r) (hk : ∀ q, r = .inr q → i + q.2.1.length ≤ q.1 → q.1 ≤ n → skp t n q.1 = q.1 → pOk t n i (k q)) : pOk t n i (pB r k) := by
  cases r with
  | inl e => exact h
  | inr q => exact hk q rfl h.1 h.2.1 h.2.2
theorem pOk_atom {br : Nat → eg_PR} (hb : ∀ i, i < n → pOk t n i (br i)) {i : Nat} (hi : i ≤ n) : pOk t n i (pAtom t n br i) := by
  unfold pAtom
  by_cases hd : dg (sg t n i)
  · rw [if_pos hd]
    cases hq : numE t n 4 i 0 1000000 with
    | some e => exact numE_n hq hi
    | none =>
      dsimp only
      have h1 := ndF_n t n 4 i hi
      have h2 : 1 ≤ ndF t n 4 i := by
        rcases Nat.eq_zero_or_pos (ndF t n 4 i) with z | z
        · unfold numE at hq; rw [if_pos z] at hq; cases hq
        · exact z
      have h3 := skp_ge t n (i + ndF t n 4 i)
      exact ⟨by show i + 1 ≤ _; omega, skp_le t n _ h1, skp_id t n _⟩
  · rw [if_neg hd]
    cases hl : lt5 (sg t n i) with
    | some l =>
      have hlt : i < n := by
        rcases Nat.lt_or_ge i n with z | z
        · exact z
        · have : sg t n i = 0 := if_neg (by omega)
          rw [this] at hl
          cases hl
      have h3 := skp_ge t n (i + 1)
      exact ⟨by show i + 1 ≤ _; omega, skp_le t n _ hlt, skp_id t n _⟩
    | none =>
      dsimp only
      by_cases hs : sg t n i = 91
      · rw [if_pos hs]; exact hb i (sg_n hs (by decide))
      · rw [if_neg hs]; exact hi
theorem pOk_sumB {br : Nat → eg_PR} (hb : ∀ i, i < n → pOk t n i (br i)) {i : Nat} (hi : i ≤ n) : pOk t n i (pSumB t n br i) := by
  have hT : ∀ i, i ≤ n → pOk t n i (pTerm t n br i) := fun i hi => pOk_B (pOk_atom hb hi) (fun q _ q1 q2 q3 => pOk_L rfl (fun j hj _ => pOk_atom hb hj) 161 q i q1 q2 q3)
  exact pOk_B (hT i hi) (fun q _ q1 q2 q3 => pOk_L rfl (fun j hj _ => hT j hj) 161 q i q1 q2 q3)
theorem pOk_N {c : Int32} (hc : ¬ c = 0) {i : Nat} {q : eg_PV} (h1 : i + q.2.1.length ≤ q.1) (h2 : q.1 ≤ n) : pOk t n i (pN t n c q (fun j => .inr (j, q.2))) := by
  unfold pN
  by_cases hs : sg t n q.1 = c
  · rw [if_pos hs]
    have hlt := sg_n hs hc
    have := skp_ge t n (q.1 + 1)
    exact ⟨by show i + q.2.1.length ≤ _; omega, skp_le t n _ hlt, skp_id t n _⟩
  · rw [if_neg hs]; exact h2
theorem pOk_up {i i' : Nat} {r : eg_PR} (h : pOk t n i' r) (hi : i ≤ i') : pOk t n i r := by
  cases r with
  | inl e => exact h
  | inr q => exact ⟨by have := h.1; omega, h.2⟩
theorem pOk_sum : ∀ d i, i ≤ n → pOk t n i (pSum t n d i) := by
  intro d
  induction d with
  | zero => intro i hi; exact pOk_sumB (fun i hi => by show i ≤ n; omega) hi
  | succ d ih =>
    intro i hi
    refine pOk_sumB (fun j hj => ?_) hi
    have := skp_ge t n (j + 1)
    exact pOk_B (pOk_up (ih (skp t n (j + 1)) (skp_le t n _ hj)) (by omega)) (fun q _ q1 q2 q3 => pOk_N (by decide) q1 q2)
theorem pOk_cmp (d : Nat) {i : Nat} {q : eg_PV} (h1 : i + q.2.1.length ≤ q.1) (h2 : q.1 ≤ n) : pOk t n i (pCmp t n d q) := by
  unfold pCmp
  cases ho : opC (sg t n q.1) with
  | none => exact h2
  | some o =>
    have hlt := op_n (ops := opC) rfl ho
    have hge := skp_ge t n (q.1 + 1)
    have hs := pOk_sum (t := t) d (skp t n (q.1 + 1)) (skp_le t n _ hlt)
    dsimp only
    cases hr : pSum t n d (skp t n (q.1 + 1)) with
    | inl e => rw [hr] at hs; exact hs
    | inr w =>
      rw [hr] at hs
      obtain ⟨q1, q2, q3⟩ := hs
      exact ⟨by simp only [List.length_append, List.length_cons, List.length_nil]; omega, q2, q3⟩
theorem pOk_condF {un : Nat → eg_PR} (hu : ∀ i, i ≤ n → pOk t n i (un i)) {r : eg_PR} {i : Nat} (hr : pOk t n i r) : pOk t n i (pCondF t n un r) := by
  have hT : ∀ i r, pOk t n i r → pOk t n i (pB r (pL t n opA un 161)) := fun i r h => pOk_B h (fun q _ q1 q2 q3 => pOk_L rfl (fun j hj _ => hu j hj) 161 q i q1 q2 q3)
  exact pOk_B (hT i r hr) (fun q _ q1 q2 q3 => pOk_L rfl (fun j hj _ => hT j _ (hu j hj)) 161 q i q1 q2 q3)
theorem pOk_unitB {d : Nat} {no pa : Nat → eg_PR} (h1 : ∀ i, i < n → pOk t n i (no i)) (h2 : ∀ i, i < n → pOk t n i (pa i)) {i : Nat} (hi : i ≤ n) : pOk t n i (pUnitB t n d no pa i) := by
  unfold pUnitB
  by_cases c1 : sg t n i = 33
  · rw [if_pos c1]; exact h1 i (sg_n c1 (by decide))
  · rw [if_neg c1]
    by_cases c2 : sg t n i = 40
    · rw [if_pos c2]; exact h2 i (sg_n c2 (by decide))
    · rw [if_neg c2]
      exact pOk_B (pOk_sum d i hi) (fun q _ q1 q2 q3 => pOk_cmp d q1 q2)
theorem pOk_unit : ∀ d i, i ≤ n → pOk t n i (pUnit t n d i) := by
  intro d
  induction d with
  | zero => intro i hi; exact pOk_unitB (fun i hi => by show i ≤ n; omega) (fun i hi => by show i ≤ n; omega) hi
  | succ d ih =>
    intro i hi
    refine pOk_unitB (fun j hj => ?_) (fun j hj => ?_) hi
    · have hge := skp_ge t n (j + 1)
      have q := ih (skp t n (j + 1)) (skp_le t n _ hj)
      cases hr : pUnit t n d (skp t n (j + 1)) with
      | inl e => rw [hr] at q; exact q
      | inr w =>
        rw [hr] at q
        obtain ⟨q1, q2, q3⟩ := q
        exact ⟨by simp only [List.length_append, List.length_cons, List.length_nil]; omega, q2, q3⟩
    · have := skp_ge t n (j + 1)
      exact pOk_B (pOk_condF ih (pOk_up (ih (skp t n (j + 1)) (skp_le t n _ hj)) (by omega))) (fun q _ q1 q2 q3 => pOk_N (by decide) q1 q2)
end LP
