def sk (t : Nat → Int32) (n : Nat) : Nat → Nat → Nat
  | 0, i => i
  | k + 1, i => if i < n ∧ t i = 32 then sk t n k (i + 1) else i
def skp (t : Nat → Int32) (n i : Nat) : Nat := sk t n (n - i) i
def sg (t : Nat → Int32) (n i : Nat) : Int32 := if i < n then t i else 0
theorem sk_fuel (t : Nat → Int32) (n : Nat) : ∀ k i, n - i ≤ k → sk t n k i = skp t n i := by
  intro k
  induction k with
  | zero =>
    intro i hk
    unfold skp
    rw [show n - i = 0 by omega]
  | succ k ih =>
    intro i hk
    by_cases hi : i < n
    · unfold skp
      rw [show n - i = (n - (i + 1)) + 1 by omega]
      unfold sk
      by_cases hc : i < n ∧ t i = 32
      · rw [if_pos hc, if_pos hc, ih (i + 1) (by omega)]
        rfl
      · rw [if_neg hc, if_neg hc]
    · unfold skp
      rw [show n - i = 0 by omega]
      unfold sk
      rw [if_neg (fun z => hi z.1)]
theorem skp_eq (t : Nat → Int32) (n i : Nat) : skp t n i = if i < n ∧ t i = 32 then skp t n (i + 1) else i := by
  rw [← sk_fuel t n (n - i + 1) i (by omega)]
  show (if i < n ∧ t i = 32 then sk t n (n - i) (i + 1) else i) = _
  by_cases hc : i < n ∧ t i = 32
  · rw [if_pos hc, if_pos hc, sk_fuel t n (n - i) (i + 1) (by omega)]
  · rw [if_neg hc, if_neg hc]
theorem sk_facts (t : Nat → Int32) (n : Nat) : ∀ k i, n - i ≤ k → i ≤ sk t n k i ∧ (sk t n k i ≤ n ∨ sk t n k i = i) ∧ (sk t n k i < n → t (sk t n k i) ≠ 32) := by
  intro k
  induction k with
  | zero =>
    intro i hk
    exact ⟨Nat.le_refl _, Or.inr rfl, fun z => by have : sk t n 0 i = i := rfl; omega⟩
  | succ k ih =>
    intro i hk
    unfold sk
    by_cases hc : i < n ∧ t i = 32
    · rw [if_pos hc]
      obtain ⟨a, b, c⟩ := ih (i + 1) (by omega)
      exact ⟨by omega, by omega, c⟩
    · rw [if_neg hc]
      exact ⟨Nat.le_refl _, Or.inr rfl, fun z q => hc ⟨z, q⟩⟩
theorem skp_ge (t : Nat → Int32) (n i : Nat) : i ≤ skp t n i := (sk_facts t n (n - i) i (Nat.le_refl _)).1
theorem skp_le (t : Nat → Int32) (n i : Nat) (h : i ≤ n) : skp t n i ≤ n := by
  rcases (sk_facts t n (n - i) i (Nat.le_refl _)).2.1 with q | q
  · exact q
  · have e : skp t n i = i := q
    omega
theorem skp_ne (t : Nat → Int32) (n i : Nat) (h : skp t n i < n) : t (skp t n i) ≠ 32 := (sk_facts t n (n - i) i (Nat.le_refl _)).2.2 h
theorem skp_le1 (t : Nat → Int32) (n i : Nat) : skp t n i ≤ n ∨ skp t n i = i := (sk_facts t n (n - i) i (Nat.le_refl _)).2.1
def fin (h : eg_H) (a s w : Int32) : eg_H := (h.1, (fun q j => if q = 17 ∧ j = 2 then a else if q = 17 ∧ j = 3 then s else if q = 17 ∧ j = 4 then w else h.2.1 q j), h.2.2.1, h.2.2.2)
theorem fin_ext {h h' : eg_H} (a : h.1 = h'.1) (b : ∀ q j, h.2.1 q j = h'.2.1 q j) (c : h.2.2 = h'.2.2) : h = h' := by
  obtain ⟨a1, a2, a3⟩ := h
  obtain ⟨b1, b2, b3⟩ := h'
  simp only at a b c
  rw [a, c, show a2 = b2 from funext fun q => funext fun j => b q j]
theorem fin_id (h : eg_H) : fin h (eg_I h 17 2) (eg_I h 17 3) (eg_I h 17 4) = h := by
  refine fin_ext rfl (fun q j => ?_) rfl
  show (if q = 17 ∧ j = 2 then eg_I h 17 2 else if q = 17 ∧ j = 3 then eg_I h 17 3 else if q = 17 ∧ j = 4 then eg_I h 17 4 else eg_I h q j) = eg_I h q j
  split
  · next z => rw [z.1, z.2]
  · split
    · next z => rw [z.1, z.2]
    · split
      · next z => rw [z.1, z.2]
      · rfl
theorem fin_2 (h : eg_H) (a s w x : Int32) : eg_sI (fin h a s w) 17 2 x = fin h x s w := by
  refine fin_ext rfl (fun q j => ?_) rfl
  show (if q = 17 ∧ j = 2 then x else if q = 17 ∧ j = 2 then a else _) = (if q = 17 ∧ j = 2 then x else _)
  split <;> rfl
theorem fin_3 (h : eg_H) (a s w x : Int32) : eg_sI (fin h a s w) 17 3 x = fin h a x w := by
  refine fin_ext rfl (fun q j => ?_) rfl
  show (if q = 17 ∧ j = 3 then x else if q = 17 ∧ j = 2 then a else if q = 17 ∧ j = 3 then s else _) = (if q = 17 ∧ j = 2 then a else if q = 17 ∧ j = 3 then x else _)
  by_cases h2 : q = 17 ∧ j = 2
  · rw [if_neg (by omega), if_pos h2, if_pos h2]
  · by_cases h3 : q = 17 ∧ j = 3
    · rw [if_pos h3, if_neg h2, if_pos h3]
    · rw [if_neg h3, if_neg h2, if_neg h3, if_neg h2, if_neg h3]
theorem fin_4 (h : eg_H) (a s w x : Int32) : eg_sI (fin h a s w) 17 4 x = fin h a s x := by
  refine fin_ext rfl (fun q j => ?_) rfl
  show (if q = 17 ∧ j = 4 then x else if q = 17 ∧ j = 2 then a else if q = 17 ∧ j = 3 then s else if q = 17 ∧ j = 4 then w else _) = (if q = 17 ∧ j = 2 then a else if q = 17 ∧ j = 3 then s else if q = 17 ∧ j = 4 then x else _)
  by_cases h2 : q = 17 ∧ j = 2
  · rw [if_neg (by omega), if_pos h2, if_pos h2]
  · by_cases h3 : q = 17 ∧ j = 3
    · rw [if_neg (by omega), if_neg h2, if_pos h3, if_neg h2, if_pos h3]
    · by_cases h4 : q = 17 ∧ j = 4
      · rw [if_pos h4, if_neg h2, if_neg h3, if_pos h4]
      · rw [if_neg h4, if_neg h2, if_neg h3, if_neg h4, if_neg h2, if_neg h3, if_neg h4]
theorem fin_i2 (h : eg_H) (a s w : Int32) : eg_I (fin h a s w) 17 2 = a := rfl
theorem fin_i3 (h : eg_H) (a s w : Int32) : eg_I (fin h a s w) 17 3 = s := rfl
theorem fin_i4 (h : eg_H) (a s w : Int32) : eg_I (fin h a s w) 17 4 = w := rfl
theorem fin_i1 (h : eg_H) (a s w : Int32) : eg_I (fin h a s w) 17 1 = eg_I h 17 1 := rfl
theorem fin_i (h : eg_H) (a s w : Int32) {q : Nat} (hq : q ≠ 17) (j : Nat) : eg_I (fin h a s w) q j = eg_I h q j := by
  show (if q = 17 ∧ j = 2 then a else if q = 17 ∧ j = 3 then s else if q = 17 ∧ j = 4 then w else eg_I h q j) = eg_I h q j
  rw [if_neg (fun z => hq z.1), if_neg (fun z => hq z.1), if_neg (fun z => hq z.1)]
theorem fin_stt (h : eg_H) (a s w : Int32) : eg_stt (fin h a s w) = eg_stt h := rfl
theorem fin_fin (h : eg_H) (a s w a' s' w' : Int32) : fin (fin h a s w) a' s' w' = fin h a' s' w' := by
  rw [← fin_4 (fin h a s w) a' s' 0 w', ← fin_3 (fin h a s w) a' 0 0 s', ← fin_2 (fin h a s w) 0 0 0 a']
  have e : fin (fin h a s w) 0 0 0 = fin h 0 0 0 := by
    refine fin_ext rfl (fun q j => ?_) rfl
    show (if q = 17 ∧ j = 2 then 0 else if q = 17 ∧ j = 3 then 0 else if q = 17 ∧ j = 4 then 0 else (if q = 17 ∧ j = 2 then a else if q = 17 ∧ j = 3 then s else if q = 17 ∧ j = 4 then w else h.2.1 q j)) = (if q = 17 ∧ j = 2 then 0 else if q = 17 ∧ j = 3 then 0 else if q = 17 ∧ j = 4 then 0 else h.2.1 q j)
    by_cases h2 : q = 17 ∧ j = 2
    · rw [if_pos h2, if_pos h2]
    · by_cases h3 : q = 17 ∧ j = 3
      · rw [if_neg h2, if_pos h3, if_neg h2, if_pos h3]
      · by_cases h4 : q = 17 ∧ j = 4
        · rw [if_neg h2, if_neg h3, if_pos h4, if_neg h2, if_neg h3, if_pos h4]
        · rw [if_neg h2, if_neg h3, if_neg h4, if_neg h2, if_neg h3, if_neg h4, if_neg h2, if_neg h3, if_neg h4]
  rw [e, fin_2, fin_3, fin_4]
def Tp (n : Nat) (t : Nat → Int32) (h : eg_H) : Prop := eg_stt h ∧ n ≤ 160 ∧ eg_I h 17 1 = nI n ∧ ∀ i, i < n → eg_I h 18 i = t i
theorem Tp_fin {n : Nat} {t : Nat → Int32} {h : eg_H} (a s w : Int32) (H : Tp n t h) : Tp n t (fin h a s w) := ⟨H.1, H.2.1, H.2.2.1, fun i hi => by rw [fin_i _ _ _ _ (by decide)]; exact H.2.2.2 i hi⟩
theorem X_settle_L {n : Nat} {t : Nat → Int32} {h : eg_H} (H : Tp n t h) {s w : Int32} : ∀ k m i, n - i ≤ k → k < m → i ≤ 100000 → fX10_settle_L0 m (fin h (nI i) s w) 17 = some (17, fin h (nI (sk t n k i)) s w) := by
  obtain ⟨hs, hn, hl, ht⟩ := H
  intro k
  induction k with
  | zero =>
    intro m i hk hm hi
    obtain ⟨m, rfl⟩ : ∃ m', m = m' + 1 := ⟨m - 1, by omega⟩
    have hs' : eg_stt (fin h (nI i) s w) := hs
    rw [fX10_settle_L0, gI_17 hs', Option.bind_some, gI_17 hs', Option.bind_some, fin_i2, fin_i1, hl, if_pos (nI_le (by omega) (by omega))]
    rfl
  | succ k ih =>
    intro m i hk hm hi
    obtain ⟨m, rfl⟩ : ∃ m', m = m' + 1 := ⟨m - 1, by omega⟩
    have hs' : eg_stt (fin h (nI i) s w) := hs
    rw [fX10_settle_L0, gI_17 hs', Option.bind_some, gI_17 hs', Option.bind_some, fin_i2, fin_i1, hl]
    by_cases hin : i < n
    · have hcl : (nI i).toNatClampNeg = i := nI_clamp (by omega)
      have ea : eg_aI (fin h (nI i) s w) 100 18 (nI i) = some (t i) := by
        rw [aI_18 hs' (nI_pos (by omega)) (by rw [hcl]; omega), hcl, fin_i _ _ _ _ (by decide), ht i hin]
      rw [if_neg (nI_ge hin (by omega)), Option.bind_some, gR_17 hs', rf_17_0 hs', Option.bind_some, al_18 hs', Option.bind_some, if_neg (nI_ge (by omega) (by decide)), Option.bind_some, Option.bind_some, ea, Option.bind_some]
      unfold sk
      by_cases h32 : t i = 32
      · rw [if_pos h32, Option.bind_some, pI_17 hs', Option.bind_some, fin_2, nI_1, if_pos ⟨hin, h32⟩]
        exact ih m (i + 1) (by omega) (by omega) (by omega)
      · rw [if_neg h32, if_neg (fun z => h32 z.2)]
    · rw [if_pos (nI_le (by omega) (by omega))]
      unfold sk
      rw [if_neg (fun z => hin z.1)]
theorem X_settle {n : Nat} {t : Nat → Int32} {h : eg_H} (H : Tp n t h) {s w : Int32} {i : Nat} (hi : i ≤ 1000) : fX10_settle (fin h (nI i) s w) 17 = some (fin h (nI (skp t n i)) (sg t n (skp t n i)) w) := by
  have H' := H
  obtain ⟨hs, hn, hl, ht⟩ := H
  have hs' : ∀ a b c, eg_stt (fin h a b c) := fun _ _ _ => hs
  unfold fX10_settle
  rw [if_pos (iO_17 (hs' _ _ _)), X_settle_L H' (n - i) eg_F i (Nat.le_refl _) (by rw [eg_F_eq]; omega) (by omega), Option.bind_some]
  show fX10_settle_j50 (fin h (nI (skp t n i)) s w) 17 = _
  generalize hj : skp t n i = j
  have hj2 : j ≤ 1000 := by
    rcases skp_le1 t n i with q | q <;> omega
  unfold fX10_settle_j50
  rw [gI_17 (hs' _ _ _), Option.bind_some, gI_17 (hs' _ _ _), Option.bind_some, fin_i2, fin_i1, hl]
  unfold sg
  by_cases hin : j < n
  · have hcl : (nI j).toNatClampNeg = j := nI_clamp (by omega)
    have ea : eg_aI (fin h (nI j) s w) 100 18 (nI j) = some (t j) := by
      rw [aI_18 (hs' _ _ _) (nI_pos (by omega)) (by rw [hcl]; omega), hcl, fin_i _ _ _ _ (by decide), ht j hin]
    rw [if_neg (nI_ge hin (by omega)), Option.bind_some, gR_17 (hs' _ _ _), rf_17_0 (hs' _ _ _), Option.bind_some, al_18 (hs' _ _ _), Option.bind_some, if_neg (nI_ge (by omega) (by decide)), Option.bind_some, Option.bind_some, ea, Option.bind_some, pI_17 (hs' _ _ _), Option.bind_some, fin_3, if_pos hin]
  · rw [if_pos (nI_le (by omega) (by omega)), pI_17 (hs' _ _ _), Option.bind_some, fin_3, if_neg hin]
