def mdF (t : Nat → Int32) (n : Nat) : Nat → Nat → Nat → Nat → Nat → (Nat → Int32) → Nat ⊕ (Nat × Nat × (Nat → Int32))
  | 0, i, _, _, _, _ => .inl i
  | f + 1, i, M, P, E, V => match clK (sg t n i) M P E with
    | none => .inl i
    | some k => match (itemsA t n k (clB k P E) i V).1 with
      | .inl e => .inl e
      | .inr j => if sg t n j = 59 then mdF t n f (skp t n (j + 1)) (if k = 0 then 1 else M) (if k = 1 then P + 1 else P) (if k = 2 then E + 1 else E) (itemsA t n k (clB k P E) i V).2
        else if sg t n j = 0 ∧ 2 ≤ (if k = 1 then P + 1 else P) ∧ 1 ≤ (if k = 2 then E + 1 else E) then .inr (if k = 1 then P + 1 else P, if k = 2 then E + 1 else E, (itemsA t n k (clB k P E) i V).2) else .inl j
def mdA (r : Nat ⊕ (Nat × Nat × (Nat → Int32))) : Int32 := match r with
  | .inl e => nI e
  | .inr _ => -1
theorem nI_nm1 {e : Nat} (he : e < 2 ^ 31) : ¬ nI e = -1 := fun z => by
  have e1 : (nI e).toInt = (-1 : Int32).toInt := by rw [z]
  rw [nI_toInt he] at e1
  have e : (-1 : Int32).toInt = -1 := rfl
  omega
section XM
variable {n : Nat} {t : Nat → Int32}
theorem X_j64_bad {g : eg_H} (H : Tp n t g) {a : Int32} {e : Nat} (he : e < 2 ^ 31) : ∃ a' s', fX8_read_j64 (fin g a 0 (nI e)) 19 = some (nI e, fin g a' s' (nI e)) := by
  have hs' : ∀ a b c, eg_stt (fin g a b c) := fun _ _ _ => H.1
  have hne := nI_nm1 he
  unfold fX8_read_j64
  rw [gR_19 (hs' _ _ _), rf_19_0 (hs' _ _ _), Option.bind_some, X_sign H, Option.bind_some]
  show ∃ a' s', (if (0 : Int32) = 0 then _ else _) = _
  rw [if_pos rfl, gI_19 (hs' _ _ _), Option.bind_some]
  by_cases h1 : eg_I (fin g a 0 (nI e)) 19 2 < 2
  · refine ⟨nI n, 0, ?_⟩
    rw [if_pos h1, gR_19 (hs' _ _ _), rf_19_0 (hs' _ _ _), Option.bind_some, X_markH H, Option.bind_some, if_neg hne, gR_19 (hs' _ _ _), rf_19_0 (hs' _ _ _), Option.bind_some, X_wrongAt H]
    rfl
  · rw [if_neg h1, gI_19 (hs' _ _ _), Option.bind_some]
    by_cases h2 : 1 ≤ eg_I (fin g a 0 (nI e)) 19 3
    · refine ⟨a, 0, ?_⟩
      rw [if_pos h2, gR_19 (hs' _ _ _), rf_19_0 (hs' _ _ _), Option.bind_some, X_wrongAt H]
      rfl
    · refine ⟨nI n, 0, ?_⟩
      rw [if_neg h2, gR_19 (hs' _ _ _), rf_19_0 (hs' _ _ _), Option.bind_some, X_markH H, Option.bind_some, if_neg hne, gR_19 (hs' _ _ _), rf_19_0 (hs' _ _ _), Option.bind_some, X_wrongAt H]
      rfl
theorem X_j64 {g : eg_H} {M P E j : Nat} {V : Nat → Int32} (H : Tp n t g) (R : RX g M P E V) (hP : P ≤ 6) (hE : E ≤ 6) (hj : j ≤ n) : ∃ a' s' w', fX8_read_j64 (fin g (nI j) (sg t n j) (-1)) 19 = some (if sg t n j = 0 ∧ 2 ≤ P ∧ 1 ≤ E then -1 else nI j, fin g a' s' w') := by
  have hs' : ∀ a b c, eg_stt (fin g a b c) := fun _ _ _ => H.1
  have hn := H.2.1
  unfold fX8_read_j64
  rw [gR_19 (hs' _ _ _), rf_19_0 (hs' _ _ _), Option.bind_some, X_sign H, Option.bind_some]
  show ∃ a' s' w', (if sg t n j = 0 then _ else _) = _
  by_cases h0 : sg t n j = 0
  · rw [if_pos h0, gI_19 (hs' _ _ _), Option.bind_some, fin_i _ _ _ _ (by decide), R.1, show (2 : Int32) = nI 2 from rfl]
    by_cases h1 : P < 2
    · refine ⟨nI n, 0, nI j, ?_⟩
      rw [if_pos (nI_lt h1 (by decide)), gR_19 (hs' _ _ _), rf_19_0 (hs' _ _ _), Option.bind_some, X_markH H, Option.bind_some, if_pos rfl, gR_19 (hs' _ _ _), rf_19_0 (hs' _ _ _), Option.bind_some, X_wrongAt H, if_neg (by omega)]
      rfl
    · rw [if_neg (nI_nlt (by omega) (by omega)), gI_19 (hs' _ _ _), Option.bind_some, fin_i _ _ _ _ (by decide), R.2.1]
      by_cases h2 : 1 ≤ E
      · refine ⟨nI j, sg t n j, -1, ?_⟩
        rw [if_pos (show (1 : Int32) ≤ nI E from nI_le (a := 1) h2 (by omega)), gR_19 (hs' _ _ _), rf_19_0 (hs' _ _ _), Option.bind_some, X_wrongAt H, if_pos ⟨h0, by omega, h2⟩]
        rfl
      · refine ⟨nI n, 0, nI j, ?_⟩
        rw [if_neg (show ¬ (1 : Int32) ≤ nI E from nI_ge (b := 1) (by omega) (by decide)), gR_19 (hs' _ _ _), rf_19_0 (hs' _ _ _), Option.bind_some, X_markH H, Option.bind_some, if_pos rfl, gR_19 (hs' _ _ _), rf_19_0 (hs' _ _ _), Option.bind_some, X_wrongAt H, if_neg (fun z => h2 z.2.2)]
        rfl
  · refine ⟨nI n, 0, nI j, ?_⟩
    rw [if_neg h0, gR_19 (hs' _ _ _), rf_19_0 (hs' _ _ _), Option.bind_some, X_markH H, Option.bind_some, if_pos rfl, gR_19 (hs' _ _ _), rf_19_0 (hs' _ _ _), Option.bind_some, X_wrongAt H, if_neg (fun z => h0 z.1)]
    rfl
def X_rest (m : Nat) (h : eg_H) (c0 : Int32) : Option (Int32 × eg_H) := (fX8_readClause h 19).bind fun h13 => (fX8_read_L35 m h13 19 c0).bind fun e => match e with
  | (p17, h18) => fX8_read_j64 h18 p17
def mdX (r : Nat ⊕ (Nat × Nat × (Nat → Int32))) (g : eg_H) : Prop := match r with
  | .inl _ => True
  | .inr q => ∃ M, RX g M q.1 q.2.1 q.2.2
theorem clX_none {i M P E : Nat} {V : Nat → Int32} {g : eg_H} {a s w : Int32} (h : clK (sg t n i) M P E = none) (x : clX t n i M P E V g a s w) : a = nI n ∧ s = 0 ∧ w = nI i := by unfold clX at x; rw [h] at x; exact x
theorem clX_some {i M P E k : Nat} {V : Nat → Int32} {g : eg_H} {a s w : Int32} (h : clK (sg t n i) M P E = some k) (x : clX t n i M P E V g a s w) : match (itemsA t n k (clB k P E) i V).1 with
    | .inl e => a = nI n ∧ s = 0 ∧ w = nI e
    | .inr j => a = nI j ∧ s = sg t n j ∧ w = -1 ∧ j ≤ n ∧ RX g (if k = 0 then 1 else M) (if k = 1 then P + 1 else P) (if k = 2 then E + 1 else E) (itemsA t n k (clB k P E) i V).2 := by unfold clX at x; rw [h] at x; exact x
theorem items_e {k b : Nat} : ∀ j i m (V : Nat → Int32) e, i ≤ n → (itemsF t n k b j i m V).1 = .inl e → k < 3 → e ≤ n := by
  intro j
  induction j with
  | zero => intro i m V e hi he; cases he
  | succ j ih =>
    intro i m V e hi he hk
    unfold itemsF at he
    cases hit : itm k (sg t n i) with
    | none => rw [hit] at he; cases he
    | some w =>
      rw [hit] at he
      dsimp only at he
      have hlt : i < n := by
        rcases Nat.lt_or_ge i n with z | z
        · exact z
        · have : sg t n i = 0 := if_neg (by omega)
          rw [this, (itm_0 k hk).1] at hit
          cases hit
      have hj : skp t n (i + 1) ≤ n := skp_le t n _ hlt
      split at he
      · cases he
      · split at he
        · next q => cases he; exact numE_n q hj
        · exact ih _ _ _ e (skp_le t n _ (ndF_n t n 2 _ hj)) he hk
theorem X_item_e {k b i e : Nat} {V : Nat → Int32} {g : eg_H} (hk : k < 3) (he : (itemsA t n k b i V).1 = .inl e) (hi : i ≤ n) (H : Tp n t g) : e ≤ 1000 := by
  have hn := H.2.1
  unfold itemsA at he
  by_cases hlt : i < n
  · have := items_e _ _ _ _ e (skp_le t n _ hlt) he hk
    omega
  · have h1 : skp t n (i + 1) = i + 1 := by rw [skp_eq, if_neg (by omega)]
    rw [h1] at he
    have h0 : sg t n (i + 1) = 0 := if_neg (by omega)
    have h4 : kC k = 4 ∨ kC k = 2 := by unfold kC; split <;> omega
    rcases h4 with h4 | h4 <;> (rw [h4] at he; unfold itemsF at he; rw [h0, (itm_0 k hk).1] at he; cases he)
theorem X_md : ∀ f i M P E V g c0 m, f + M + P + E = 14 → M ≤ 1 → P ≤ 6 → E ≤ 6 → i ≤ n → Tp n t g → RX g M P E V → c0 + f ≤ 100 → f < m →
    ∃ g' a s w, X_rest m (fin g (nI i) (sg t n i) (-1)) (nI c0) = some (mdA (mdF t n f i M P E V), fin g' a s w) ∧ eg_eq S19 g g' ∧ mdX (mdF t n f i M P E V) g' := by
  intro f
  induction f with
  | zero => intro i M P E V g c0 m h1 h2 h3 h4; omega
  | succ f ih =>
    intro i M P E V g c0 m hf hM hP hE hi H R hc hm
    obtain ⟨m, rfl⟩ : ∃ m', m = m' + 1 := ⟨m - 1, by omega⟩
    have hn := H.2.1
    obtain ⟨g1, a, s, w, e1, E1, x1⟩ := X_clause H R hM hP hE hi
    have H1 := Tp_S19 H E1
    have s1 : ∀ a b c, eg_stt (fin g1 a b c) := fun _ _ _ => H1.1
    have hc160 : ¬ (160 : Int32) ≤ nI c0 := nI_ge (b := 160) (by omega) (by decide)
    unfold X_rest
    rw [e1, Option.bind_some]
    have bad : ∀ e, e < 2 ^ 31 → a = nI n → s = 0 → w = nI e → ∃ a' s' w', ((fX8_read_L35 (m + 1) (fin g1 a s w) 19 (nI c0)).bind fun e => match e with
        | (p17, h18) => fX8_read_j64 h18 p17) = some (nI e, fin g1 a' s' w') := by
      intro e he ha hs0 hw
      subst ha; subst hs0; subst hw
      obtain ⟨a', s', q⟩ := X_j64_bad H1 (a := nI n) he
      refine ⟨a', s', nI e, ?_⟩
      rw [fX8_read_L35, if_neg hc160, gR_19 (s1 _ _ _), rf_19_0 (s1 _ _ _), Option.bind_some, X_takes H1 (by omega), if_neg (by decide), Option.bind_some]
      show ((some (19, fin g1 (nI n) 0 (nI e))).bind fun e => match e with
        | (p17, h18) => fX8_read_j64 h18 p17) = _
      exact q
    unfold mdF
    cases hk : clK (sg t n i) M P E with
    | none =>
      obtain ⟨y1, y2, y3⟩ := clX_none hk x1
      obtain ⟨a', s', w', q⟩ := bad i (by omega) y1 y2 y3
      exact ⟨g1, a', s', w', q, E1, trivial⟩
    | some k =>
      obtain ⟨k1, k2, k3⟩ := clK_lt hk
      have x2 := clX_some hk x1
      dsimp only
      cases hr : (itemsA t n k (clB k P E) i V).1 with
      | inl e =>
        rw [hr] at x2
        obtain ⟨y1, y2, y3⟩ := x2
        have he : e < 2 ^ 31 := by
          have := X_item_e k1 hr hi H
          omega
        obtain ⟨a', s', w', q⟩ := bad e he y1 y2 y3
        exact ⟨g1, a', s', w', q, E1, trivial⟩
      | inr j =>
        rw [hr] at x2
        obtain ⟨y1, y2, y3, y4, y5⟩ := x2
        subst y1; subst y2; subst y3
        dsimp only
        rw [fX8_read_L35, if_neg hc160, gR_19 (s1 _ _ _), rf_19_0 (s1 _ _ _), Option.bind_some, X_takes H1 (by omega)]
        have hM' : (if k = 0 then 1 else M) ≤ 1 := by split <;> omega
        have hP' : (if k = 1 then P + 1 else P) ≤ 6 := by
          split
          · next z => have := k2 z; omega
          · omega
        have hE' : (if k = 2 then E + 1 else E) ≤ 6 := by
          split
          · next z => have := k3 z; omega
          · omega
        by_cases h59 : sg t n j = 59
        · have hjn : j < n := by
            rcases Nat.lt_or_ge j n with z | z
            · exact z
            · have : sg t n j = 0 := if_neg (by omega)
              rw [this] at h59; exact absurd h59 (by decide)
          have hM0 : k = 0 → M = 0 := fun z => by
            subst z
            unfold clK at hk
            split at hk
            · next z => exact z.2
            · split at hk
              · cases hk
              · split at hk <;> cases hk
          obtain ⟨g2, a2, s2, w2, i1, i2, i3⟩ := ih (skp t n (j + 1)) (if k = 0 then 1 else M) (if k = 1 then P + 1 else P) (if k = 2 then E + 1 else E) (itemsA t n k (clB k P E) i V).2 g1 (c0 + 1) m (by
            rcases (show k = 0 ∨ k = 1 ∨ k = 2 by omega) with rfl | rfl | rfl
            · have := hM0 rfl; simp; omega
            · simp; omega
            · simp; omega) hM' hP' hE' (skp_le t n _ hjn) H1 y5 (by omega) (by omega)
          rw [if_pos h59, if_pos h59, Option.bind_some]
          refine ⟨g2, a2, s2, w2, ?_, eq_tr E1 i2, i3⟩
          unfold X_rest at i1
          show (((if (1 : Int32) = 0 then _ else (fX8_readClause (fin g1 (nI (skp t n (j + 1))) (sg t n (skp t n (j + 1))) (-1)) 19).bind fun h8 => fX8_read_L35 m h8 19 (nI c0 + 1)) : Option (Nat × eg_H)).bind fun e => match e with
            | (p17, h18) => fX8_read_j64 h18 p17) = _
          rw [if_neg (by decide), nI_1, Option.bind_assoc]
          exact i1
        · rw [if_neg h59, if_neg h59, Option.bind_some]
          obtain ⟨a', s', w', q⟩ := X_j64 H1 y5 hP' hE' y4
          refine ⟨g1, a', s', w', ?_, E1, ?_⟩
          · show ((some (19, fin g1 (nI j) (sg t n j) (-1))).bind fun e => match e with
              | (p17, h18) => fX8_read_j64 h18 p17) = _
            rw [Option.bind_some]
            refine q.trans ?_
            by_cases hz : sg t n j = 0 ∧ 2 ≤ (if k = 1 then P + 1 else P) ∧ 1 ≤ (if k = 2 then E + 1 else E)
            · rw [if_pos hz, if_pos hz]; rfl
            · rw [if_neg hz, if_neg hz]; rfl
          · by_cases hz : sg t n j = 0 ∧ 2 ≤ (if k = 1 then P + 1 else P) ∧ 1 ≤ (if k = 2 then E + 1 else E)
            · rw [if_pos hz]; exact ⟨_, y5⟩
            · rw [if_neg hz]; trivial
end XM
