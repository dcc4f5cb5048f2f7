def iLo (k w : Nat) : Int32 := (eg_tb 2).getD (kB k + w) 0
def iHi (k w : Nat) : Int32 := (eg_tb 3).getD (kB k + w) 0
def vUp (V : Nat → Int32) (i : Nat) (x : Int32) : Nat → Int32 := fun j => if j = i then x else V j
def itemsF (t : Nat → Int32) (n k b : Nat) : Nat → Nat → Nat → (Nat → Int32) → (Nat ⊕ Nat) × (Nat → Int32)
  | 0, i, _, V => (.inr i, V)
  | j + 1, i, m, V => match itm k (sg t n i) with
    | none => (.inr i, V)
    | some w => if m.testBit w = true then (.inr i, V) else match numE t n 2 (skp t n (i + 1)) (iLo k w) (iHi k w) with
      | some e => (.inl e, V)
      | none => itemsF t n k b j (skp t n (skp t n (i + 1) + ndF t n 2 (skp t n (i + 1)))) (m ||| 2 ^ w) (vUp V (b + w) (nvF t n 2 (skp t n (i + 1)) 0))
theorem fin_sI (h : eg_H) (a s w x : Int32) {p i : Nat} (hp : p ≠ 17) : eg_sI (fin h a s w) p i x = fin (eg_sI h p i x) a s w := by
  refine fin_ext rfl (fun q j => ?_) rfl
  show (if q = p ∧ j = i then x else if q = 17 ∧ j = 2 then a else if q = 17 ∧ j = 3 then s else if q = 17 ∧ j = 4 then w else h.2.1 q j) = (if q = 17 ∧ j = 2 then a else if q = 17 ∧ j = 3 then s else if q = 17 ∧ j = 4 then w else if q = p ∧ j = i then x else h.2.1 q j)
  by_cases h1 : q = p ∧ j = i
  · have hq : q ≠ 17 := fun z => hp (h1.1 ▸ z)
    rw [if_pos h1, if_neg (fun z => hq z.1), if_neg (fun z => hq z.1), if_neg (fun z => hq z.1), if_pos h1]
  · rw [if_neg h1]
    split
    · rfl
    · split
      · rfl
      · split
        · rfl
        · rfl
theorem Tp_20 {n : Nat} {t : Nat → Int32} {h : eg_H} (H : Tp n t h) (i : Nat) (x : Int32) : Tp n t (eg_sI h 20 i x) := ⟨H.1, H.2.1, by rw [I_sI, if_neg (by omega)]; exact H.2.2.1, fun j hj => by rw [I_sI, if_neg (by omega)]; exact H.2.2.2 j hj⟩
theorem X_keep {h : eg_H} {p : Nat} {a s w v : Int32} (hs : eg_stt h) (hp : p < 40) : fX8_keep (fin h a s w) 19 (nI p) v = some (fin (eg_sI h 20 p v) a s w) := by
  have hs' : ∀ a b c, eg_stt (fin h a b c) := fun _ _ _ => hs
  have hcl : (nI p).toNatClampNeg = p := nI_clamp (by omega)
  unfold fX8_keep
  rw [if_pos (iO_19 (hs' _ _ _)), if_neg (nI_pos (by omega)), gR_19 (hs' _ _ _), rf_19_1 (hs' _ _ _), Option.bind_some, al_20 (hs' _ _ _), Option.bind_some, if_neg (nI_ge hp (by decide)), Option.bind_some, wI_20 (hs' _ _ _) (nI_pos (by omega)) (by rw [hcl]; exact hp), hcl, Option.bind_some, fin_sI _ _ _ _ _ (by decide)]
def itemsX (t : Nat → Int32) (n : Nat) (r : (Nat ⊕ Nat) × (Nat → Int32)) (g : eg_H) (a s w : Int32) : Prop := match r.1 with
  | .inl e => a = nI n ∧ s = 0 ∧ w = nI e
  | .inr i => a = nI i ∧ s = sg t n i ∧ w = -1 ∧ i ≤ n ∧ ∀ x, x < 40 → eg_I g 20 x = r.2 x
def S20 : List (Nat × Option Nat) := [(20, none)]
theorem X_items_end {n k b : Nat} {t : Nat → Int32} {g : eg_H} (H : Tp n t g) (hk : k < 3) {a w l4 : Int32} {c0 m : Nat} (hc : c0 ≤ 4) : fX8_readItems_L20 (m + 1) (fin g a 0 w) 19 (nI b) (nI (kB k)) (nI (kC k)) l4 (nI c0) = some (if kC k ≤ c0 then .inl (fin g a 0 w) else .inr (fin g a 0 w)) := by
  have h4 := kC_le k
  rw [fX8_readItems_L20]
  by_cases hcc : kC k ≤ c0
  · rw [if_pos (nI_le hcc (by omega)), if_pos hcc]
  · rw [if_neg (nI_ge (by omega) (by omega)), if_neg hcc, X_under hk H, Option.bind_some, (itm_0 k hk).1]
    rfl
theorem numE_n {t : Nat → Int32} {n m i : Nat} {lo hi : Int32} {e : Nat} (h : numE t n m i lo hi = some e) (hi2 : i ≤ n) : e ≤ n := by
  have h1 := ndF_n t n m i hi2
  unfold numE at h
  split at h
  · cases h; exact hi2
  · split at h
    · cases h; exact h1
    · split at h
      · cases h; omega
      · cases h
theorem X_items {n k b : Nat} {t : Nat → Int32} (hk : k < 3) (hb : b + kC k ≤ 40) : ∀ j i m V g c0 M, Tp n t g → (∀ x, x < 40 → eg_I g 20 x = V x) → c0 + j = kC k → j + 1 < M → i ≤ n → m < 16 →
    ∃ g' a s w, (fX8_readItems_L20 M (fin g (nI i) (sg t n i) (-1)) 19 (nI b) (nI (kB k)) (nI (kC k)) (nI m) (nI c0) = some (.inl (fin g' a s w)) ∨ fX8_readItems_L20 M (fin g (nI i) (sg t n i) (-1)) 19 (nI b) (nI (kB k)) (nI (kC k)) (nI m) (nI c0) = some (.inr (fin g' a s w))) ∧ eg_eq S20 g g' ∧ itemsX t n (itemsF t n k b j i m V) g' a s w := by
  have h4 := kC_le k
  have hkB : kB k + kC k ≤ 10 := by unfold kB kC; split <;> omega
  intro j
  induction j with
  | zero =>
    intro i m V g c0 M H hV hc hM hi hm
    obtain ⟨M, rfl⟩ : ∃ M', M = M' + 1 := ⟨M - 1, by omega⟩
    refine ⟨g, nI i, sg t n i, -1, Or.inl ?_, eq_rfl, rfl, rfl, rfl, hi, hV⟩
    rw [fX8_readItems_L20, if_pos (nI_le (by omega) (by omega))]
  | succ j ih =>
    intro i m V g c0 M H hV hc hM hi hm
    obtain ⟨M, rfl⟩ : ∃ M', M = M' + 1 := ⟨M - 1, by omega⟩
    have hn := H.2.1
    have hs' : ∀ a b c, eg_stt (fin g a b c) := fun _ _ _ => H.1
    rw [fX8_readItems_L20, if_neg (nI_ge (by omega) (by omega)), X_under hk H, Option.bind_some]
    unfold itemsF
    cases hit : itm k (sg t n i) with
    | none =>
      refine ⟨g, nI i, sg t n i, -1, Or.inr ?_, eq_rfl, rfl, rfl, rfl, hi, hV⟩
      rfl
    | some w =>
      have hoI : oI (some w) = nI w := rfl
      rw [hoI]
      have hw := itm_lt hit
      have hlt : i < n := by
        rcases Nat.lt_or_ge i n with z | z
        · exact z
        · have : sg t n i = 0 := if_neg (by omega)
          rw [this, (itm_0 k hk).1] at hit
          cases hit
      show ∃ g' a s w', ((if nI w = -1 then _ else _) = _ ∨ (if nI w = -1 then _ else _) = _) ∧ _ ∧ _
      have hw1 : ¬ nI w = -1 := fun z => by
        have e1 : (nI w).toInt = (-1 : Int32).toInt := by rw [z]
        rw [nI_toInt (by omega)] at e1
        have e : (-1 : Int32).toInt = -1 := rfl
        omega
      rw [if_neg hw1]
      by_cases hbt : m.testBit w = true
      · refine ⟨g, nI i, sg t n i, -1, Or.inr ?_, eq_rfl, ?_⟩
        · rw [if_pos ((mk_bit m hm w (by omega)).mpr hbt)]
        · dsimp only
          rw [if_pos hbt]
          exact ⟨rfl, rfl, rfl, hi, hV⟩
      · rw [if_neg (fun z => hbt ((mk_bit m hm w (by omega)).mp z))]
        dsimp only
        rw [if_neg hbt]
        have hj : skp t n (i + 1) ≤ n := skp_le t n _ hlt
        have hnum := X_number (M := 2) H (s := sg t n (skp t n (i + 1))) (lo := iLo k w) (hi := iHi k w) (i := skp t n (i + 1)) (by omega) (by omega)
        rw [Option.bind_some, (mk_or m hm w (by omega)).1, gR_19 (hs' _ _ _), rf_19_0 (hs' _ _ _), Option.bind_some, X_step H (by omega), Option.bind_some, gR_19 (hs' _ _ _), rf_19_0 (hs' _ _ _), Option.bind_some, nI_add, tI_at (by omega), Option.bind_some, tI_at (by omega), Option.bind_some]
        change fX10_number (fin g (nI (skp t n (i + 1))) (sg t n (skp t n (i + 1))) (-1)) 17 2 (iLo k w) (iHi k w) = _ at hnum
        show ∃ g' a s w', (((fX10_number (fin g (nI (skp t n (i + 1))) (sg t n (skp t n (i + 1))) (-1)) 17 2 (iLo k w) (iHi k w)).bind _) = _ ∨ ((fX10_number (fin g (nI (skp t n (i + 1))) (sg t n (skp t n (i + 1))) (-1)) 17 2 (iLo k w) (iHi k w)).bind _) = _) ∧ _ ∧ _
        rw [hnum, Option.bind_some]
        cases hE : numE t n 2 (skp t n (i + 1)) (iLo k w) (iHi k w) with
        | some e =>
          obtain ⟨M, rfl⟩ : ∃ M', M = M' + 1 := ⟨M - 1, by omega⟩
          show ∃ g' a s w', (((fX8_keep (fin g (nI n) 0 (nI e)) 19 (nI b + nI w) _).bind _) = _ ∨ ((fX8_keep (fin g (nI n) 0 (nI e)) 19 (nI b + nI w) _).bind _) = _) ∧ _ ∧ _
          rw [nI_add, X_keep H.1 (by omega), Option.bind_some, nI_1, X_items_end (Tp_20 H _ _) hk (by omega)]
          refine ⟨eg_sI g 20 (b + w) (nvF t n 2 (skp t n (i + 1)) 0), nI n, 0, nI e, ?_, eq_sI eq_rfl rfl, rfl, rfl, rfl⟩
          by_cases hcc : kC k ≤ c0 + 1
          · rw [if_pos hcc]; exact Or.inl rfl
          · rw [if_neg hcc]; exact Or.inr rfl
        | none =>
          have hnd := ndF_n t n 2 (skp t n (i + 1)) hj
          obtain ⟨g', a, s, w', e1, e2, e3⟩ := ih (skp t n (skp t n (i + 1) + ndF t n 2 (skp t n (i + 1)))) (m ||| 2 ^ w) (vUp V (b + w) (nvF t n 2 (skp t n (i + 1)) 0)) (eg_sI g 20 (b + w) (nvF t n 2 (skp t n (i + 1)) 0)) (c0 + 1) M (Tp_20 H _ _) (fun x hx => by
            rw [I_sI]
            unfold vUp
            by_cases hx2 : x = b + w
            · rw [if_pos ⟨rfl, hx2⟩, if_pos hx2]
            · rw [if_neg (fun z => hx2 z.2), if_neg hx2]
              exact hV x hx) (by omega) (by omega) (skp_le t n _ hnd) (mk_or m hm w (by omega)).2
          refine ⟨g', a, s, w', ?_, eq_tr (eq_sI eq_rfl rfl) e2, e3⟩
          show (((fX8_keep (fin g (nI (skp t n (skp t n (i + 1) + ndF t n 2 (skp t n (i + 1))))) (sg t n (skp t n (skp t n (i + 1) + ndF t n 2 (skp t n (i + 1))))) (-1)) 19 (nI b + nI w) _).bind _) = _ ∨ ((fX8_keep (fin g (nI (skp t n (skp t n (i + 1) + ndF t n 2 (skp t n (i + 1))))) (sg t n (skp t n (skp t n (i + 1) + ndF t n 2 (skp t n (i + 1))))) (-1)) 19 (nI b + nI w) _).bind _) = _)
          rw [nI_add, X_keep H.1 (by omega), Option.bind_some, nI_1]
          exact e1
