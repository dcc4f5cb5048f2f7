def vUs (k b : Nat) (V : Nat → Int32) : Nat → Int32 := fun x => if b ≤ x ∧ x < b + kC k then (eg_tb 4).getD (kB k + (x - b)) 0 else V x
def vUc (k b c : Nat) (V : Nat → Int32) : Nat → Int32 := fun x => if b ≤ x ∧ x < b + c then (eg_tb 4).getD (kB k + (x - b)) 0 else V x
theorem X_usual_L {n k b : Nat} {t : Nat → Int32} (hk : k < 3) (hb : b + kC k ≤ 40) {V : Nat → Int32} {a s w : Int32} : ∀ j c g M, Tp n t g → (∀ x, x < 40 → eg_I g 20 x = vUc k b c V x) → c + j = kC k → j < M →
    ∃ g', fX8_putUsual_L3 M (fin g a s w) 19 (nI b) (nI (kB k)) (nI (kC k)) (nI c) = some (fin g' a s w) ∧ eg_eq S20 g g' ∧ ∀ x, x < 40 → eg_I g' 20 x = vUs k b V x := by
  have h4 := kC_le k
  have hkB : kB k + kC k ≤ 10 := by unfold kB kC; split <;> omega
  intro j
  induction j with
  | zero =>
    intro c g M H hV hc hM
    obtain ⟨M, rfl⟩ : ∃ M', M = M' + 1 := ⟨M - 1, by omega⟩
    have hc : c = kC k := by omega
    subst hc
    refine ⟨g, ?_, eq_rfl, hV⟩
    rw [fX8_putUsual_L3, if_pos (nI_le (by omega) (by omega))]
  | succ j ih =>
    intro c g M H hV hc hM
    obtain ⟨M, rfl⟩ : ∃ M', M = M' + 1 := ⟨M - 1, by omega⟩
    obtain ⟨g', e1, e2, e3⟩ := ih (c + 1) (eg_sI g 20 (b + c) ((eg_tb 4).getD (kB k + c) 0)) M (Tp_20 H _ _) (fun x hx => by
      rw [I_sI]
      unfold vUc
      by_cases hx2 : x = b + c
      · rw [if_pos ⟨rfl, hx2⟩, if_pos (by omega), hx2, show b + c - b = c by omega]
      · rw [if_neg (fun z => hx2 z.2), hV x hx]
        unfold vUc
        by_cases hx3 : b ≤ x ∧ x < b + c
        · rw [if_pos hx3, if_pos (by omega)]
        · rw [if_neg hx3, if_neg (by omega)]) (by omega) (by omega)
    refine ⟨g', ?_, eq_tr (eq_sI eq_rfl rfl) e2, e3⟩
    rw [fX8_putUsual_L3, if_neg (nI_ge (by omega) (by omega)), nI_add, if_neg (show ¬ (10 : Int32) ≤ nI (kB k + c) from nI_ge (b := 10) (by omega) (by omega)), tI_at (by omega), Option.bind_some, nI_add, X_keep H.1 (by omega), Option.bind_some, nI_1]
    exact e1
theorem X_usual {n k b : Nat} {t : Nat → Int32} (hk : k < 3) (hb : b + kC k ≤ 40) {V : Nat → Int32} {a s w : Int32} {g : eg_H} (H : Tp n t g) (hV : ∀ x, x < 40 → eg_I g 20 x = V x) :
    ∃ g', fX8_putUsual (fin g a s w) 19 (nI b) (nI (kB k)) (nI (kC k)) = some (fin g' a s w) ∧ eg_eq S20 g g' ∧ ∀ x, x < 40 → eg_I g' 20 x = vUs k b V x := by
  have hs' : ∀ a b c, eg_stt (fin g a b c) := fun _ _ _ => H.1
  have h4 := kC_le k
  obtain ⟨g', e1, e2, e3⟩ := X_usual_L hk hb (V := V) (a := a) (s := s) (w := w) (kC k) 0 g eg_F H (fun x hx => by
    unfold vUc
    rw [if_neg (by omega)]
    exact hV x hx) (by omega) (by rw [eg_F_eq]; omega)
  refine ⟨g', ?_, e2, e3⟩
  rw [nI_0] at e1
  unfold fX8_putUsual
  rw [if_pos (iO_19 (hs' _ _ _)), e1]
  rfl
theorem Tp_eq {n : Nat} {t : Nat → Int32} {g g' : eg_H} {S : List (Nat × Option Nat)} (H : Tp n t g) (E : eg_eq S g g') (hst : eg_stt g') (c1 : eg_cov S 17 1 = false) (c2 : ∀ i, eg_cov S 18 i = false) : Tp n t g' := ⟨hst, H.2.1, by rw [(E.2 17 1 c1).1]; exact H.2.2.1, fun i hi => by rw [(E.2 18 i (c2 i)).1]; exact H.2.2.2 i hi⟩
theorem S20_stt {g g' : eg_H} (E : eg_eq S20 g g') (hs : eg_stt g) : eg_stt g' := eq_stt E hs (by decide)
theorem Tp_S20 {n : Nat} {t : Nat → Int32} {g g' : eg_H} (H : Tp n t g) (E : eg_eq S20 g g') : Tp n t g' := Tp_eq H E (S20_stt E H.1) rfl (fun _ => rfl)
def itemsA (t : Nat → Int32) (n k b i : Nat) (V : Nat → Int32) : (Nat ⊕ Nat) × (Nat → Int32) := itemsF t n k b (kC k) (skp t n (i + 1)) 0 (vUs k b V)
theorem X_readItems {n k b i : Nat} {t : Nat → Int32} (hk : k < 3) (hb : b + kC k ≤ 40) {V : Nat → Int32} {g : eg_H} (H : Tp n t g) (hV : ∀ x, x < 40 → eg_I g 20 x = V x) (hi : i < n) {s : Int32} :
    ∃ g' a s' w, fX8_readItems (fin g (nI i) s (-1)) 19 (nI b) (nI (kB k)) (nI (kC k)) = some (fin g' a s' w) ∧ eg_eq S20 g g' ∧ itemsX t n (itemsA t n k b i V) g' a s' w := by
  have hs' : ∀ a b c, eg_stt (fin g a b c) := fun _ _ _ => H.1
  have hn := H.2.1
  have h4 := kC_le k
  obtain ⟨g1, e1, E1, v1⟩ := X_usual hk hb (a := nI i) (s := s) (w := -1) H hV
  have H1 := Tp_S20 H E1
  have s1 : ∀ a b c, eg_stt (fin g1 a b c) := fun _ _ _ => H1.1
  obtain ⟨g2, a, s', w, e2, E2, x2⟩ := X_items hk hb (kC k) (skp t n (i + 1)) 0 (vUs k b V) g1 0 eg_F H1 v1 (by omega) (by rw [eg_F_eq]; omega) (skp_le t n _ hi) (by decide)
  refine ⟨g2, a, s', w, ?_, eq_tr E1 E2, x2⟩
  rw [nI_0] at e2
  unfold fX8_readItems
  rw [if_pos (iO_19 (hs' _ _ _)), e1, Option.bind_some, gR_19 (s1 _ _ _), rf_19_0 (s1 _ _ _), Option.bind_some, X_step H1 (by omega), Option.bind_some]
  rcases e2 with e2 | e2
  · rw [e2]; rfl
  · rw [e2]; rfl
def clK (s : Int32) (M P E : Nat) : Option Nat := if s = 109 ∧ M = 0 then some 0 else if s = 112 ∧ P < 6 then some 1 else if s = 101 ∧ E < 6 then some 2 else none
def clB (k P E : Nat) : Nat := if k = 0 then 0 else if k = 1 then 4 + 4 * P else 28 + 2 * E
def RX (g : eg_H) (M P E : Nat) (V : Nat → Int32) : Prop := eg_I g 19 2 = nI P ∧ eg_I g 19 3 = nI E ∧ eg_I g 19 4 = nI M ∧ ∀ x, x < 40 → eg_I g 20 x = V x
def S19 : List (Nat × Option Nat) := [(20, none), (19, some 2), (19, some 3), (19, some 4)]
theorem S19_stt {g g' : eg_H} (E : eg_eq S19 g g') (hs : eg_stt g) : eg_stt g' := eq_stt E hs (by decide)
theorem Tp_S19 {n : Nat} {t : Nat → Int32} {g g' : eg_H} (H : Tp n t g) (E : eg_eq S19 g g') : Tp n t g' := Tp_eq H E (S19_stt E H.1) rfl (fun _ => rfl)
theorem S20_19 {g g' : eg_H} (E : eg_eq S20 g g') : eg_eq S19 g g' := eq_mono E (fun p i hc => by
  simp only [eg_cov, S19, S20, List.any_cons, List.any_nil, Bool.or_eq_false_iff] at hc ⊢
  exact ⟨hc.1, trivial⟩)
def clX (t : Nat → Int32) (n i : Nat) (M P E : Nat) (V : Nat → Int32) (g : eg_H) (a s w : Int32) : Prop := match clK (sg t n i) M P E with
  | none => a = nI n ∧ s = 0 ∧ w = nI i
  | some k => match (itemsA t n k (clB k P E) i V).1 with
    | .inl e => a = nI n ∧ s = 0 ∧ w = nI e
    | .inr j => a = nI j ∧ s = sg t n j ∧ w = -1 ∧ j ≤ n ∧ RX g (if k = 0 then 1 else M) (if k = 1 then P + 1 else P) (if k = 2 then E + 1 else E) (itemsA t n k (clB k P E) i V).2
theorem clK_lt {s : Int32} {M P E k : Nat} (h : clK s M P E = some k) : k < 3 ∧ (k = 1 → P < 6) ∧ (k = 2 → E < 6) := by
  unfold clK at h
  split at h
  · cases h; omega
  · split at h
    · next z => cases h; omega
    · split at h
      · next z => cases h; omega
      · cases h
theorem clB_le {k P E : Nat} (hk : k < 3) (hP : k = 1 → P < 6) (hE : k = 2 → E < 6) : clB k P E + kC k ≤ 40 := by
  unfold clB kC
  rcases (show k = 0 ∨ k = 1 ∨ k = 2 by omega) with rfl | rfl | rfl
  · simp
  · have := hP rfl; simp; omega
  · have := hE rfl; simp; omega
