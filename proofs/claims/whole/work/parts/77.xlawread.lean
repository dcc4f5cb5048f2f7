def pOkC (t : Nat → Int32) (n i : Nat) (r : Nat ⊕ eg_CV) : Prop := match r with
  | .inl e => e ≤ n
  | .inr q => i + q.2.1.length ≤ q.1 ∧ q.1 ≤ n ∧ skp t n q.1 = q.1
def pOkF (n i : Nat) (r : Nat ⊕ (List Int32 × ((Nat → Int32) → Int32))) : Prop := match r with
  | .inl e => e ≤ n
  | .inr q => i + q.1.length ≤ n
def oF (n : Nat) (r : Nat ⊕ (List Int32 × ((Nat → Int32) → Int32))) (C : List Int32) (g : eg_H) : Prop := match r with
  | .inl e => e ≤ n
  | .inr q => LR g (C ++ q.1)
section XR
variable {n : Nat} {t : Nat → Int32}
theorem pOk_when {i i0 : Nat} {r : eg_PR} (h : pOk t n i r) (hi : i0 + 1 ≤ i) : pOkC t n i0 (pWhen t n r) := by
  unfold pWhen
  cases r with
  | inl e => exact h
  | inr q =>
    obtain ⟨h1, h2, h3⟩ := h
    dsimp only
    by_cases c : sg t n q.1 = 63
    · rw [if_pos c]
      have hlt := sg_n c (by decide)
      have hge := skp_ge t n (q.1 + 1)
      have hs := pOk_sum (t := t) 6 (skp t n (q.1 + 1)) (skp_le t n _ hlt)
      cases hr : pSum t n 6 (skp t n (q.1 + 1)) with
      | inl e => rw [hr] at hs; exact hs
      | inr w =>
        rw [hr] at hs
        obtain ⟨q1, q2, q3⟩ := hs
        exact ⟨by simp only [List.length_append, List.length_cons, List.length_nil]; omega, q2, q3⟩
    · rw [if_neg c]; exact h2
theorem pOk_clause {i : Nat} (hi : i ≤ n) : pOkC t n i (pClause t n i) := by
  unfold pClause
  by_cases c1 : sg t n i = 121
  · rw [if_pos c1]
    have hlt := sg_n c1 (by decide)
    have hge := skp_ge t n (i + 1)
    have hj := skp_le t n (i + 1) hlt
    generalize skp t n (i + 1) = j at hge hj
    by_cases c2 : sg t n j = 58
    · rw [if_pos c2]
      have hlt2 := sg_n c2 (by decide)
      have hge2 := skp_ge t n (j + 1)
      have hk := skp_le t n (j + 1) hlt2
      generalize skp t n (j + 1) = k at hge2 hk
      by_cases c3 : sg t n k = 33 ∨ sg t n k = 40
      · rw [if_pos c3]
        exact pOk_when (pOk_condF (fun i hi => pOk_unit 6 i hi) (pOk_unit 6 k hk)) (by omega)
      · rw [if_neg c3]
        have hs := pOk_sum (t := t) 6 k hk
        cases hr : pSum t n 6 k with
        | inl e => rw [hr] at hs; exact hs
        | inr q =>
          rw [hr] at hs
          obtain ⟨q1, q2, q3⟩ := hs
          dsimp only
          by_cases c4 : (opC (sg t n q.1)).isSome = true
          · rw [if_pos c4]
            exact pOk_when (pOk_condF (fun i hi => pOk_unit 6 i hi) (pOk_cmp 6 q1 q2)) (by omega)
          · rw [if_neg c4]
            exact ⟨by simp only [List.length_append, List.length_cons, List.length_nil]; omega, q2, q3⟩
    · rw [if_neg c2]; exact hj
  · rw [if_neg c1]; exact hi
theorem X_endE {g : eg_H} {c : Int32} {F : Nat} {e : Nat} (H : Tp n t g) (hc : ¬ (160 : Int32) ≤ c) : ((fX6_read_L18 (F + 1) (fin g (nI n) 0 (nI e)) 21 c).bind fun e => match e with
    | (p11, h12) => fX6_read_j47 h12 p11) = some (nI e, fin g (nI n) 0 (nI e)) := by
  have hs' : ∀ a b c, eg_stt (fin g a b c) := fun _ _ _ => H.1
  have hn := H.2.1
  have e1 : fX6_read_L18 (F + 1) (fin g (nI n) 0 (nI e)) 21 c = some (21, fin g (nI n) 0 (nI e)) := by
    show (if (160 : Int32) ≤ c then _ else _) = _
    rw [if_neg hc, gR_21 (hs' _ _ _), rf_21_0 (hs' _ _ _), Option.bind_some, X_takes0 H (by decide), Option.bind_some]
    rfl
  rw [e1, Option.bind_some]
  show fX6_read_j47 _ 21 = _
  unfold fX6_read_j47
  rw [gR_21 (hs' _ _ _), rf_21_0 (hs' _ _ _), Option.bind_some, X_sign H, Option.bind_some]
  show (if (0 : Int32) = 0 then _ else _) = _
  rw [if_pos rfl, gR_21 (hs' _ _ _), rf_21_0 (hs' _ _ _), Option.bind_some, X_wrongAt H, Option.bind_some]
theorem X_lawF : ∀ f F i c g C, Tp n t g → LR g C → C.length ≤ i → i ≤ n → c ≤ i → n - i < f → f < F →
    ∃ g' a s w, ((fX6_readClause (fin g (nI i) (sg t n i) (-1)) 21).bind fun h => (fX6_read_L18 F h 21 (nI c)).bind fun e => match e with
      | (p11, h12) => fX6_read_j47 h12 p11) = some (lwA (pLawF t n f i), fin g' a s w) ∧ eg_eq S21 g g' ∧ oF n (pLawF t n f i) C g' := by
  intro f
  induction f with
  | zero => intro F i c g C _ _ _ _ _ h; omega
  | succ f ih =>
    intro F i c g C H hL hC hi hc hf hF
    obtain ⟨F, rfl⟩ : ∃ F', F = F' + 1 := ⟨F - 1, by omega⟩
    have hn := H.2.1
    obtain ⟨g1, a, s, w, e1, E1, o1⟩ := X_clauseL H hL hC hi
    have H1 := Tp_S21 H E1
    have ok := pOk_clause (t := t) hi
    have hs' : ∀ a b c, eg_stt (fin g1 a b c) := fun _ _ _ => H1.1
    have hc160 : i < n → ¬ (160 : Int32) ≤ nI c := fun hh => nI_ge (b := 160) (by omega) (by decide)
    rw [e1, Option.bind_some]
    unfold pLawF
    cases hr : pClause t n i with
    | inl e =>
      rw [hr] at o1 ok
      obtain ⟨o2, o3, o4, o5, o6⟩ := o1
      subst o2; subst o3; subst o4
      have : ¬ (160 : Int32) ≤ nI c ∨ c = 160 := by
        by_cases hh : c < 160
        · exact Or.inl (nI_ge (b := 160) hh (by decide))
        · exact Or.inr (by omega)
      rcases this with hcc | hcc
      · refine ⟨g1, _, _, _, X_endE H1 hcc, E1, ?_⟩
        exact o5
      · subst hcc
        refine ⟨g1, nI n, 0, nI e, ?_, E1, o5⟩
        have e2 : fX6_read_L18 (F + 1) (fin g1 (nI n) 0 (nI e)) 21 (nI 160) = some (21, fin g1 (nI n) 0 (nI e)) := if_pos (by decide)
        rw [e2, Option.bind_some]
        show fX6_read_j47 _ 21 = _
        unfold fX6_read_j47
        rw [gR_21 (hs' _ _ _), rf_21_0 (hs' _ _ _), Option.bind_some, X_sign H1, Option.bind_some]
        show (if (0 : Int32) = 0 then _ else _) = _
        rw [if_pos rfl, gR_21 (hs' _ _ _), rf_21_0 (hs' _ _ _), Option.bind_some, X_wrongAt H1, Option.bind_some]
        rfl
    | inr q =>
      rw [hr] at o1 ok
      obtain ⟨o2, o3, o4, o5, o6, o7, o8⟩ := o1
      subst o2; subst o3; subst o4
      obtain ⟨k1, k2, k3⟩ := ok
      dsimp only
      by_cases c1 : sg t n q.1 = 59
      · rw [if_pos c1]
        have hlt := sg_n c1 (by decide)
        have hge := skp_ge t n (q.1 + 1)
        obtain ⟨g2, a2, s2, w2, i1, i2, i3⟩ := ih F (skp t n (q.1 + 1)) (c + 1) g1 (C ++ q.2.1) H1 o5 (by simp only [List.length_append]; omega) (skp_le t n _ hlt) (by omega) (by omega) (by omega)
        refine ⟨g2, a2, s2, w2, ?_, eq_tr E1 i2, ?_⟩
        · have e2 : fX6_read_L18 (F + 1) (fin g1 (nI q.1) (sg t n q.1) (-1)) 21 (nI c) = (fX6_readClause (fin g1 (nI (skp t n (q.1 + 1))) (sg t n (skp t n (q.1 + 1))) (-1)) 21).bind fun h => fX6_read_L18 F h 21 (nI (c + 1)) := by
            show (if (160 : Int32) ≤ nI c then _ else _) = _
            rw [if_neg (hc160 (by omega)), gR_21 (hs' _ _ _), rf_21_0 (hs' _ _ _), Option.bind_some, X_takes H1 (by omega), if_pos c1, Option.bind_some]
            show (if (1 : Int32) = 0 then _ else _) = _
            rw [if_neg (by decide), nI_1]
          rw [e2, Option.bind_assoc, i1]
          cases pLawF t n f (skp t n (q.1 + 1)) <;> rfl
        · cases hw : pLawF t n f (skp t n (q.1 + 1)) with
          | inl e => rw [hw] at i3; exact i3
          | inr w =>
            rw [hw] at i3
            show LR g2 (C ++ (q.2.1 ++ w.1))
            rw [← List.append_assoc]; exact i3
      · rw [if_neg c1]
        have e2 : fX6_read_L18 (F + 1) (fin g1 (nI q.1) (sg t n q.1) (-1)) 21 (nI c) = some (21, fin g1 (nI q.1) (sg t n q.1) (-1)) := by
          by_cases hcc : (160 : Int32) ≤ nI c
          · exact if_pos hcc
          · show (if (160 : Int32) ≤ nI c then _ else _) = _
            rw [if_neg hcc, gR_21 (hs' _ _ _), rf_21_0 (hs' _ _ _), Option.bind_some, X_takes0 H1 c1, Option.bind_some]
            rfl
        rw [e2, Option.bind_some]
        show ∃ g' a s w, fX6_read_j47 _ 21 = _ ∧ _
        by_cases c2 : sg t n q.1 = 0
        · rw [if_pos c2]
          refine ⟨g1, nI q.1, sg t n q.1, -1, ?_, E1, o5⟩
          unfold fX6_read_j47
          rw [gR_21 (hs' _ _ _), rf_21_0 (hs' _ _ _), Option.bind_some, X_sign H1, Option.bind_some]
          show (if sg t n q.1 = 0 then _ else _) = _
          rw [if_pos c2, gR_21 (hs' _ _ _), rf_21_0 (hs' _ _ _), Option.bind_some, X_wrongAt H1, Option.bind_some]
          rfl
        · rw [if_neg c2]
          refine ⟨g1, nI n, 0, nI q.1, ?_, E1, k2⟩
          unfold fX6_read_j47
          rw [gR_21 (hs' _ _ _), rf_21_0 (hs' _ _ _), Option.bind_some, X_sign H1, Option.bind_some]
          show (if sg t n q.1 = 0 then _ else _) = _
          rw [if_neg c2, gR_21 (hs' _ _ _), rf_21_0 (hs' _ _ _), Option.bind_some, X_markH H1, if_pos rfl, Option.bind_some, gR_21 (hs' _ _ _), rf_21_0 (hs' _ _ _), Option.bind_some, X_wrongAt H1, Option.bind_some]
          rfl
theorem pOk_lawF : ∀ f i, i ≤ n → pOkF n i (pLawF t n f i) := by
  intro f
  induction f with
  | zero => intro i hi; exact hi
  | succ f ih =>
    intro i hi
    have ok := pOk_clause (t := t) hi
    unfold pLawF
    cases hr : pClause t n i with
    | inl e => rw [hr] at ok; exact ok
    | inr q =>
      rw [hr] at ok
      obtain ⟨k1, k2, k3⟩ := ok
      dsimp only
      by_cases c1 : sg t n q.1 = 59
      · rw [if_pos c1]
        have hlt := sg_n c1 (by decide)
        have hge := skp_ge t n (q.1 + 1)
        have z := ih (skp t n (q.1 + 1)) (skp_le t n _ hlt)
        cases hw : pLawF t n f (skp t n (q.1 + 1)) with
        | inl e => rw [hw] at z; exact z
        | inr w =>
          rw [hw] at z
          show i + (q.2.1 ++ w.1).length ≤ n
          rw [List.length_append]
          have z' : skp t n (q.1 + 1) + w.1.length ≤ n := z
          omega
      · rw [if_neg c1]
        by_cases c2 : sg t n q.1 = 0
        · rw [if_pos c2]; show i + q.2.1.length ≤ n; omega
        · rw [if_neg c2]; exact k2
theorem X_lawRead {h : eg_H} (H : Tp n t h) : ∃ g a s w, fX6_read h 21 = some (lwA (pLaw t n), fin g a s w) ∧ eg_eq S21 h g ∧ oF n (pLaw t n) [] g := by
  have hs := H.1
  have H1 : Tp n t (eg_sI h 21 2 0) := Tp_S21 H (eq_sI eq_rfl rfl)
  have hn := H.2.1
  obtain ⟨g, a, s, w, e, E, o⟩ := X_lawF 161 eg_F (skp t n 0) 0 (eg_sI h 21 2 0) [] H1 ⟨by simp, by rw [I_sI, if_pos ⟨rfl, rfl⟩]; rfl, fun k hk => by simp at hk⟩ (Nat.zero_le _) (skp_le t n _ (Nat.zero_le _)) (Nat.zero_le _) (by omega) (by rw [eg_F_eq]; omega)
  refine ⟨g, a, s, w, ?_, eq_tr (eq_sI eq_rfl rfl) E, o⟩
  unfold fX6_read
  rw [if_pos (iO_21 hs), pI_21 hs, Option.bind_some, gR_21 (show eg_stt (eg_sI h 21 2 0) from hs), rf_21_0 (show eg_stt (eg_sI h 21 2 0) from hs), Option.bind_some]
  have e0 : fX10_rewind (eg_sI h 21 2 0) 17 = some (fin (eg_sI h 21 2 0) (nI (skp t n 0)) (sg t n (skp t n 0)) (-1)) := by
    have := X_rewind H1 (a := eg_I (eg_sI h 21 2 0) 17 2) (s := eg_I (eg_sI h 21 2 0) 17 3) (w := eg_I (eg_sI h 21 2 0) 17 4)
    rw [fin_id] at this
    exact this
  rw [e0, Option.bind_some]
  exact e
end XR
