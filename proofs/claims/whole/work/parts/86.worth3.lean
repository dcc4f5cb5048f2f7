def wE (e : (eg_H) ⊕ (eg_H) ⊕ (eg_H) ⊕ (Nat × Int32 × eg_H) ⊕ (eg_H)) : Option (Int32 × eg_H) := match e with
    | .inl h7 => some ((0 : Int32), h7)
    | .inr (.inl h9) => some ((0 : Int32), h9)
    | .inr (.inr (.inl h11)) => some ((0 : Int32), h11)
    | .inr (.inr (.inr (.inl (p13, v14, h15)))) =>
      (eg_aI h15 100 p13 (v14 - (1 : Int32))).bind fun v16 =>
      some (v16, h15)
    | .inr (.inr (.inr (.inr (h19)))) => some ((0 : Int32), h19)
section WL
variable {env : Nat → Int32} {t : Nat → Int32} {n : Nat}
theorem W_skip {h : eg_H} {p : Nat} {C : List Int32} (L : Lw h p C) {k : Nat} (hk : k < 40) (h0 : eg_I h (p + 1) k = 0) : ∀ D A B m, C = A ++ D ++ [-17] ++ B → (∀ x ∈ D, ¬ x = -17) → D.length < m → fX5_worth_L123 m h p (p + 3) (p + 1) (nI k) (nI A.length) = some (p, p + 3, p + 1, nI k, nI (A.length + D.length), h) := by
  have hn := L.2.1
  intro D
  induction D with
  | nil =>
    intro A B m hC hD hm
    obtain ⟨m, rfl⟩ : ∃ m', m = m' + 1 := ⟨m - 1, by simp only [List.length_nil] at hm; omega⟩
    have hi : A.length < C.length := by rw [hC]; simp
    rw [fX5_worth_L123, Lw_s L hk, h0, Option.bind_some, if_pos rfl, Lw_al L, Option.bind_some, if_neg (nI_ge hi (by omega)), Lw_c L hi, Option.bind_some, if_pos (by rw [hC]; simp)]
    rfl
  | cons x D ih =>
    intro A B m hC hD hm
    obtain ⟨m, rfl⟩ : ∃ m', m = m' + 1 := ⟨m - 1, by simp only [List.length_cons] at hm; omega⟩
    have hi : A.length < C.length := by rw [hC]; simp
    have hx : C.getD A.length 0 = x := by rw [hC]; simp
    have z := ih (A ++ [x]) B m (by rw [hC]; simp) (fun y hy => hD y (List.mem_cons_of_mem _ hy)) (by simp only [List.length_cons] at hm; omega)
    rw [List.length_append, List.length_singleton] at z
    rw [fX5_worth_L123, Lw_s L hk, h0, Option.bind_some, if_pos rfl, Lw_al L, Option.bind_some, if_neg (nI_ge hi (by omega)), Lw_c L hi, hx, Option.bind_some, if_neg (hD x (List.mem_cons_self ..)), nI_1, z, List.length_cons, show A.length + 1 + D.length = A.length + (D.length + 1) by omega]
theorem W_when {h : eg_H} {p : Nat} {C : List Int32} (L : Lw h p C) {i k F : Nat} (hi : i < C.length) (hx : C.getD i 0 = -16) (hk : k < 40) : Wr (F + 1) h p (k + 1) i = (fX5_worth_L123 eg_F h p (p + 3) (p + 1) (nI k) (nI i)).bind fun e => match e with
    | (p17, p18, p19, v20, v21, h22) => fX5_worth_L15 F h22 p17 p18 p19 v20 (v21 + (1 : Int32)) := by
  have hn := L.2.1
  unfold Wr
  rw [fX5_worth_L15, Lw_al L, Option.bind_some, if_neg (nI_ge hi (by omega)), Lw_c L hi, hx, Option.bind_some, if_pos (by decide), if_pos (show (1 : Int32) ≤ nI (k + 1) from nI_le (a := 1) (by omega) (by omega)), if_neg (by decide), if_neg (by decide), if_pos rfl, nI_p1]
def Cg (env : Nat → Int32) (q : eg_CV) : Prop := ∀ h p C A B F, Lw h p C → Lt5 h p env → C = A ++ q.2.1 ++ B → q.2.1.length < F → ∃ h', eg_eq (Sw p) h h' ∧ (if q.2.2.1 env = 0 then ∃ F', F ≤ F' + q.2.1.length ∧ Wr F h p 0 A.length = Wr F' h' p 0 (A.length + q.2.1.length) else (Wr F h p 0 A.length).bind wE = some (q.2.2.2 env, h'))
def pCg (env : Nat → Int32) (r : Nat ⊕ eg_CV) : Prop := match r with
  | .inl _ => True
  | .inr q => Cg env q
theorem W_val {h : eg_H} {p : Nat} {C : List Int32} (L : Lw h p C) {i F : Nat} (hi : i < C.length) (hx : C.getD i 0 = -17) : (Wr (F + 1) h p 1 i).bind wE = some (eg_I h (p + 1) 0, h) := by
  rw [W_end L (k := 0) hi hx (by omega), Option.bind_some]
  show ((eg_aI h 100 (p + 1) (nI (0 + 1) - 1)).bind fun v16 => some (v16, h)) = _
  rw [nI_m1, Lw_s L (by omega), Option.bind_some]
theorem Cg_when {c1 c2 : List Int32} {v1 v2 : (Nat → Int32) → Int32} {j : Nat} (h1 : Sg env c1 (v1 env) 18) (h2 : Sg env c2 (v2 env) 18) (hne : ∀ x ∈ c2, ¬ x = -17) : Cg env (j, c1 ++ [-16] ++ c2 ++ [-17], v1, v2) := by
  intro h p C A B F L T hC hF
  have hC : C = A ++ (c1 ++ [-16] ++ c2 ++ [-17]) ++ B := hC
  have hF : (c1 ++ [-16] ++ c2 ++ [-17]).length < F := hF
  have hn := L.2.1
  have hlen : (c1 ++ [-16] ++ c2 ++ [-17]).length = c1.length + c2.length + 2 := by simp only [List.length_append, List.length_cons, List.length_nil]; omega
  rw [hlen] at hF
  obtain ⟨F, rfl⟩ : ∃ F', F = F' + 1 + c1.length := ⟨F - 1 - c1.length, by omega⟩
  obtain ⟨g1, e1, E1, f1, w1⟩ := h1 h p C A ([-16] ++ c2 ++ [-17] ++ B) 0 (F + 1) L T (by rw [hC]; simp) (by omega)
  have L1 := Lw_eq L E1
  have hClen : C.length = A.length + (c1.length + c2.length + 2) + B.length := by rw [hC, List.length_append, List.length_append, hlen]
  have hi : (A ++ c1).length < C.length := by rw [List.length_append]; omega
  have e2 := W_when L1 (i := (A ++ c1).length) (k := 0) (F := F) hi (by rw [hC]; have := gd_mid (A ++ c1) (c2 ++ [-17] ++ B) (-16); simpa using this) (by omega)
  have hl : A.length + c1.length = (A ++ c1).length := by rw [List.length_append]
  rw [hl] at e1
  by_cases c0 : v1 env = 0
  · refine ⟨g1, E1, ?_⟩
    show (if v1 env = 0 then _ else _)
    rw [if_pos c0]
    refine ⟨F, ?_, ?_⟩
    · show F + 1 + c1.length ≤ F + (c1 ++ [-16] ++ c2 ++ [-17]).length
      rw [hlen]; omega
    · have z := W_skip L1 (k := 0) (by omega) (by rw [w1, c0]) ([-16] ++ c2) (A ++ c1) B eg_F (by rw [hC]; simp) (fun x hx => by
        rw [List.mem_append] at hx
        rcases hx with hx | hx
        · rw [List.mem_singleton] at hx; rw [hx]; decide
        · exact hne x hx) (by rw [eg_F_eq, List.length_append, List.length_singleton]; omega)
      rw [e1, e2, z, Option.bind_some]
      show fX5_worth_L15 F g1 p (p + 3) (p + 1) (nI 0) (nI _ + 1) = Wr F g1 p 0 (A.length + (c1 ++ [-16] ++ c2 ++ [-17]).length)
      rw [nI_1, hlen]
      unfold Wr
      congr 2
      simp only [List.length_append, List.length_cons, List.length_nil]; omega
  · have z : fX5_worth_L123 eg_F g1 p (p + 3) (p + 1) (nI 0) (nI (A ++ c1).length) = some (p, p + 3, p + 1, nI 0, nI (A ++ c1).length, g1) := by
      rw [eg_F_eq, fX5_worth_L123, Lw_s L1 (by omega), Option.bind_some, w1, if_neg c0]
    obtain ⟨F, rfl⟩ : ∃ F', F = F' + 1 + c2.length := ⟨F - 1 - c2.length, by omega⟩
    obtain ⟨g2, e3, E3, f3, w3⟩ := h2 g1 p C (A ++ c1 ++ [-16]) ([-17] ++ B) 0 (F + 1) L1 (Lt5_eq T E1) (by rw [hC]; simp) (by omega)
    have L2 := Lw_eq L1 E3
    refine ⟨g2, eq_tr E1 E3, ?_⟩
    show (if v1 env = 0 then _ else _)
    rw [if_neg c0, e1, e2, z, Option.bind_some]
    show (fX5_worth_L15 (F + 1 + c2.length) g1 p (p + 3) (p + 1) (nI 0) (nI _ + 1)).bind wE = some (v2 env, g2)
    rw [nI_1]
    have hl3 : (A ++ c1).length + 1 = (A ++ c1 ++ [-16]).length := by rw [List.length_append (as := A ++ c1), List.length_singleton]
    rw [hl3]
    have e3' : fX5_worth_L15 (F + 1 + c2.length) g1 p (p + 3) (p + 1) (nI 0) (nI (A ++ c1 ++ [-16]).length) = Wr (F + 1) g2 p (0 + 1) ((A ++ c1 ++ [-16]).length + c2.length) := e3
    rw [e3']
    have hl4 : (A ++ c1 ++ [-16]).length + c2.length = (A ++ c1 ++ [-16] ++ c2).length := by rw [List.length_append (bs := c2)]
    rw [hl4, W_val L2 (by rw [hClen]; simp only [List.length_append, List.length_cons, List.length_nil]; omega) (by rw [hC]; have := gd_mid (A ++ c1 ++ [-16] ++ c2) B (-17); simpa using this), w3]
theorem Cg_plain {c : List Int32} {v : (Nat → Int32) → Int32} {j : Nat} (h1 : Sg env c (v env) 18) : Cg env (j, c ++ [-17], fun _ => 1, v) := by
  intro h p C A B F L T hC hF
  have hC : C = A ++ (c ++ [-17]) ++ B := hC
  have hF : (c ++ [-17]).length < F := hF
  have hlen : (c ++ [-17]).length = c.length + 1 := by rw [List.length_append]; rfl
  rw [hlen] at hF
  obtain ⟨F, rfl⟩ : ∃ F', F = F' + 1 + c.length := ⟨F - 1 - c.length, by omega⟩
  obtain ⟨g1, e1, E1, f1, w1⟩ := h1 h p C A ([-17] ++ B) 0 (F + 1) L T (by rw [hC]; simp) (by omega)
  have L1 := Lw_eq L E1
  refine ⟨g1, E1, ?_⟩
  show (if (1 : Int32) = 0 then _ else _)
  rw [if_neg (by decide), e1]
  have hl : A.length + c.length = (A ++ c).length := by rw [List.length_append]
  rw [hl, W_val L1 (by rw [hC]; simp only [List.length_append, List.length_cons, List.length_nil]; omega) (by rw [hC]; have := gd_mid (A ++ c) B (-17); simpa using this), w1]
theorem pCg_when {r : eg_PR} (h : pSg env 18 r) : pCg env (pWhen t n r) := by
  unfold pWhen
  cases r with
  | inl e => trivial
  | inr q =>
    dsimp only
    by_cases c : sg t n q.1 = 63
    · rw [if_pos c]
      have hs := pSg_sum (t := t) (n := n) (env := env) 6 (skp t n (q.1 + 1))
      have hz := pNE_sum (t := t) (n := n) 6 (skp t n (q.1 + 1))
      cases hr : pSum t n 6 (skp t n (q.1 + 1)) with
      | inl e => trivial
      | inr w =>
        rw [hr] at hs hz
        exact Cg_when h (Sg_mono hs (by omega)) hz
    · rw [if_neg c]; trivial
theorem pCg_clause (i : Nat) : pCg env (pClause t n i) := by
  unfold pClause
  by_cases c1 : sg t n i = 121
  · rw [if_pos c1]
    generalize skp t n (i + 1) = j
    by_cases c2 : sg t n j = 58
    · rw [if_pos c2]
      generalize skp t n (j + 1) = k
      by_cases c3 : sg t n k = 33 ∨ sg t n k = 40
      · rw [if_pos c3]
        exact pCg_when (pSg_mono (pSg_condF (by omega) (fun i => pSg_unit 6 i) (pSg_unit 6 k)) (by omega))
      · rw [if_neg c3]
        have hs := pSg_sum (t := t) (n := n) (env := env) 6 k
        cases hr : pSum t n 6 k with
        | inl e => trivial
        | inr q =>
          rw [hr] at hs
          dsimp only
          by_cases c4 : (opC (sg t n q.1)).isSome = true
          · rw [if_pos c4]
            exact pCg_when (pSg_mono (pSg_condF (m := 16) (by omega) (fun i => pSg_unit 6 i) (pSg_cmp 6 hs)) (by omega))
          · rw [if_neg c4]
            exact Cg_plain (Sg_mono hs (by omega))
    · rw [if_neg c2]; trivial
  · rw [if_neg c1]; trivial
theorem W_lawF : ∀ f i w, pLawF t n f i = .inr w → ∀ h p C A F, Lw h p C → Lt5 h p env → C = A ++ w.1 → w.1.length < F → ∃ h', (Wr F h p 0 A.length).bind wE = some (w.2 env, h') ∧ eg_eq (Sw p) h h' := by
  intro f
  induction f with
  | zero => intro i w hw; cases hw
  | succ f ih =>
    intro i w hw h p C A F L T hC hF
    have hc := pCg_clause (env := env) (t := t) (n := n) i
    unfold pLawF at hw
    cases hr : pClause t n i with
    | inl e => rw [hr] at hw; cases hw
    | inr q =>
      rw [hr] at hw hc
      dsimp only at hw
      by_cases c1 : sg t n q.1 = 59
      · rw [if_pos c1] at hw
        cases hy : pLawF t n f (skp t n (q.1 + 1)) with
        | inl e => rw [hy] at hw; cases hw
        | inr y =>
          rw [hy] at hw
          cases hw
          have hC : C = A ++ (q.2.1 ++ y.1) := hC
          have hF : (q.2.1 ++ y.1).length < F := hF
          rw [List.length_append] at hF
          obtain ⟨g1, E1, o1⟩ := hc h p C A y.1 F L T (by rw [hC, List.append_assoc]) (by omega)
          show ∃ h', _ = some ((if q.2.2.1 env = 0 then y.2 env else q.2.2.2 env), h') ∧ _
          by_cases c0 : q.2.2.1 env = 0
          · rw [if_pos c0] at o1 ⊢
            obtain ⟨F', k1, k2⟩ := o1
            have L1 := Lw_eq L E1
            obtain ⟨g2, e2, E2⟩ := ih _ y hy g1 p C (A ++ q.2.1) F' L1 (Lt5_eq T E1) (by rw [hC, List.append_assoc]) (by omega)
            rw [List.length_append] at e2
            exact ⟨g2, by rw [k2, e2], eq_tr E1 E2⟩
          · rw [if_neg c0] at o1 ⊢
            exact ⟨g1, o1, E1⟩
      · rw [if_neg c1] at hw
        by_cases c2 : sg t n q.1 = 0
        · rw [if_pos c2] at hw
          cases hw
          have hC : C = A ++ q.2.1 := hC
          have hF : q.2.1.length < F := hF
          obtain ⟨g1, E1, o1⟩ := hc h p C A [] F L T (by rw [hC, List.append_nil]) hF
          show ∃ h', _ = some ((if q.2.2.1 env = 0 then 0 else q.2.2.2 env), h') ∧ _
          by_cases c0 : q.2.2.1 env = 0
          · rw [if_pos c0] at o1 ⊢
            obtain ⟨F', k1, k2⟩ := o1
            obtain ⟨F', rfl⟩ : ∃ F'', F' = F'' + 1 := ⟨F' - 1, by omega⟩
            have L1 := Lw_eq L E1
            have hl : A.length + q.2.1.length = C.length := by rw [hC, List.length_append]
            rw [k2, hl, W_past L1]
            exact ⟨g1, rfl, E1⟩
          · rw [if_neg c0] at o1 ⊢
            exact ⟨g1, o1, E1⟩
        · rw [if_neg c2] at hw; cases hw
theorem X_worth {w : List Int32 × ((Nat → Int32) → Int32)} (hw : pLaw t n = .inr w) {h : eg_H} {p : Nat} (L : Lw h p w.1) (T : Lt5 h p env) : ∃ h', fX5_worth h p = some (w.2 env, h') ∧ eg_eq (Sw p) h h' := by
  have hn := L.2.1
  obtain ⟨h', e, E⟩ := W_lawF (env := env) 161 _ w hw h p w.1 [] eg_F L T rfl (by rw [eg_F_eq]; omega)
  refine ⟨h', ?_, E⟩
  unfold fX5_worth eg_gR
  rw [if_pos (Lw_o L), if_pos (Lw_o L), L.2.2.2.2.2.2.1, Option.bind_some, if_pos (Lw_o L), L.2.2.2.2.2.2.2.1, Option.bind_some]
  exact e
end WL
