def dgW (w : Nat → Nat) : Nat → Nat
  | 0 => 0
  | i + 1 => 10 * dgW w i + (w i - 1)
def upW (w : Nat → Nat) (i r : Nat) : Nat → Nat := fun x => if x = i then r + 1 else if x = r then i + 1 else w x
def lpF (rec : (Nat → Nat) → Nat → (Nat × Nat) → (Nat × Nat)) (P : Nat) (v : Nat → Nat) (i : Nat) (w : Nat → Nat) (tot : Nat) : Nat → (Nat × Nat) → (Nat × Nat)
  | 0, b => b
  | k + 1, b => lpF rec P v i w tot k (if w (P - (k + 1)) = 0 then rec (upW w i (P - (k + 1))) (tot + v (6 * i + (P - (k + 1)))) b else b)
def swF (P : Nat) (v : Nat → Nat) : Nat → (Nat → Nat) → Nat → (Nat × Nat) → (Nat × Nat)
  | 0, w, tot, b => if b.1 ≤ tot then (tot + 1, dgW w P) else b
  | j + 1, w, tot, b => if w (P - (j + 1)) = 0 then lpF (swF P v j) P v (P - (j + 1)) w tot j b else swF P v j w tot b
section WH
variable {P : Nat} {v : Nat → Nat}
theorem dgW_lt {w : Nat → Nat} : ∀ i, (∀ x, x < i → w x ≤ 6) → dgW w i < 10 ^ i := by
  intro i
  induction i with
  | zero => intro _; show 0 < 1; omega
  | succ i ih =>
    intro h
    have := ih (fun x hx => h x (by omega))
    have := h i (by omega)
    show 10 * dgW w i + (w i - 1) < 10 ^ (i + 1)
    rw [Nat.pow_succ]
    omega
theorem lp_ge {rec : (Nat → Nat) → Nat → (Nat × Nat) → (Nat × Nat)} {i : Nat} {w : Nat → Nat} {tot : Nat} (hr : ∀ w t b, b.1 ≤ (rec w t b).1) : ∀ k b, b.1 ≤ (lpF rec P v i w tot k b).1 := by
  intro k
  induction k with
  | zero => intro b; exact Nat.le_refl _
  | succ k ih =>
    intro b
    unfold lpF
    refine Nat.le_trans ?_ (ih _)
    by_cases c : w (P - (k + 1)) = 0
    · rw [if_pos c]; exact hr _ _ _
    · rw [if_neg c]; exact Nat.le_refl _
theorem sw_ge : ∀ j w tot b, b.1 ≤ (swF P v j w tot b).1 := by
  intro j
  induction j with
  | zero =>
    intro w tot b
    unfold swF
    by_cases c : b.1 ≤ tot
    · rw [if_pos c]; show b.1 ≤ tot + 1; omega
    · rw [if_neg c]; exact Nat.le_refl _
  | succ j ih =>
    intro w tot b
    unfold swF
    by_cases c : w (P - (j + 1)) = 0
    · rw [if_pos c]; exact lp_ge ih j b
    · rw [if_neg c]; exact ih w tot b
theorem sw_pos : ∀ a w tot b, 2 * a ≤ P → (∀ x, P - 2 * a ≤ x → x < P → w x = 0) → 1 ≤ (swF P v (2 * a) w tot b).1 := by
  intro a
  induction a with
  | zero =>
    intro w tot b _ _
    show 1 ≤ (if b.1 ≤ tot then (tot + 1, dgW w P) else b).1
    by_cases c : b.1 ≤ tot
    · rw [if_pos c]; show 1 ≤ tot + 1; omega
    · rw [if_neg c]; omega
  | succ a ih =>
    intro w tot b ha hw
    rw [show 2 * (a + 1) = (2 * a + 1) + 1 by omega]
    unfold swF
    rw [if_pos (hw _ (by omega) (by omega))]
    unfold lpF
    refine Nat.le_trans ?_ (lp_ge (fun w t b => sw_ge _ w t b) _ _)
    rw [if_pos (hw _ (by omega) (by omega))]
    unfold swF
    have e : upW w (P - (2 * a + 1 + 1)) (P - (2 * a + 1)) (P - (2 * a + 1)) ≠ 0 := by
      unfold upW
      rw [if_neg (by omega), if_pos rfl]
      omega
    rw [if_neg e]
    refine ih _ _ _ (by omega) (fun x h1 h2 => ?_)
    unfold upW
    rw [if_neg (by omega), if_neg (by omega)]
    exact hw x (by omega) h2
theorem sw_skip {w : Nat → Nat} {tot j : Nat} {b : Nat × Nat} : ∀ d, j + d ≤ P → (∀ x, P - (j + d) ≤ x → x < P - j → w x ≠ 0) → swF P v (j + d) w tot b = swF P v j w tot b := by
  intro d
  induction d with
  | zero => intro _ _; rfl
  | succ d ih =>
    intro h1 h2
    rw [show j + (d + 1) = (j + d) + 1 by omega]
    show (if w (P - (j + d + 1)) = 0 then _ else swF P v (j + d) w tot b) = _
    rw [if_neg (h2 _ (by omega) (by omega))]
    exact ih (by omega) (fun x z1 z2 => h2 x (by omega) z2)
theorem lp_le {rec : (Nat → Nat) → Nat → (Nat × Nat) → (Nat × Nat)} {i : Nat} {w : Nat → Nat} {tot M : Nat} (hr : ∀ w t b, b.1 ≤ M → t ≤ tot + 60000000000 → (rec w t b).1 ≤ M) (hv : ∀ y, v y ≤ 60000000000) : ∀ k b, b.1 ≤ M → (lpF rec P v i w tot k b).1 ≤ M := by
  intro k
  induction k with
  | zero => intro b hb; exact hb
  | succ k ih =>
    intro b hb
    unfold lpF
    refine ih _ ?_
    by_cases c : w (P - (k + 1)) = 0
    · rw [if_pos c]; exact hr _ _ _ hb (by have := hv (6 * i + (P - (k + 1))); omega)
    · rw [if_neg c]; exact hb
theorem sw_le (hv : ∀ y, v y ≤ 60000000000) {M : Nat} : ∀ j w tot b, b.1 ≤ M → tot + 60000000000 * j < M → (swF P v j w tot b).1 ≤ M := by
  intro j
  induction j with
  | zero =>
    intro w tot b hb ht
    unfold swF
    by_cases c : b.1 ≤ tot
    · rw [if_pos c]; show tot + 1 ≤ M; omega
    · rw [if_neg c]; exact hb
  | succ j ih =>
    intro w tot b hb ht
    unfold swF
    by_cases c : w (P - (j + 1)) = 0
    · rw [if_pos c]; exact lp_le (fun w t b hb ht' => ih w t b hb (by omega)) hv j b hb
    · rw [if_neg c]; exact ih w tot b hb (by omega)
end WH
theorem jI_add' (a b : Nat) : jI (a : Nat) + jI (b : Nat) = jI ((a + b : Nat) : Int) := by rw [jI_add]; rfl
section WM
variable {P : Nat} {v : Nat → Nat}
def MW (P : Nat) (v : Nat → Nat) (g : eg_H) (w : Nat → Nat) (b : Nat × Nat) : Prop := eg_stt g ∧ eg_I g 54 24 = nI P ∧ (∀ y, y < 50 → vld P y → eg_L g 70 y = jI (v y : Nat)) ∧ (∀ x, x < P → eg_I g 71 x = if w x = 0 then -1 else nI (w x - 1)) ∧ eg_L g 54 45 = jI ((b.1 : Int) - 1) ∧ (¬ b.1 = 0 → eg_L g 54 44 = jI (b.2 : Nat)) ∧ b.1 ≤ 1000000000000
def Swm : List (Nat × Option Nat) := [(71, none), (54, some 45), (54, some 44)]
theorem M_wdig {w : Nat → Nat} (hP : P ≤ 6) (hw : ∀ x, x < P → ¬ w x = 0 ∧ w x ≤ 6) (rc : eg_H → Nat → Int32 → Int64 → Option eg_H) : ∀ k F g, k ≤ P → k < F → eg_stt g → eg_I g 54 24 = nI P → (∀ x, x < P → eg_I g 71 x = nI (w x - 1)) → eg_L g 54 44 = jI (dgW w (P - k) : Nat) → ∃ g', fX13_goWhom_L31 rc F g 54 (nI (P - k)) = some g' ∧ eg_eq [(54, some 44)] g g' ∧ eg_I g' = eg_I g ∧ eg_L g' 54 44 = jI (dgW w P : Nat) := by
  intro k
  induction k with
  | zero =>
    intro F g hk hF hs h24 h71 h44
    obtain ⟨F, rfl⟩ : ∃ F', F = F' + 1 := ⟨F - 1, by omega⟩
    exact ⟨g, by rw [fX13_goWhom_L31, gI_54 hs, Option.bind_some, h24, if_pos (nI_le (show P ≤ P - 0 by omega) (by omega))], eq_rfl, rfl, h44⟩
  | succ k ih =>
    intro F g hk hF hs h24 h71 h44
    obtain ⟨F, rfl⟩ : ∃ F', F = F' + 1 := ⟨F - 1, by omega⟩
    have hcl : (nI (P - (k + 1))).toNatClampNeg = P - (k + 1) := nI_clamp (by omega)
    have hx := hw (P - (k + 1)) (by omega)
    have ed : jI 10 * jI (dgW w (P - (k + 1)) : Nat) + (nI (w (P - (k + 1)) - 1)).toInt64 = jI (dgW w (P - k) : Nat) := by
      rw [nW (by omega), jI_mul, jI_add, show P - k = (P - (k + 1)) + 1 by omega]
      congr 1
    let g1 := eg_sL g 54 44 (jI (dgW w (P - k) : Nat))
    obtain ⟨g2, e2, E2, I2, L2⟩ := ih F g1 (by omega) (by omega) hs h24 h71 (by show eg_L (eg_sL g 54 44 _) 54 44 = _; rw [L_sL, if_pos ⟨rfl, rfl⟩])
    refine ⟨g2, ?_, eq_tr (eq_sL eq_rfl rfl) E2, I2, L2⟩
    rw [fX13_goWhom_L31, gI_54 hs, Option.bind_some, h24, if_neg (nI_ge (by omega) (by omega)), gL_54 hs, Option.bind_some, h44, gR_54 hs, rf_54_43 hs, Option.bind_some, aI_71 hs (nI_pos (by omega)) (by rw [hcl]; omega), hcl, Option.bind_some, h71 _ (by omega), show (10 : Int64) = jI 10 from rfl, ed, pL_54 hs, Option.bind_some, nI_1, show P - (k + 1) + 1 = P - k by omega]
    exact e2
theorem M_who (hP : P ≤ 6) (hv : ∀ y, v y ≤ 60000000000) : ∀ j, j ≤ P → ∀ n g w tot b, j < n → MW P v g w b → (∀ x, x < P → w x ≤ 6) → (∀ x, x < P - j → ¬ w x = 0) → tot + 60000000000 * j < 1000000000000 → ∃ g', fX13_goWhom n g 54 (nI (P - j)) (jI (tot : Nat)) = some g' ∧ MW P v g' w (swF P v j w tot b) ∧ eg_eq Swm g g' := by
  intro j
  induction j with
  | zero =>
    intro _ n g w tot b hn M hw ht hb
    obtain ⟨n, rfl⟩ : ∃ n', n = n' + 1 := ⟨n - 1, by omega⟩
    have M0 := M
    obtain ⟨hs, h24, h70, h71, h45, h44, hb1⟩ := M
    have hw' : ∀ x, x < P → ¬ w x = 0 ∧ w x ≤ 6 := fun x hx => ⟨ht x (by omega), hw x hx⟩
    show ∃ g', fX13_goWhomB (fX13_goWhom n) g 54 (nI P) (jI (tot : Nat)) = some g' ∧ _
    unfold fX13_goWhomB swF
    rw [if_pos (iO_54 hs), gI_54 hs, Option.bind_some, h24, if_pos rfl, gL_54 hs, Option.bind_some, h45]
    by_cases c : b.1 ≤ tot
    · rw [if_pos ((jI_lt (by unfold i6; omega) (by unfold i6; omega)).mpr (by omega)), pL_54 hs, Option.bind_some]
      let g1 := eg_sL g 54 45 (jI (tot : Nat))
      let g2 := eg_sL g1 54 44 0
      have s1 : eg_stt g1 := hs
      have s2 : eg_stt g2 := hs
      obtain ⟨g3, e3, E3, I3, L3⟩ := M_wdig hP hw' (fX13_goWhom n) P eg_F g2 (Nat.le_refl _) (by rw [eg_F_eq]; omega) s2 h24 (fun x hx => by show eg_I g 71 x = _; rw [h71 x hx, if_neg (hw' x hx).1]) (by show eg_L (eg_sL g1 54 44 0) 54 44 = _; rw [L_sL, if_pos ⟨rfl, rfl⟩, Nat.sub_self]; rfl)
      rw [Nat.sub_self] at e3
      have e3' : fX13_goWhom_L31 (fX13_goWhom n) eg_F g2 54 0 = some g3 := e3
      have E3' : eg_eq Swm g g3 := eq_tr (eq_sL (eq_sL eq_rfl rfl) rfl) (cov_sub (by decide) E3)
      refine ⟨g3, ?_, ?_, E3'⟩
      · rw [pL_54 s1, Option.bind_some]
        show ((fX13_goWhom_L31 (fX13_goWhom n) eg_F g2 54 0).bind _) = _
        rw [e3', Option.bind_some]
      · rw [if_pos c]
        refine ⟨eq_stt E3' hs (by decide), by rw [I3]; exact h24, fun y hy vy => by rw [(E3'.2 70 y rfl).2.1]; exact h70 y hy vy, fun x hx => by rw [I3]; exact h71 x hx, ?_, fun _ => L3, by show tot + 1 ≤ _; omega⟩
        rw [(E3.2 54 45 rfl).2.1]
        show eg_L (eg_sL (eg_sL g 54 45 (jI (tot : Nat))) 54 44 0) 54 45 = _
        rw [L_sL, if_neg (by omega), L_sL, if_pos ⟨rfl, rfl⟩]
        congr 1
        show (tot : Int) = ((tot + 1 : Nat) : Int) - 1
        omega
    · rw [if_neg (fun z => c (by have := (jI_lt (by unfold i6; omega) (by unfold i6; omega)).mp z; omega)), if_neg c]
      exact ⟨g, rfl, M0, eq_rfl⟩
  | succ j ih =>
    intro hj n g w tot b hn M hw ht hb
    obtain ⟨n, rfl⟩ : ∃ n', n = n' + 1 := ⟨n - 1, by omega⟩
    have IH := ih (by omega) n
    show ∃ g', fX13_goWhomB (fX13_goWhom n) g 54 (nI (P - (j + 1))) (jI (tot : Nat)) = some g' ∧ _
    generalize hi : P - (j + 1) = i at *
    have hcl : (nI i).toNatClampNeg = i := nI_clamp (by omega)
    unfold swF
    rw [hi]
    have loop : w i = 0 → ∀ k, k ≤ j → ∀ F g b, k < F → MW P v g w b → ∃ g', fX13_goWhom_L92 (fX13_goWhom n) F g 54 (nI i) (jI (tot : Nat)) (nI (P - k)) = some g' ∧ MW P v g' w (lpF (swF P v j) P v i w tot k b) ∧ eg_eq Swm g g' := by
      intro wi k
      induction k with
      | zero =>
        intro _ F g b hF M
        obtain ⟨F, rfl⟩ : ∃ F', F = F' + 1 := ⟨F - 1, by omega⟩
        obtain ⟨hs, h24, _⟩ := id M
        exact ⟨g, by rw [fX13_goWhom_L92, gI_54 hs, Option.bind_some, h24, if_pos (nI_le (show P ≤ P - 0 by omega) (by omega))], M, eq_rfl⟩
      | succ k ihk =>
        intro hk F g b hF M
        obtain ⟨F, rfl⟩ : ∃ F', F = F' + 1 := ⟨F - 1, by omega⟩
        obtain ⟨hs, h24, h70, h71, h45, h44, hb1⟩ := id M
        unfold lpF
        generalize hr : P - (k + 1) = r at *
        have hcr : (nI r).toNatClampNeg = r := nI_clamp (by omega)
        have ar : eg_aI g 100 71 (nI r) = some (if w r = 0 then -1 else nI (w r - 1)) := by rw [aI_71 hs (nI_pos (by omega)) (by rw [hcr]; omega), hcr, h71 r (by omega)]
        rw [fX13_goWhom_L92, gI_54 hs, Option.bind_some, h24, if_neg (nI_ge (by omega) (by omega)), gR_54 hs, rf_54_43 hs, Option.bind_some, ar, Option.bind_some]
        by_cases c : w r = 0
        · rw [if_pos c, if_pos rfl, if_pos c]
          let g1 := eg_sI g 71 i (nI r)
          let g2 := eg_sI g1 71 r (nI i)
          have s1 : eg_stt g1 := hs
          have s2 : eg_stt g2 := hs
          have vy : vld P (6 * i + r) := ⟨by omega, by omega⟩
          have c6 : (nI (6 * i + r)).toNatClampNeg = 6 * i + r := nI_clamp (by omega)
          have al : eg_aL g2 70 (nI (6 * i + r)) = some (jI (v (6 * i + r) : Nat)) := by rw [aL_70 s2 (nI_pos (by omega)) (by rw [c6]; omega), c6]; exact congrArg some (h70 _ (by omega) vy)
          have hvy := hv (6 * i + r)
          have M2 : MW P v g2 (upW w i r) b := by
            refine ⟨hs, h24, h70, fun x hx => ?_, h45, h44, hb1⟩
            show eg_I (eg_sI (eg_sI g 71 i (nI r)) 71 r (nI i)) 71 x = _
            unfold upW
            rw [I_sI, I_sI]
            by_cases x1 : x = i
            · rw [if_neg (by omega), if_pos ⟨rfl, x1⟩, if_pos x1, if_neg (by omega)]; rfl
            · by_cases x2 : x = r
              · rw [if_pos ⟨rfl, x2⟩, if_neg x1, if_pos x2, if_neg (by omega)]; rfl
              · rw [if_neg (fun z => x2 z.2), if_neg (fun z => x1 z.2), if_neg x1, if_neg x2]; exact h71 x hx
          obtain ⟨g3, e3, M3, E3⟩ := IH g2 (upW w i r) (tot + v (6 * i + r)) b (by omega) M2 (fun x hx => by unfold upW; split <;> (try split) <;> (try omega); exact hw x hx) (fun x hx => by unfold upW; split <;> (try split) <;> (try omega); exact ht x (by omega)) (by omega)
          obtain ⟨s3, q24, q70, q71, q45, q44, qb1⟩ := M3
          let g4 := eg_sI g3 71 i (-1)
          let g5 := eg_sI g4 71 r (-1)
          have s4 : eg_stt g4 := s3
          have M5 : MW P v g5 w (swF P v j (upW w i r) (tot + v (6 * i + r)) b) := by
            refine ⟨s3, q24, q70, fun x hx => ?_, q45, q44, qb1⟩
            show eg_I (eg_sI (eg_sI g3 71 i (-1)) 71 r (-1)) 71 x = _
            rw [I_sI, I_sI]
            by_cases x2 : x = r
            · rw [if_pos ⟨rfl, x2⟩, x2, if_pos c]
            · by_cases x1 : x = i
              · rw [if_neg (fun z => x2 z.2), if_pos ⟨rfl, x1⟩, x1, if_pos wi]
              · rw [if_neg (fun z => x2 z.2), if_neg (fun z => x1 z.2), q71 x hx]
                unfold upW
                rw [if_neg x1, if_neg x2]
          obtain ⟨g6, e6, M6, E6⟩ := ihk (by omega) F g5 _ (by omega) M5
          refine ⟨g6, ?_, M6, eq_tr (eq_tr (eq_sI (eq_sI eq_rfl rfl) rfl) (eq_sI (eq_sI E3 rfl) rfl)) E6⟩
          rw [show P - j = i + 1 by omega, ← jI_add'] at e3
          rw [show P - k = r + 1 by omega] at e6
          rw [Option.bind_some, wI_71 hs (nI_pos (by omega)) (by rw [hcl]; omega), hcl, Option.bind_some]
          show ((eg_gR g1 13 43 54).bind _) = _
          rw [gR_54 s1, rf_54_43 s1, Option.bind_some, wI_71 s1 (nI_pos (by omega)) (by rw [hcr]; omega), hcr, Option.bind_some]
          show ((eg_gR g2 13 42 54).bind _) = _
          rw [gR_54 s2, rf_54_42 s2, Option.bind_some, show (6 : Int32) = nI 6 from rfl, nI_kk, nI_add, al, Option.bind_some, if_pos (iO_54 s2), nI_1, e3, Option.bind_some, gR_54 s3, rf_54_43 s3, Option.bind_some, wI_71 s3 (nI_pos (by omega)) (by rw [hcl]; omega), hcl, Option.bind_some]
          show ((eg_gR g4 13 43 54).bind _) = _
          rw [gR_54 s4, rf_54_43 s4, Option.bind_some, wI_71 s4 (nI_pos (by omega)) (by rw [hcr]; omega), hcr, Option.bind_some, nI_1]
          exact e6
        · rw [if_neg c, if_neg (nI_nm1 (by have := hw r (by omega); omega)), if_neg c, nI_1, show r + 1 = P - k by omega]
          exact ihk (by omega) F g b (by omega) M
    obtain ⟨hs, h24, h70, h71, h45, h44, hb1⟩ := id M
    have ai : eg_aI g 100 71 (nI i) = some (if w i = 0 then -1 else nI (w i - 1)) := by rw [aI_71 hs (nI_pos (by omega)) (by rw [hcl]; omega), hcl, h71 i (by omega)]
    unfold fX13_goWhomB
    rw [if_pos (iO_54 hs), gI_54 hs, Option.bind_some, h24, if_neg (fun z => by have q := congrArg dN z; rw [dN_n (by omega), dN_n (by omega)] at q; omega), gR_54 hs, rf_54_43 hs, Option.bind_some, ai, Option.bind_some]
    by_cases c : w i = 0
    · obtain ⟨g1, e1, M1, E1⟩ := loop c j (Nat.le_refl _) eg_F g b (by rw [eg_F_eq]; omega) M
      rw [show P - j = i + 1 by omega] at e1
      rw [if_pos c, if_pos rfl, nI_1, Option.bind_some, e1, Option.bind_some, if_pos c]
      exact ⟨g1, rfl, M1, E1⟩
    · obtain ⟨g1, e1, M1, E1⟩ := IH g w tot b (by omega) M hw (fun x hx => by
        by_cases z : x = i
        · rw [z]; exact c
        · exact ht x (by omega)) (by omega)
      rw [show P - j = i + 1 by omega] at e1
      rw [if_neg c, if_neg (nI_nm1 (by have := hw i (by omega); omega)), if_pos (iO_54 hs), nI_1, e1, Option.bind_some, if_neg c]
      exact ⟨g1, rfl, M1, E1⟩
end WM
