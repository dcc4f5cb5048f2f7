theorem shl1 : ∀ x, x < 6 → ((1 : Int32) <<< (nI x &&& 31)) = nI (2 ^ x) := by decide +kernel
section WX
variable {P : Nat} {v : Nat → Nat}
def XW (P : Nat) (v : Nat → Nat) (g : eg_H) (w : Nat → Nat) (b : Nat × Nat) : Prop := eg_stt g ∧ eg_I g 47 7 = nI P ∧ (∀ y, y < 50 → vld P y → eg_L g 48 y = jI (v y : Nat)) ∧ (∀ x, x < P → ¬ w x = 0 → eg_I g 49 x = nI (w x - 1)) ∧ eg_L g 47 11 = jI ((b.1 : Int) - 1) ∧ eg_I g 47 9 = nI b.2 ∧ b.1 ≤ 1000000000000 ∧ b.2 < 1000000
def Sxw : List (Nat × Option Nat) := [(49, none), (47, some 11), (47, some 9)]
theorem X_wdig {w : Nat → Nat} {g : eg_H} (hP : P ≤ 6) (hs : eg_stt g) (h7 : eg_I g 47 7 = nI P) (h49 : ∀ x, x < P → eg_I g 49 x = nI (w x - 1)) : fX9_partnerDigits g 47 = some (nI (dgW w P), g) := by
  have key : ∀ k F, k ≤ P → k < F → fX9_partnerDigits_L4 F g 47 (nI (dgW w (P - k))) (nI (P - k)) = some (nI (dgW w P), g) := by
    intro k
    induction k with
    | zero =>
      intro F hk hF
      obtain ⟨F, rfl⟩ : ∃ F', F = F' + 1 := ⟨F - 1, by omega⟩
      rw [fX9_partnerDigits_L4, gI_47 hs, Option.bind_some, h7, if_pos (nI_le (show P ≤ P - 0 by omega) (by omega))]
      rfl
    | succ k ih =>
      intro F hk hF
      obtain ⟨F, rfl⟩ : ∃ F', F = F' + 1 := ⟨F - 1, by omega⟩
      have hcl : (nI (P - (k + 1))).toNatClampNeg = P - (k + 1) := nI_clamp (by omega)
      have ed : (10 : Int32) * nI (dgW w (P - (k + 1))) + nI (w (P - (k + 1)) - 1) = nI (dgW w (P - k)) := by
        rw [show (10 : Int32) = nI 10 from rfl, nI_kk, nI_add, show P - k = (P - (k + 1)) + 1 by omega]
        rfl
      have nx := ih F (by omega) (by omega)
      rw [fX9_partnerDigits_L4, gI_47 hs, Option.bind_some, h7, if_neg (nI_ge (by omega) (by omega)), gR_47 hs, rf_47_1 hs, Option.bind_some, aI_49 hs (nI_pos (by omega)) (by rw [hcl]; omega), hcl, Option.bind_some, h49 _ (by omega), ed, Option.bind_some, nI_1, show P - (k + 1) + 1 = P - k by omega]
      exact nx
  have k0 := key P eg_F (Nat.le_refl _) (by rw [eg_F_eq]; omega)
  rw [Nat.sub_self] at k0
  have k0' : fX9_partnerDigits_L4 eg_F g 47 0 0 = some (nI (dgW w P), g) := k0
  unfold fX9_partnerDigits
  rw [if_pos (iO_47 hs), k0', Option.bind_some]
theorem X_wL3 {w : Nat → Nat} {g : eg_H} {m : Nat} {t : Int64} (hP : P ≤ 6) (hs : eg_stt g) (h7 : eg_I g 47 7 = nI P) (hm : m < 64) (hb : ∀ x, x < P → (m.testBit x = true ↔ ¬ w x = 0)) (rc : eg_H → Nat → Int32 → Int64 → Option eg_H) : ∀ k F i, i + k = P → k < F → ∃ f, i ≤ f ∧ f ≤ P ∧ (∀ x, i ≤ x → x < f → ¬ w x = 0) ∧ (f < P → w f = 0) ∧ fX9_pairUp_L3 rc F g 47 (nI m) t (nI i) = some (47, nI m, t, nI f, g) := by
  intro k
  induction k with
  | zero =>
    intro F i hi hF
    obtain ⟨F, rfl⟩ : ∃ F', F = F' + 1 := ⟨F - 1, by omega⟩
    obtain rfl : i = P := by omega
    exact ⟨i, Nat.le_refl _, Nat.le_refl _, fun x h1 h2 => by omega, fun z => by omega, by rw [fX9_pairUp_L3, gI_47 hs, Option.bind_some, h7, if_pos (nI_le (Nat.le_refl _) (by omega))]⟩
  | succ k ih =>
    intro F i hi hF
    obtain ⟨F, rfl⟩ : ∃ F', F = F' + 1 := ⟨F - 1, by omega⟩
    rw [fX9_pairUp_L3, gI_47 hs, Option.bind_some, h7, if_neg (nI_ge (by omega) (by omega))]
    by_cases c : w i = 0
    · have nb : ¬ m.testBit i = true := fun z => (hb i (by omega)).mp z c
      rw [if_neg (fun z => nb ((bt_1 (by omega) (by omega)).mp z))]
      exact ⟨i, Nat.le_refl _, by omega, fun x h1 h2 => by omega, fun _ => c, rfl⟩
    · obtain ⟨f, f1, f2, f3, f4, f5⟩ := ih F (i + 1) (by omega) (by omega)
      rw [if_pos ((bt_1 (by omega) (by omega)).mpr ((hb i (by omega)).mpr c)), nI_1]
      refine ⟨f, by omega, f2, fun x h1 h2 => ?_, f4, f5⟩
      by_cases z : x = i
      · rw [z]; exact c
      · exact f3 x (by omega) h2
theorem X_who (hP : P ≤ 6) (hv : ∀ y, v y ≤ 60000000000) : ∀ j, j ≤ P → ∀ n g w tot b m, j < n → XW P v g w b → (∀ x, x < P → w x ≤ 6) → (∀ x, x < P - j → ¬ w x = 0) → m < 64 → (∀ x, x < P → (m.testBit x = true ↔ ¬ w x = 0)) → tot + 60000000000 * j < 1000000000000 → ∃ g', fX9_pairUp n g 47 (nI m) (jI (tot : Nat)) = some g' ∧ XW P v g' w (swF P v j w tot b) ∧ eg_eq Sxw g g' := by
  intro j
  induction j using Nat.strongRecOn with
  | ind j ih =>
    intro hj n g w tot b m hn M hw ht hm hmb hb
    obtain ⟨n, rfl⟩ : ∃ n', n = n' + 1 := ⟨n - 1, by omega⟩
    obtain ⟨hs, h7, h48, h49, h11, h9, hb1, hb2⟩ := id M
    obtain ⟨f, _, f2, f3, f4, f5⟩ := X_wL3 (t := jI (tot : Nat)) hP hs h7 hm hmb (fX9_pairUp n) P eg_F 0 (by omega) (by rw [eg_F_eq]; omega)
    have f5' : fX9_pairUp_L3 (fX9_pairUp n) eg_F g 47 (nI m) (jI (tot : Nat)) 0 = some (47, nI m, jI (tot : Nat), nI f, g) := f5
    have fj : P - j ≤ f := by
      rcases Nat.lt_or_ge f (P - j) with z | z
      · exact absurd (f4 (by omega)) (ht f z)
      · exact z
    have sk : swF P v j w tot b = swF P v (P - f) w tot b := by
      have := sw_skip (P := P) (v := v) (w := w) (tot := tot) (b := b) (j := P - f) (j - (P - f)) (by omega) (fun x h1 h2 => f3 x (by omega) (by omega))
      rw [show P - f + (j - (P - f)) = j by omega] at this
      exact this
    rw [sk]
    show ∃ g', fX9_pairUpB (fX9_pairUp n) g 47 (nI m) (jI (tot : Nat)) = some g' ∧ _
    unfold fX9_pairUpB
    rw [if_pos (iO_47 hs), f5', Option.bind_some]
    dsimp only
    unfold fX9_pairUp_j28
    rw [gI_47 hs, Option.bind_some, h7]
    by_cases cf : f < P
    rotate_left
    · obtain rfl : f = P := by omega
      rw [if_neg (nI_nlt (Nat.le_refl _) (by omega)), gL_47 hs, Option.bind_some, h11, Nat.sub_self]
      unfold swF
      by_cases c : b.1 ≤ tot
      · rw [if_neg (fun z => by have := (jI_le (by unfold i6; omega) (by unfold i6; omega)).mp z; omega), if_pos c, pL_47 hs, Option.bind_some]
        let g1 := eg_sL g 47 11 (jI (tot : Nat))
        have s1 : eg_stt g1 := hs
        have hd := dgW_lt (w := w) f (fun x hx => hw x hx)
        have hd6 : dgW w f < 1000000 := by
          have : 10 ^ f ≤ 10 ^ 6 := Nat.pow_le_pow_right (by omega) hP
          omega
        have ed : fX9_partnerDigits g1 47 = some (nI (dgW w f), g1) := X_wdig hP s1 h7 (fun x hx => h49 x hx (f3 x (by omega) hx))
        refine ⟨eg_sI g1 47 9 (nI (dgW w f)), ?_, ⟨hs, ?_, h48, h49, ?_, ?_, by show tot + 1 ≤ _; omega, hd6⟩, eq_sI (eq_sL eq_rfl rfl) rfl⟩
        · show ((fX9_partnerDigits g1 47).bind _) = _
          rw [ed, Option.bind_some]
          dsimp only
          rw [pI_47 s1, Option.bind_some]
        · rw [I_sI, if_neg (by omega)]; exact h7
        · show eg_L (eg_sL g 47 11 (jI (tot : Nat))) 47 11 = _
          rw [L_sL, if_pos ⟨rfl, rfl⟩]
          congr 1
          show (tot : Int) = ((tot + 1 : Nat) : Int) - 1
          omega
        · rw [I_sI, if_pos ⟨rfl, rfl⟩]
      · rw [if_pos ((jI_le (by unfold i6; omega) (by unfold i6; omega)).mpr (by omega)), if_neg c]
        exact ⟨g, rfl, M, eq_rfl⟩
    obtain ⟨j', hj'⟩ : ∃ j', P - f = j' + 1 := ⟨P - f - 1, by omega⟩
    have IH := ih j' (by omega) (by omega) n
    have wf := f4 cf
    have hcf : (nI f).toNatClampNeg = f := nI_clamp (by omega)
    have loop : ∀ k, k ≤ j' → ∀ F g b, k < F → XW P v g w b → ∃ g', fX9_pairUp_L66 (fX9_pairUp n) F g 47 (nI m) (jI (tot : Nat)) (nI f) (nI (P - k)) = some g' ∧ XW P v g' w (lpF (swF P v j') P v f w tot k b) ∧ eg_eq Sxw g g' := by
      intro k
      induction k with
      | zero =>
        intro _ F g b hF M
        obtain ⟨F, rfl⟩ : ∃ F', F = F' + 1 := ⟨F - 1, by omega⟩
        obtain ⟨hs, h7, _⟩ := id M
        exact ⟨g, by rw [fX9_pairUp_L66, gI_47 hs, Option.bind_some, h7, if_pos (nI_le (show P ≤ P - 0 by omega) (by omega))], M, eq_rfl⟩
      | succ k ihk =>
        intro hk F g b hF M
        obtain ⟨F, rfl⟩ : ∃ F', F = F' + 1 := ⟨F - 1, by omega⟩
        obtain ⟨hs, h7, h48, h49, h11, h9, hb1, hb2⟩ := id M
        unfold lpF
        generalize hr : P - (k + 1) = r at *
        have hcr : (nI r).toNatClampNeg = r := nI_clamp (by omega)
        rw [fX9_pairUp_L66, gI_47 hs, Option.bind_some, h7, if_neg (nI_ge (by omega) (by omega))]
        by_cases c : w r = 0
        · have nb : ¬ m.testBit r = true := fun z => (hmb r (by omega)).mp z c
          rw [if_pos ((bt_0 (by omega) (by omega)).mpr nb), if_pos c]
          let g1 := eg_sI g 49 f (nI r)
          let g2 := eg_sI g1 49 r (nI f)
          have s1 : eg_stt g1 := hs
          have s2 : eg_stt g2 := hs
          have vy : vld P (6 * f + r) := ⟨by omega, by omega⟩
          have c6 : (nI (6 * f + r)).toNatClampNeg = 6 * f + r := nI_clamp (by omega)
          have e6 : nI f * (6 : Int32) + nI r = nI (6 * f + r) := by rw [show (6 : Int32) = nI 6 from rfl, nI_kk, nI_add, Nat.mul_comm]
          have al : eg_aL g2 48 (nI (6 * f + r)) = some (jI (v (6 * f + r) : Nat)) := by rw [aL_48 s2 (nI_pos (by omega)) (by rw [c6]; omega), c6]; exact congrArg some (h48 _ (by omega) vy)
          have hvy := hv (6 * f + r)
          have M2 : XW P v g2 (upW w f r) b := by
            refine ⟨hs, ?_, h48, fun x hx hne => ?_, h11, ?_, hb1, hb2⟩
            · show eg_I (eg_sI (eg_sI g 49 f (nI r)) 49 r (nI f)) 47 7 = _
              rw [I_sI, if_neg (by omega), I_sI, if_neg (by omega)]; exact h7
            · show eg_I (eg_sI (eg_sI g 49 f (nI r)) 49 r (nI f)) 49 x = _
              unfold upW at hne ⊢
              rw [I_sI, I_sI]
              by_cases x1 : x = f
              · rw [if_neg (by omega), if_pos ⟨rfl, x1⟩, if_pos x1]; rfl
              · by_cases x2 : x = r
                · rw [if_pos ⟨rfl, x2⟩, if_neg x1, if_pos x2]; rfl
                · rw [if_neg x1, if_neg x2] at hne
                  rw [if_neg (fun z => x2 z.2), if_neg (fun z => x1 z.2), if_neg x1, if_neg x2]; exact h49 x hx hne
            · show eg_I (eg_sI (eg_sI g 49 f (nI r)) 49 r (nI f)) 47 9 = _
              rw [I_sI, if_neg (by omega), I_sI, if_neg (by omega)]; exact h9
          have m2 : m ||| 2 ^ f ||| 2 ^ r < 64 := by
            have a1 : 2 ^ f < 2 ^ 6 := Nat.pow_lt_pow_right (by omega) (by omega)
            have a2 : 2 ^ r < 2 ^ 6 := Nat.pow_lt_pow_right (by omega) (by omega)
            exact Nat.or_lt_two_pow (n := 6) (Nat.or_lt_two_pow (n := 6) hm a1) a2
          have mb2 : ∀ x, x < P → ((m ||| 2 ^ f ||| 2 ^ r).testBit x = true ↔ ¬ upW w f r x = 0) := fun x hx => by
            rw [Nat.testBit_or, Nat.testBit_or, Nat.testBit_two_pow, Nat.testBit_two_pow, Bool.or_eq_true, Bool.or_eq_true, decide_eq_true_eq, decide_eq_true_eq, hmb x hx]
            unfold upW
            by_cases x1 : x = f
            · rw [if_pos x1]; exact ⟨fun _ => by omega, fun _ => Or.inl (Or.inr x1.symm)⟩
            · by_cases x2 : x = r
              · rw [if_neg x1, if_pos x2]; exact ⟨fun _ => by omega, fun _ => Or.inr x2.symm⟩
              · rw [if_neg x1, if_neg x2]
                exact ⟨fun z => by rcases z with (z | z) | z; exact z; exact absurd z.symm x1; exact absurd z.symm x2, fun z => Or.inl (Or.inl z)⟩
          obtain ⟨g3, e3, M3, E3⟩ := IH g2 (upW w f r) (tot + v (6 * f + r)) b (m ||| 2 ^ f ||| 2 ^ r) (by omega) M2 (fun x hx => by unfold upW; split <;> (try split) <;> (try omega); exact hw x hx) (fun x hx => by unfold upW; split <;> (try split) <;> (try omega); exact f3 x (by omega) (by omega)) m2 mb2 (by omega)
          obtain ⟨s3, q7, q48, q49, q11, q9, qb1, qb2⟩ := M3
          have M5 : XW P v g3 w (swF P v j' (upW w f r) (tot + v (6 * f + r)) b) := by
            refine ⟨s3, q7, q48, fun x hx hne => ?_, q11, q9, qb1, qb2⟩
            have x1 : ¬ x = f := fun z => hne (by rw [z]; exact wf)
            have x2 : ¬ x = r := fun z => hne (by rw [z]; exact c)
            have := q49 x hx (by unfold upW; rw [if_neg x1, if_neg x2]; exact hne)
            unfold upW at this
            rw [if_neg x1, if_neg x2] at this
            exact this
          obtain ⟨g6, e6', M6, E6⟩ := ihk (by omega) F g3 _ (by omega) M5
          refine ⟨g6, ?_, M6, eq_tr (eq_tr (eq_sI (eq_sI eq_rfl rfl) rfl) E3) E6⟩
          rw [← jI_add'] at e3
          rw [show P - k = r + 1 by omega] at e6'
          rw [gR_47 hs, rf_47_1 hs, Option.bind_some, wI_49 hs (nI_pos (by omega)) (by rw [hcf]; omega), hcf, Option.bind_some]
          show ((eg_gR g1 9 1 47).bind _) = _
          rw [gR_47 s1, rf_47_1 s1, Option.bind_some, wI_49 s1 (nI_pos (by omega)) (by rw [hcr]; omega), hcr, Option.bind_some]
          show ((eg_gR g2 9 0 47).bind _) = _
          rw [gR_47 s2, rf_47_0 s2, Option.bind_some, e6, al, Option.bind_some, if_pos (iO_47 s2), shl1 f (by omega), shl1 r (by omega), nI_or, nI_or, e3, Option.bind_some, nI_1]
          exact e6'
        · have yb : m.testBit r = true := (hmb r (by omega)).mpr c
          rw [if_neg (fun z => (bt_0 (by omega) (by omega)).mp z yb), if_neg c, nI_1, show r + 1 = P - k by omega]
          exact ihk (by omega) F g b (by omega) M
    obtain ⟨g1, e1, M1, E1⟩ := loop j' (Nat.le_refl _) eg_F g b (by rw [eg_F_eq]; omega) M
    rw [show P - j' = f + 1 by omega] at e1
    rw [if_pos (nI_lt cf (by omega)), nI_1, Option.bind_some, e1, Option.bind_some, hj']
    unfold swF
    rw [show P - (j' + 1) = f by omega, if_pos wf]
    exact ⟨g1, rfl, M1, E1⟩
end WX
abbrev gWhom (σ : eg_S) (k : Int32) : Prop := (¬ sP σ = 0 ∧ sP σ % 2 = 0) ∧ GI (nI 0) (nI 1) k
def bsW (σ : eg_S) : Nat × Nat := swF (sP σ) (hvS σ 0) (sP σ) (fun _ => 0) 0 (0, 0)
def aWhom (σ : eg_S) (k : Int32) : Int64 := if gWhom σ k then (if k = 0 then jI ((bsW σ).2 : Nat) else jI (((bsW σ).1 : Int) - 1)) else -1
theorem ev_n : ∀ P, P ≤ 6 → ((nI P % 2 = 1 ↔ ¬ P % 2 = 0) ∧ (nI P % 2 = 0 ↔ P % 2 = 0)) := by decide +kernel
theorem hv_60 (σ : eg_S) (e y : Nat) : hvS σ e y ≤ 60000000000 := by
  have := hp_le (f := ptS σ (y / 6) (y % 6) e 0) (M := 1000000000) (fun i => pt_le i) 60
  unfold hvS
  omega
section WA
variable {h h' : eg_H} {σ : eg_S} {B : Nat × Nat}
theorem bsW_pos (hP : sP σ ≤ 6) (h2 : sP σ % 2 = 0) : ¬ (bsW σ).1 = 0 := by
  have := sw_pos (P := sP σ) (v := hvS σ 0) (sP σ / 2) (fun _ => 0) 0 (0, 0) (by omega) (fun _ _ _ => rfl)
  rw [show 2 * (sP σ / 2) = sP σ by omega] at this
  unfold bsW
  omega
theorem X_whom (X : XI h σ B) (k : Int32) : ∃ h', fX12_whom h 16 k = some (aWhom σ k, h') ∧ XOk h h' σ B := by
  have C := X.2.2.1
  have hs := C.1
  have hP := XI_P X
  unfold fX12_whom aWhom
  rw [if_pos (iO_16 hs), gR_16 hs, rf_16_3 hs, Option.bind_some, X_isTold X, Option.bind_some]
  dsimp only
  by_cases c1 : sP σ = 0
  · have gg : ¬ gWhom σ k := fun z => z.1.1 c1
    rw [if_pos c1, if_pos rfl, if_neg gg]; exact ⟨h, rfl, XOk_rfl X⟩
  rw [if_neg c1, if_neg (show ¬ (1 : Int32) = 0 by decide), gR_16 hs, rf_16_3 hs, Option.bind_some, X_persons X, Option.bind_some]
  dsimp only
  by_cases c2 : sP σ % 2 = 0
  rotate_left
  · have gg : ¬ gWhom σ k := fun z => c2 z.1.2
    rw [if_neg (fun z => c2 ((ev_n _ hP.1).2.mp z)), if_neg gg]; exact ⟨h, rfl, XOk_rfl X⟩
  rw [if_pos ((ev_n _ hP.1).2.mpr c2), X_isEither, Option.bind_some]
  dsimp only
  rw [g01]
  by_cases c3 : GI (nI 0) (nI 1) k
  rotate_left
  · have gg : ¬ gWhom σ k := fun z => c3 z.2
    rw [if_neg c3, if_neg gg]; exact ⟨h, rfl, XOk_rfl X⟩
  have gg : gWhom σ k := ⟨⟨c1, c2⟩, c3⟩
  rw [if_pos c3, if_pos gg]
  have hE : 0 < sE σ := (X.1.2.1.2.2.2 (by omega)).2.1
  obtain ⟨g1, e1, O1, H1⟩ := X_gather X hE
  have e1' : fX12_gatherHopes h 16 0 = some g1 := e1
  have s1 := O1.1.2.2.1.1
  let g2 := eg_sI (eg_sL (eg_sI g1 47 7 (nI (sP σ))) 47 11 (-1)) 47 9 0
  have s2 : eg_stt g2 := s1
  have W2 : XW (sP σ) (hvS σ 0) g2 (fun _ => 0) (0, 0) := by
    refine ⟨s1, ?_, H1, fun x _ z => absurd rfl z, ?_, ?_, by decide, by decide⟩
    · show eg_I (eg_sI (eg_sL (eg_sI g1 47 7 (nI (sP σ))) 47 11 (-1)) 47 9 0) 47 7 = _
      rw [I_sI, if_neg (by omega)]
      show eg_I (eg_sI g1 47 7 (nI (sP σ))) 47 7 = _
      rw [I_sI, if_pos ⟨rfl, rfl⟩]
    · show eg_L (eg_sL (eg_sI g1 47 7 (nI (sP σ))) 47 11 (-1)) 47 11 = _
      rw [L_sL, if_pos ⟨rfl, rfl⟩]; rfl
    · rw [I_sI, if_pos ⟨rfl, rfl⟩]; rfl
  obtain ⟨g3, e3, W3, E3⟩ := X_who hP.1 (hv_60 σ 0) (sP σ) (Nat.le_refl _) eg_D g2 (fun _ => 0) 0 (0, 0) 0 (by show sP σ < 64; omega) W2 (fun _ _ => Nat.zero_le _) (fun x hx => by omega) (by omega) (fun x _ => by simp) (by omega)
  have e3' : fX9_pairUp eg_D g2 47 0 0 = some g3 := e3
  have s3 := W3.1
  have O3 : XOk g1 g3 σ B := XOk_low O1.1 (S := [(47, some 7), (49, none), (47, some 11), (47, some 9)]) (eq_tr (eq_sI (eq_sL (eq_sI eq_rfl rfl) rfl) rfl) (cov_sub (by decide) E3)) (by decide) (by decide) ⟨rfl, rfl, rfl, rfl, fun _ => ⟨rfl, rfl⟩⟩ (by decide)
  have ea : fX9_pairAll g1 47 (nI (sP σ)) = some g3 := by
    unfold fX9_pairAll
    rw [if_pos (iO_47 s1)]
    have j13 : fX9_pairAll_j13 g1 47 47 (nI (sP σ)) = some g3 := by
      unfold fX9_pairAll_j13
      rw [pI_47 s1, Option.bind_some, pL_47 (h := eg_sI g1 47 7 (nI (sP σ))) s1, Option.bind_some, pI_47 (h := eg_sL (eg_sI g1 47 7 (nI (sP σ))) 47 11 (-1)) s1, Option.bind_some]
      show ((fX9_pairUp eg_D g2 47 0 0).bind _) = _
      rw [e3', Option.bind_some]
    by_cases c6 : (6 : Int32) ≤ nI (sP σ)
    · have : sP σ = 6 := by
        rcases Nat.lt_or_ge (sP σ) 6 with z | z
        · exact absurd c6 (nI_ge (b := 6) z (by omega))
        · omega
      rw [if_pos c6]
      rw [this] at j13
      exact j13
    · rw [if_neg c6]; exact j13
  rw [e1', Option.bind_some, gR_16 s1, rf_16_18 s1, Option.bind_some, gR_16 s1, rf_16_3 s1, Option.bind_some, X_persons O1.1, Option.bind_some]
  dsimp only
  rw [ea, Option.bind_some]
  by_cases c4 : k = 0
  · rw [if_pos c4, if_pos c4, gR_16 s3, rf_16_18 s3, Option.bind_some]
    unfold fX9_digits
    have e9 : eg_I g3 47 9 = nI (bsW σ).2 := W3.2.2.2.2.2.1
    have hb : (bsW σ).2 < 1000000 := W3.2.2.2.2.2.2.2
    rw [if_pos (iO_47 s3), gI_47 s3, Option.bind_some, Option.bind_some, e9]
    dsimp only
    rw [nW (by omega)]
    exact ⟨g3, rfl, XOk_tr O1 O3⟩
  · rw [if_neg c4, if_neg c4, gR_16 s3, rf_16_18 s3, Option.bind_some]
    unfold fX9_hopesTogether
    have e9 : eg_L g3 47 11 = jI (((bsW σ).1 : Int) - 1) := W3.2.2.2.2.1
    rw [if_pos (iO_47 s3), gL_47 s3, Option.bind_some, Option.bind_some, e9]
    exact ⟨g3, rfl, XOk_tr O1 O3⟩
def Mh (σ : eg_S) (g : eg_H) (z p : Nat) : Prop := (∀ y, y < z → vld (sP σ) y → eg_L g 70 y = jI (hvS σ 0 y : Nat)) ∧ ∀ x, x < p → eg_I g 71 x = -1
theorem M_wh57 (R : RI h σ) {p : Nat} {k : Int32} (hp : p < sP σ) : ∀ j r g F, r + j = sP σ → j < F → p < r → eg_eq Rx h g → Mh σ g (6 * p + r) (p + 1) → ∃ g', fX13_whom_L57 F g 54 k (nI p) (nI r) = some (54, k, nI p, g') ∧ eg_eq Rx h g' ∧ Mh σ g' (6 * p + sP σ) (p + 1) := by
  have hP := RI_P R
  intro j
  induction j with
  | zero =>
    intro r g F hi hF hr Q H
    obtain ⟨F, rfl⟩ : ∃ F', F = F' + 1 := ⟨F - 1, by omega⟩
    have Rg := RI_scr R Q
    obtain rfl : r = sP σ := by omega
    exact ⟨g, by rw [fX13_whom_L57, gI_54 Rg.1, Option.bind_some, Rg.2.2.2.1.2.2.2.1, if_pos (nI_le (Nat.le_refl _) (by omega))], Q, H⟩
  | succ j ih =>
    intro r g F hi hF hr Q H
    obtain ⟨F, rfl⟩ : ∃ F', F = F' + 1 := ⟨F - 1, by omega⟩
    have Rg := RI_scr R Q
    have sg := Rg.1
    have hE : 0 < sE σ := (R.2.1.2.1.2.2.2 (by omega)).2.1
    obtain ⟨g1, e1, E1, _⟩ := M_hopeOf Rg hp (show r < sP σ by omega) hE (d := 0) (by omega)
    have ep : (10 : Int32) * nI p + nI r = nI (10 * p + r) := by rw [show (10 : Int32) = nI 10 from rfl, nI_kk, nI_add]
    have ev : hpF (ptS σ p r 0 0) 60 = hvS σ 0 (6 * p + r) := by
      unfold hvS
      rw [show (6 * p + r) / 6 = p by omega, show (6 * p + r) % 6 = r by omega]
    rw [ev] at e1
    have e1' : fX13_hopeOf g 54 (nI (10 * p + r)) 0 = some (jI (hvS σ 0 (6 * p + r) : Nat), g1) := e1
    have Q1 : eg_eq Rx h g1 := eq_tr Q (SP_x E1)
    have s1 := (RI_scr R Q1).1
    have e6 : (6 : Int32) * nI p + nI r = nI (6 * p + r) := by rw [show (6 : Int32) = nI 6 from rfl, nI_kk, nI_add]
    have hcl : (nI (6 * p + r)).toNatClampNeg = 6 * p + r := nI_clamp (by omega)
    obtain ⟨g2, e2, Q2, H2⟩ := ih (r + 1) (eg_sL g1 70 (6 * p + r) (jI (hvS σ 0 (6 * p + r) : Nat))) F (by omega) (by omega) (by omega) (eq_sL Q1 rfl) ⟨fun y hy vy => by
      rw [L_sL]
      by_cases c : y = 6 * p + r
      · rw [if_pos ⟨rfl, c⟩, c]
      · rw [if_neg (fun z => c z.2), (E1.2 70 y rfl).2.1]; exact H.1 y (by omega) vy, fun x hx => by
      show eg_I g1 71 x = _
      rw [(E1.2 71 x rfl).1]; exact H.2 x hx⟩
    refine ⟨g2, ?_, Q2, H2⟩
    rw [fX13_whom_L57, gI_54 sg, Option.bind_some, Rg.2.2.2.1.2.2.2.1, if_neg (nI_ge (by omega) (by omega)), gR_54 sg, rf_54_42 sg, Option.bind_some, ep, e1', Option.bind_some]
    dsimp only
    rw [e6, wL_70 s1 (nI_pos (by omega)) (by rw [hcl]; omega), hcl, Option.bind_some, nI_1]
    exact e2
theorem M_whom (R : RI h σ) (k : Int32) : ∃ h', fX13_whom h 54 k = some (aWhom σ k, h') ∧ ROk h h' σ := by
  obtain ⟨R0, Q0⟩ := R_0 R
  have hs := R.1
  have s0 := R0.1
  have hP := RI_P R
  unfold fX13_whom aWhom
  rw [if_pos (iO_54 hs), pI_54 hs, Option.bind_some, gI_54 s0, Option.bind_some, R0.2.2.2.1.2.2.2.1]
  by_cases c1 : sP σ = 0
  · have gg : ¬ gWhom σ k := fun z => z.1.1 c1
    rw [if_pos (by rw [c1]; rfl), if_neg gg]; exact ⟨_, rfl, ROk_scr R Q0⟩
  rw [if_neg (nI_ne0 (by omega) (by omega)), Option.bind_some]
  by_cases c2 : sP σ % 2 = 0
  rotate_left
  · have gg : ¬ gWhom σ k := fun z => c2 z.1.2
    rw [if_pos ((ev_n _ hP.1).1.mpr c2), if_neg gg]; exact ⟨_, rfl, ROk_scr R Q0⟩
  rw [if_neg (fun z => (ev_n _ hP.1).1.mp z c2), M_GI (lo := 0) (hi := 1) _ k (by omega) (by omega) 0 1 rfl rfl, Option.bind_some]
  dsimp only
  rw [g01]
  by_cases c3 : GI (nI 0) (nI 1) k
  rotate_left
  · have gg : ¬ gWhom σ k := fun z => c3 z.2
    rw [if_neg c3, if_neg gg]; exact ⟨_, rfl, ROk_scr R Q0⟩
  have gg : gWhom σ k := ⟨⟨c1, c2⟩, c3⟩
  rw [if_pos c3, if_pos gg]
  have key : ∀ j p g F, p + j = sP σ → j < F → eg_eq Rx (eg_sI h 54 0 0) g → Mh σ g (7 * p + 1) p → ∃ g', fX13_whom_L38 F g 54 k (nI p) = some (54, k, g') ∧ eg_eq Rx (eg_sI h 54 0 0) g' ∧ Mh σ g' 50 (sP σ) := by
    intro j
    induction j with
    | zero =>
      intro p g F hi hF Q H
      obtain ⟨F, rfl⟩ : ∃ F', F = F' + 1 := ⟨F - 1, by omega⟩
      have Rg := RI_scr R0 Q
      obtain rfl : p = sP σ := by omega
      exact ⟨g, by rw [fX13_whom_L38, gI_54 Rg.1, Option.bind_some, Rg.2.2.2.1.2.2.2.1, if_pos (nI_le (Nat.le_refl _) (by omega))], Q, fun y hy vy => H.1 y (by have := vy.1; have := vy.2; omega) vy, H.2⟩
    | succ j ih =>
      intro p g F hi hF Q H
      obtain ⟨F, rfl⟩ : ∃ F', F = F' + 1 := ⟨F - 1, by omega⟩
      have Rg := RI_scr R0 Q
      have sg := Rg.1
      have hcl : (nI p).toNatClampNeg = p := nI_clamp (by omega)
      obtain ⟨g1, e1, Q1, H1⟩ := M_wh57 R0 (k := k) (show p < sP σ by omega) (sP σ - (p + 1)) (p + 1) (eg_sI g 71 p (-1)) eg_F (by omega) (by rw [eg_F_eq]; omega) (by omega) (eq_sI Q rfl) ⟨fun y hy vy => H.1 y (by omega) vy, fun x hx => by
        rw [I_sI]
        by_cases c : x = p
        · rw [if_pos ⟨rfl, c⟩]
        · rw [if_neg (fun z => c z.2)]; exact H.2 x (by omega)⟩
      obtain ⟨g2, e2, Q2, H2⟩ := ih (p + 1) g1 F (by omega) (by omega) Q1 ⟨fun y hy vy => H1.1 y (by have := vy.1; have := vy.2; omega) vy, H1.2⟩
      refine ⟨g2, ?_, Q2, H2⟩
      rw [fX13_whom_L38, gI_54 sg, Option.bind_some, Rg.2.2.2.1.2.2.2.1, if_neg (nI_ge (by omega) (by omega)), gR_54 sg, rf_54_43 sg, Option.bind_some, wI_71 sg (nI_pos (by omega)) (by rw [hcl]; omega), hcl, Option.bind_some, nI_1, Option.bind_some, e1, Option.bind_some]
      dsimp only
      rw [nI_1]
      exact e2
  obtain ⟨g1, e1, Q1, H1⟩ := key (sP σ) 0 (eg_sI h 54 0 0) eg_F (by omega) (by rw [eg_F_eq]; omega) eq_rfl ⟨fun y hy vy => by have := vy.1; have := vy.2; omega, fun x hx => by omega⟩
  have e1' : fX13_whom_L38 eg_F (eg_sI h 54 0 0) 54 k 0 = some (54, k, g1) := e1
  have R1 := RI_scr R0 Q1
  have s1 := R1.1
  let g2 := eg_sL g1 54 45 (-1)
  have s2 : eg_stt g2 := s1
  have W2 : MW (sP σ) (hvS σ 0) g2 (fun _ => 0) (0, 0) := by
    refine ⟨s1, R1.2.2.2.1.2.2.2.1, H1.1, fun x hx => by show eg_I g1 71 x = _; rw [H1.2 x hx, if_pos rfl], ?_, fun z => absurd rfl z, by decide⟩
    show eg_L (eg_sL g1 54 45 (-1)) 54 45 = _
    rw [L_sL, if_pos ⟨rfl, rfl⟩]; rfl
  obtain ⟨g3, e3, W3, E3⟩ := M_who hP.1 (hv_60 σ 0) (sP σ) (Nat.le_refl _) eg_D g2 (fun _ => 0) 0 (0, 0) (by show sP σ < 64; omega) W2 (fun _ _ => Nat.zero_le _) (fun x hx => by omega) (by omega)
  rw [Nat.sub_self] at e3
  have e3' : fX13_goWhom eg_D g2 54 0 0 = some g3 := e3
  have s3 := W3.1
  have Q3 : eg_eq Rx h g3 := eq_tr (eq_tr Q0 Q1) (eq_tr (eq_sL eq_rfl rfl) (cov_sub (by decide) E3))
  rw [e1', Option.bind_some]
  dsimp only
  rw [pL_54 s1, Option.bind_some]
  show ∃ h', ((fX13_goWhom eg_D g2 54 0 0).bind _) = _ ∧ _
  rw [e3', Option.bind_some]
  by_cases c4 : k = 0
  · have e9 : eg_L g3 54 44 = jI ((bsW σ).2 : Nat) := W3.2.2.2.2.2.1 (bsW_pos hP.1 c2)
    rw [if_pos c4, if_pos c4, gL_54 s3, Option.bind_some, e9]
    exact ⟨g3, rfl, ROk_scr R Q3⟩
  · have e9 : eg_L g3 54 45 = jI (((bsW σ).1 : Int) - 1) := W3.2.2.2.2.1
    rw [if_neg c4, if_neg c4, gL_54 s3, Option.bind_some, e9]
    exact ⟨g3, rfl, ROk_scr R Q3⟩
end WA
