theorem XO_gr {h h' : eg_H} {T : eg_TT} {q : Option Nat} {lw : eg_LW} (O : XO h T q lw) (G : eg_gr [(37, none)] h h') : XO h' T q lw := by
  obtain ⟨o1, o2, o3, ⟨t1, t2, t3, t4, t5, t6⟩, o5⟩ := O
  have c : ∀ i, eg_I h' 36 i = eg_I h 36 i := fun i => (G.2.1 36 i (by omega) rfl).1
  exact ⟨gr_stt G o1 (by decide), o2, by rw [(G.2.1 36 2 (by omega) rfl).2.2]; exact o3, ⟨by rw [c]; exact t1, by rw [c]; exact t2, by rw [c]; exact t3, by rw [c]; exact t4, by rw [c]; exact t5, by rw [c]; exact t6⟩, gr_XL G o5⟩
theorem X_cl25 {h : eg_H} {T : eg_TT} {q : Option Nat} {lw : eg_LW} {y b : Nat} (O : XO h T q lw) (hb : b ≤ 9) : ∀ j i F, i + j = 11 → j < F → fX11_climbAll_L25 F h 36 (nI y) (nI (ms (gk lw T y) (11 * b + i))) (nI b) (nI (hM lw T y b)) (iI ((i : Int) - 5)) = some (36, nI y, nI (ms (gk lw T y) (11 * b + 11)), nI b, h) := by
  have hR := O.2.1.2.2.2.1
  have he := eM_le O.2.1
  intro j
  induction j with
  | zero =>
    intro i F hi hF
    obtain ⟨F, rfl⟩ : ∃ F', F = F' + 1 := ⟨F - 1, by omega⟩
    obtain rfl : i = 11 := by omega
    rw [fX11_climbAll_L25, if_pos (show (5 : Int32) < iI _ from (iI_lt (a := 5) (by unfold i3; omega) (by unfold i3; omega)).mpr (by omega))]
  | succ j ih =>
    intro i F hi hF
    obtain ⟨F, rfl⟩ : ∃ F', F = F' + 1 := ⟨F - 1, by omega⟩
    have hm11 : ms (gk lw T y) (11 * b + i) ≤ 11 := Nat.le_trans (ms_bd _ (gk_e hR) _) he
    have hg11 : gk lw T y (11 * b + i) ≤ 11 := Nat.le_trans (gk_e hR _) he
    have hnx : iI ((i : Int) - 5) + 1 = iI (((i + 1 : Nat) : Int) - 5) := by
      rw [show (1 : Int32) = iI 1 from rfl, iI_add]
      congr 1
      omega
    have hz := ih (i + 1) F (by omega) (by omega)
    rw [show 11 * b + (i + 1) = 11 * b + i + 1 by omega, ms_s] at hz
    rw [fX11_climbAll_L25, if_neg (fun w : (5 : Int32) < iI _ => by have := (iI_lt (a := 5) (by unfold i3; omega) (by unfold i3; omega)).mp w; omega), X_goodOf O hb (by omega), Option.bind_some]
    show (if nI (gd lw T y b ((i : Int) - 5)) ≤ _ then _ else _) = _
    rw [← gk_at b i (by omega), hnx]
    by_cases c2 : ms (gk lw T y) (11 * b + i) < gk lw T y (11 * b + i)
    · rw [if_pos c2] at hz
      rw [if_neg (nI_ge c2 (by omega))]
      exact hz
    · rw [if_neg c2] at hz
      rw [if_pos (nI_le (by omega) (by omega))]
      exact hz
section LN
variable {h h' : eg_H} {σ : eg_S} {B : Nat × Nat}
theorem X_climb {T : eg_TT} {y : Nat} (hy : y ≤ 60) : ∀ j b h F, b + j = 10 → j < F → XTL h σ B T → (∀ x, x < b → eg_I h 37 x = nI (ms (gk (sL σ) T y) (11 * (x + 1)))) → ∃ h', fX11_climbAll_L4 F h 36 (nI y) (nI (ms (gk (sL σ) T y) (11 * b))) (nI b) = some h' ∧ XTL h' σ B T ∧ eg_gr [(37, none)] h h' ∧ eg_gc h h' ∧ ∀ x, x < 10 → eg_I h' 37 x = nI (ms (gk (sL σ) T y) (11 * (x + 1))) := by
  intro j
  induction j with
  | zero =>
    intro b h F hi hF X H
    obtain ⟨F, rfl⟩ : ∃ F', F = F' + 1 := ⟨F - 1, by omega⟩
    obtain rfl : b = 10 := by omega
    have hs := X.2.1
    refine ⟨h, ?_, X, gr_eq eq_rfl (by decide), gc_rfl, H⟩
    rw [fX11_climbAll_L4, gR_36 hs, rf_36_1 hs, Option.bind_some, al_37 hs, Option.bind_some, if_pos (nI_le (Nat.le_refl _) (by omega))]
  | succ j ih =>
    intro b h F hi hF X H
    obtain ⟨F, rfl⟩ : ∃ F', F = F' + 1 := ⟨F - 1, by omega⟩
    have hs := X.2.1
    obtain ⟨h1, e1, E1⟩ := X_wholes X.2 hy (show b ≤ 9 by omega)
    obtain ⟨O1, p1⟩ := XI_law X.1 E1
    have G1 := gr_Sq X.2.2.2.2.2 E1
    have G1' : eg_gr [(37, none)] h h1 := gr_mono G1 (fun _ _ _ _ => rfl)
    have XO1 : XO h1 T (eg_P h1 36 2) (sL σ) := by rw [p1]; exact XO_gr X.2 G1'
    have s1 := XO1.1
    have l1 := X_cl25 (y := y) XO1 (show b ≤ 9 by omega) 11 0 eg_F (by omega) (by rw [eg_F_eq]; omega)
    have l1' : fX11_climbAll_L25 eg_F h1 36 (nI y) (nI (ms (gk (sL σ) T y) (11 * b))) (nI b) (nI (hM (sL σ) T y b)) (-5) = some (36, nI y, nI (ms (gk (sL σ) T y) (11 * b + 11)), nI b, h1) := l1
    have hcl : (nI b).toNatClampNeg = b := nI_clamp (by omega)
    let h2 := eg_sI h1 37 b (nI (ms (gk (sL σ) T y) (11 * b + 11)))
    have E2 : eg_eq [(37, none)] h1 h2 := eq_sI eq_rfl rfl
    have O2 := XOk_low O1.1 E2 (by decide) (by decide) ⟨rfl, rfl, rfl, rfl, fun _ => ⟨rfl, rfl⟩⟩ (by decide)
    have G2 := gr_eq E2 (by decide)
    have X2 : XTL h2 σ B T := ⟨O2.1, XO_gr XO1 G2⟩
    obtain ⟨h3, e3, X3, G3, c3, H3⟩ := ih (b + 1) h2 F (by omega) (by omega) X2 (fun x hx => by
      rw [I_sI]
      by_cases c : x = b
      · rw [if_pos ⟨rfl, c⟩, c, show 11 * (b + 1) = 11 * b + 11 by omega]
      · rw [if_neg (fun z => c z.2)]
        have := (G1.2.1 37 x (by omega) rfl).1
        rw [this]; exact H x (by omega))
    refine ⟨h3, ?_, X3, gr_tr (gr_tr G1' G2) G3, gc_tr (gc_tr O1.2 O2.2) c3, H3⟩
    rw [show 11 * (b + 1) = 11 * b + 11 by omega] at e3
    rw [fX11_climbAll_L4, gR_36 hs, rf_36_1 hs, Option.bind_some, al_37 hs, Option.bind_some, if_neg (nI_ge (by omega) (by omega)), e1, Option.bind_some]
    dsimp only
    rw [l1', Option.bind_some]
    dsimp only
    rw [gR_36 s1, rf_36_1 s1, Option.bind_some, wI_37 s1 (nI_pos (by omega)) (by rw [hcl]; omega), hcl, Option.bind_some, nI_1]
    exact e3
def clG (σ : eg_S) (a b e d k x : Nat) : Nat := ms (gk (sL σ) (tOf (sU σ) (sU σ 0) (fOd k a b) (fOd k b a) e (fOd k d (1 - d))) (sU σ 3 + (k - 1) * sU σ 2)) (11 * (x + 1))
theorem X_kc {k : Nat} {v : Nat → Nat} (hk : k ≤ 60) : ∀ j x g F, x + j = 10 → j < F → eg_stt g → (∀ x, x < 10 → eg_I g 37 x = nI (v x)) → ∃ g', fX9_keepClimb_L2 F g 47 (nI k) 36 (nI x) = some g' ∧ eg_eq [(53, none)] g g' ∧ (∀ i, ¬ (10 * k + x ≤ i ∧ i < 10 * k + 10) → eg_I g' 53 i = eg_I g 53 i) ∧ ∀ m, x ≤ m → m < 10 → eg_I g' 53 (10 * k + m) = nI (v m) := by
  intro j
  induction j with
  | zero =>
    intro x g F hi hF hs H
    obtain ⟨F, rfl⟩ : ∃ F', F = F' + 1 := ⟨F - 1, by omega⟩
    obtain rfl : x = 10 := by omega
    exact ⟨g, by rw [fX9_keepClimb_L2, if_pos (by decide)], eq_rfl, fun _ _ => rfl, fun m h1 h2 => by omega⟩
  | succ j ih =>
    intro x g F hi hF hs H
    obtain ⟨F, rfl⟩ : ∃ F', F = F' + 1 := ⟨F - 1, by omega⟩
    have e10 : nI k * (10 : Int32) + nI x = nI (10 * k + x) := by rw [show (10 : Int32) = nI 10 from rfl, nI_kk, nI_add, Nat.mul_comm]
    have c1 : (nI (10 * k + x)).toNatClampNeg = 10 * k + x := nI_clamp (by omega)
    have c2 : (nI x).toNatClampNeg = x := nI_clamp (by omega)
    have ec : fX11_climbed g 36 (nI x) = some (nI (v x), g) := by
      unfold fX11_climbed
      rw [if_pos (iO_36 hs), if_neg (nI_pos (by omega)), gR_36 hs, rf_36_1 hs, Option.bind_some, al_37 hs, Option.bind_some, if_pos (nI_lt (by omega) (by omega)), Option.bind_some, aI_37 hs (nI_pos (by omega)) (by rw [c2]; omega), c2, Option.bind_some, H x (by omega)]
    let g1 := eg_sI g 53 (10 * k + x) (nI (v x))
    have s1 : eg_stt g1 := hs
    obtain ⟨g2, e2, E2, A2, B2⟩ := ih (x + 1) g1 F (by omega) (by omega) s1 (fun m hm => by rw [I_sI, if_neg (by omega)]; exact H m hm)
    refine ⟨g2, ?_, eq_tr (eq_sI eq_rfl rfl) E2, fun i hi => ?_, fun m h1 h2 => ?_⟩
    · rw [fX9_keepClimb_L2, if_neg (show ¬ (9 : Int32) < nI x from nI_nlt (a := 9) (by omega) (by omega)), e10, Option.bind_some, if_neg (nI_pos (by omega)), gR_47 hs, rf_47_5 hs, Option.bind_some, al_53 hs, Option.bind_some, if_neg (nI_ge (by omega) (by omega)), Option.bind_some, ec, Option.bind_some]
      dsimp only
      rw [wI_53 hs (nI_pos (by omega)) (by rw [c1]; omega), c1, Option.bind_some, nI_1]
      exact e2
    · rw [A2 i (by omega), I_sI, if_neg (by omega)]
    · by_cases c : m = x
      · rw [c, A2 _ (by omega), I_sI, if_pos ⟨rfl, rfl⟩]
      · exact B2 m (by omega) h2
theorem X_lay53 (X : XI h σ B) {a b e d : Nat} (ha : a < sP σ) (hb : b < sP σ) (he : e < sE σ) (hd : d ≤ 1) : ∃ h1, fX11_take h 36 (nI (10 * a + b)) (nI (10 * e + d)) (nI (sU σ 0)) = some h1 ∧ XTL h1 σ B (tOf (sU σ) (sU σ 0) a b e d) ∧ eg_gc h h1 ∧ ∀ i, eg_I h1 53 i = eg_I h 53 i := by
  have C := X.2.2.1
  have hU := XI_U X (by omega)
  obtain ⟨h1, e1, E1, T1⟩ := X_take C.1 C.2.1 hU (wd := sU σ 0) ha hb he hd
  have G : eg_gr Sx h h1 := gr_sub (by decide) (gr_eq E1 (by decide))
  have C1 : XC h1 (sU σ) (sP σ) (sE σ) (sL σ) (eg_P h 36 2) (σ.1 11) B := XC_low C E1 (by decide) (by decide) ⟨rfl, rfl, rfl, rfl, fun _ => ⟨rfl, rfl⟩⟩
  have O := XOk_scr X G C1
  refine ⟨h1, e1, ⟨O.1, ?_⟩, O.2, fun i => (E1.2 53 i rfl).1⟩
  rw [C1.2.2.1]
  exact ⟨C1.1, tOf_ok hU hU.1.2.2.1 ha hb he, C1.2.2.1, T1, C1.2.2.2.1⟩
theorem X_ln81 (X : XI h σ B) {a b e d N : Nat} {l4 : Int32} (ha : a < sP σ) (hb : b < sP σ) (he : e < sE σ) (hd : d ≤ 1) (hN : N ≤ 60) (hy : sU σ 3 + (N - 1) * sU σ 2 ≤ 60) : ∀ j k g F, k + j = N + 1 → 1 ≤ k → j < F → XOk h g σ B → (∀ k' x, 1 ≤ k' → k' < k → x < 10 → eg_I g 53 (10 * k' + x) = nI (clG σ a b e d k' x)) → ∃ g', fX12_learn_L81 F g 16 (nI (10 * a + b)) (nI (10 * e + d)) (nI N) l4 (nI (sU σ 0)) (nI k) = some (16, nI (10 * a + b), nI N, l4, g') ∧ XOk h g' σ B ∧ (∀ k' x, 1 ≤ k' → k' ≤ N → x < 10 → eg_I g' 53 (10 * k' + x) = nI (clG σ a b e d k' x)) := by
  have hP := XI_P X
  intro j
  induction j with
  | zero =>
    intro k g F hi hk hF O H
    obtain ⟨F, rfl⟩ : ∃ F', F = F' + 1 := ⟨F - 1, by omega⟩
    obtain rfl : k = N + 1 := by omega
    exact ⟨g, by rw [fX12_learn_L81, if_pos (nI_lt (by omega) (by omega))], O, fun k' x h1 h2 h3 => H k' x h1 (by omega) h3⟩
  | succ j ih =>
    intro k g F hi hk hF O H
    obtain ⟨F, rfl⟩ : ∃ F', F = F' + 1 := ⟨F - 1, by omega⟩
    have Xg := O.1
    have C := Xg.2.2.1
    have sg := C.1
    have hU := XI_U Xg (by omega)
    have fa : fOd k a b < sP σ := fOd_P ha hb
    have fb : fOd k b a < sP σ := fOd_P hb ha
    have fd : fOd k d (1 - d) ≤ 1 := fOd_1 hd
    have hky : sU σ 3 + (k - 1) * sU σ 2 ≤ 60 := by
      have : (k - 1) * sU σ 2 ≤ (N - 1) * sU σ 2 := Nat.mul_le_mul_right _ (by omega)
      omega
    obtain ⟨g1, e1, X1, gc1, fr1⟩ := X_lay53 Xg fa fb he fd
    have s1 := X1.2.1
    have C1 := X1.1.2.2.1
    have e2 : fX7_told g1 23 2 = some (nI (sU σ 2), g1) := X_told s1 C1.2.1 (x := 2) (by omega)
    obtain ⟨g2, e3, X2, G2, gc2, H2⟩ := X_climb (y := sU σ 3 + (k - 1) * sU σ 2) hky 10 0 g1 eg_F (by omega) (by rw [eg_F_eq]; omega) X1 (fun x hx => by omega)
    have e3' : fX11_climbAll_L4 eg_F g1 36 (nI (sU σ 3 + (k - 1) * sU σ 2)) 0 0 = some g2 := e3
    have s2 := X2.2.1
    obtain ⟨g3, e4, E4, A4, B4⟩ := X_kc (k := k) (v := fun x => clG σ a b e d k x) (by omega) 10 0 g2 eg_F (by omega) (by rw [eg_F_eq]; omega) s2 (fun x hx => H2 x hx)
    have e4' : fX9_keepClimb_L2 eg_F g2 47 (nI k) 36 0 = some g3 := e4
    have O3 := XOk_low X2.1 E4 (by decide) (by decide) ⟨rfl, rfl, rfl, rfl, fun _ => ⟨rfl, rfl⟩⟩ (by decide)
    obtain ⟨g4, e5, O4, H4⟩ := ih (k + 1) g3 F (by omega) (by omega) (by omega) ⟨O3.1, gc_tr (gc_tr (gc_tr O.2 gc1) gc2) O3.2⟩ (fun k' x h1 h2 h3 => by
      by_cases c : k' = k
      · rw [c]; exact B4 x (by omega) h3
      · rw [A4 _ (by omega), (G2.2.1 53 _ (by omega) rfl).1, fr1]
        exact H k' x h1 (by omega) h3)
    refine ⟨g4, ?_, O4, H4⟩
    rw [fX12_learn_L81, if_neg (nI_nlt (by omega) (by omega)), gR_16 sg, rf_16_15 sg, Option.bind_some, X_twoOf g (by omega) (by omega) (by omega), Option.bind_some]
    dsimp only
    rw [X_endOf g (by omega) (by omega) hd, Option.bind_some]
    dsimp only
    rw [e1, Option.bind_some, gR_16 s1, rf_16_15 s1, Option.bind_some, gR_16 s1, rf_16_3 s1, Option.bind_some, Option.bind_some, e2, Option.bind_some]
    dsimp only
    rw [X_yards s1 C1.2.1 hk, Option.bind_some]
    dsimp only
    unfold fX11_climbAll
    rw [if_pos (iO_36 s1), e3', Option.bind_some, Option.bind_some, gR_16 s2, rf_16_18 s2, Option.bind_some, gR_16 s2, rf_16_15 s2, Option.bind_some]
    unfold fX9_keepClimb
    rw [if_pos (iO_47 s2), e4', Option.bind_some, Option.bind_some, nI_1]
    exact e5
end LN
