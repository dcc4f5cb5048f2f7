def mR (σ : eg_S) (i : Nat) : Nat := dN (σ.2 5 (4 * i))
def mW (σ : eg_S) (i : Nat) : Nat := dN (σ.2 5 (4 * i + 1))
def mO (σ : eg_S) (i : Nat) : Int := (σ.2 5 (4 * i + 2)).toInt
def mF (σ : eg_S) (i : Nat) : Nat := dN (σ.2 5 (4 * i + 3))
def okH (σ : eg_S) (lw : eg_LW) : Nat → Bool := fun i => decide (frc lw (sU σ (5 + 4 * mR σ i)) (blw (sU σ) (sU σ 0) (mW σ i % 10)) (mW σ i / 100) (mW σ i / 10 % 10) (mO σ i) = mF σ i)
def hOK (σ : eg_S) (lw : eg_LW) : Bool := alB (okH σ lw) 0 (σ.1 7)
def aHeld (σ : eg_S) : Int32 := if sP σ = 0 then -1 else nI ((if hOK σ none = true then 16 else 0) ||| mkF (fun l => hOK σ (lwJ σ l)) (sN σ))
theorem mea_c {σ : eg_S} (W : Wσ σ) {i : Nat} (hi : i < σ.1 7) : σ.2 5 (4 * i) = nI (mR σ i) ∧ σ.2 5 (4 * i + 1) = nI (mW σ i) ∧ σ.2 5 (4 * i + 2) = iI (mO σ i) ∧ σ.2 5 (4 * i + 3) = nI (mF σ i) ∧ mR σ i < sP σ ∧ mW σ i < 2 ^ 31 ∧ mW σ i / 100 ≤ 60 ∧ mW σ i % 10 ≤ 1 ∧ (-99 ≤ mO σ i ∧ mO σ i ≤ 99) ∧ mF σ i ≤ 999 := by
  obtain ⟨r, y, b, d, off, f, h1, h2, h3, h4, h5, h6, h7, h8, h9, h10, h11⟩ := W.2.2.2.2.2.1.2 i hi
  have hP := W.2.1.1
  unfold mR mW mO mF
  rw [h8, h9, h10, h11, dN_n (by omega), dN_n (by omega), dN_n (by omega), iI_t (by unfold i3; omega)]
  exact ⟨rfl, rfl, rfl, rfl, h1, by omega, by omega, by omega, h6, h7⟩
section HE
variable {h : eg_H} {σ : eg_S} {B : Nat × Nat}
theorem XK_Sq2 {h' : eg_H} {U : Nat → Nat} {lw lw' : eg_LW} {era : Nat} {q : Option Nat} (K : XK h U lw era B) (L : XL h q lw') (Q : eg_eq (Sq q) h h') : XK h' U lw era B := by
  refine XK_eq K Q (Sq_95 L (by omega) _) (fun i => Sq_95 L (by omega) i) (fun p i k => ?_)
  cases q with
  | none => exact ⟨rfl, rfl⟩
  | some r =>
    cases lw' with
    | none => exact L.elim
    | some f =>
      obtain ⟨p9, t, n, w, h1, h2, l0, l1, l2, l3, l4, l5, l6, l7, l8, l9⟩ := L
      obtain ⟨k1, k2, k3, k4⟩ := k
      refine ⟨cov_Sq (fun r' hr => ?_), cov_Sq (fun r' hr => ?_)⟩
      · cases hr
        refine ⟨fun z => ?_, fun z => ?_⟩
        · rw [z, l3] at k2; cases k2
        · rw [z, l4] at k2; cases k2
      · cases hr
        refine ⟨fun z => ?_, fun z => ?_⟩
        · have : p = r := by omega
          rw [this, l2] at k2; cases k2
        · have : p = r + 1 := by omega
          rw [this, l3] at k2; cases k2
theorem XI_lawQ {h' : eg_H} (X : XI h σ B) {q : Option Nat} {lw : eg_LW} (L : XL h q lw) (E : eg_eq (Sq q) h h') : XOk h h' σ B := by
  have C := X.2.2.1
  have G := gr_Sq L E
  refine XOk_scr X (gr_sub (by decide) G) ⟨Sq_stt L C.1 E, XV_eq C.2.1 G ⟨rfl, rfl, fun _ => rfl⟩, ?_, gr_XL G C.2.2.2.1, XK_Sq2 C.2.2.2.2 L E⟩
  exact (G.2.1 36 2 (by omega) rfl).2.2
theorem XL_gc {q : Option Nat} {lw : eg_LW} {h' : eg_H} {S : List (Nat × Option Nat)} (L : XL h q lw) (G : eg_gr S h h') : XL h' q lw := gr_XL G L
theorem X_ms_L {q : Option Nat} {lw : eg_LW} (hP : 0 < sP σ) : ∀ j i h F, i + j = σ.1 7 → j < F → XI h σ B → XL h q lw → ∃ h', fX12_isMeasuredBy_L2 F h 16 q (nI i) = some (if alB (okH σ lw) i j = true then .inl h' else .inr h') ∧ XOk h h' σ B ∧ ∃ S, eg_gr S h h' := by
  intro j
  induction j with
  | zero =>
    intro i h F hi hF X L
    obtain ⟨F, rfl⟩ : ∃ F', F = F' + 1 := ⟨F - 1, by omega⟩
    have hs := X.2.2.1.1
    have k2 := X.2.2.2.2.2.1.2.1
    have h20 := X.1.2.2.2.2.2.1.1
    obtain rfl : i = σ.1 7 := by omega
    refine ⟨h, ?_, XOk_rfl X, [], gr_rfl⟩
    rw [fX12_isMeasuredBy_L2, gR_16 hs, rf_16_10 hs, Option.bind_some, X_size hs (Or.inr (Or.inl rfl)) k2, Option.bind_some]
    dsimp only
    rw [if_pos (nI_le (Nat.le_refl _) (by omega))]
    rfl
  | succ j ih =>
    intro i h F hi hF X L
    obtain ⟨F, rfl⟩ : ∃ F', F = F' + 1 := ⟨F - 1, by omega⟩
    have C := X.2.2.1
    have hs := C.1
    have hU := XI_U X hP
    have h20 := X.1.2.2.2.2.2.1.1
    have hP6 := XI_P X
    have ce : ∀ h, XI h σ B → ∀ c, c < 4 → fX1_cell h 29 (nI i) (nI c) = some (σ.2 5 (4 * i + c), h) := fun h X c hc => X_cell X.2.2.1.1 (Or.inr (Or.inl rfl)) X.2.2.2.2.2.1.2.1 (by show 4 * σ.1 7 ≤ 80; omega) (by omega) hc
    obtain ⟨m1, m2, m3, m4, m5, m6, m7, m8, m9, m10⟩ := mea_c X.1 (i := i) (by omega)
    obtain ⟨h1, e1, E1, v5, v7⟩ := X_receive hs C.2.1 hU m5 m8
    have C1 : XC h1 (sU σ) (sP σ) (sE σ) (sL σ) (eg_P h 36 2) (σ.1 11) B := XC_low C E1 (by decide) (by decide) ⟨rfl, rfl, rfl, rfl, fun _ => ⟨rfl, rfl⟩⟩
    have G1' : eg_gr Sx h h1 := gr_sub (by decide) (gr_eq E1 (by decide))
    have X1 := XOk_scr X G1' C1
    have L1 := gr_XL G1' L
    have hA := (hU.2.1 _ m5).2.1
    have hbw : -9 ≤ blw (sU σ) (sU σ 0) (mW σ i % 10) ∧ blw (sU σ) (sU σ 0) (mW σ i % 10) ≤ 9 := by
      have := hU.1.2.2.1
      unfold blw; split <;> omega
    obtain ⟨h2, e2, E2⟩ := X_force (T := (0, 0, sU σ (5 + 4 * mR σ i), 0, blw (sU σ) (sU σ 0) (mW σ i % 10), 0)) C1.1 v5 v7 ⟨Nat.zero_le _, Nat.zero_le _, hA, Nat.zero_le _, hbw.1, hbw.2, Nat.zero_le _⟩ L1 (y := mW σ i / 100) (b := mW σ i / 10 % 10) (off := mO σ i) m7 (by omega) m9
    have X2 := XI_lawQ X1.1 L1 E2
    have G2' := gr_Sq L1 E2
    have L2 := gr_XL G2' L1
    have s1 := C1.1
    have s2 := X2.1.2.2.1.1
    have c1 : fX1_cell h 29 (nI i) 1 = some (nI (mW σ i), h) := by rw [← m2]; exact ce h X 1 (by omega)
    have c0 : fX1_cell h 29 (nI i) 0 = some (nI (mR σ i), h) := by rw [← m1]; exact ce h X 0 (by omega)
    have c2 : fX1_cell h1 29 (nI i) 2 = some (iI (mO σ i), h1) := by rw [← m3]; exact ce h1 X1.1 2 (by omega)
    have c3 : fX1_cell h2 29 (nI i) 3 = some (nI (mF σ i), h2) := by rw [← m4]; exact ce h2 X2.1 3 (by omega)
    have a1 : nI (mW σ i) % 10 = nI (mW σ i % 10) := (n10 m6).2
    have a2 : nI (mW σ i) / 100 = nI (mW σ i / 100) := (n100 m6).1
    have a3 : nI (mW σ i) / 10 % 10 = nI (mW σ i / 10 % 10) := by rw [(n10 m6).1, (n10 (by omega)).2]
    have hf9 := cf_le (fz lw (sU σ (5 + 4 * mR σ i)) (blw (sU σ) (sU σ 0) (mW σ i % 10)) (mW σ i / 100) (mW σ i / 10 % 10) (mO σ i))
    have e2' : fX11_forceBy h1 36 q (nI (mW σ i / 100)) (nI (mW σ i / 10 % 10)) (iI (mO σ i)) = some (nI (frc lw (sU σ (5 + 4 * mR σ i)) (blw (sU σ) (sU σ 0) (mW σ i % 10)) (mW σ i / 100) (mW σ i / 10 % 10) (mO σ i)), h2) := e2
    have hf9' : frc lw (sU σ (5 + 4 * mR σ i)) (blw (sU σ) (sU σ 0) (mW σ i % 10)) (mW σ i / 100) (mW σ i / 10 % 10) (mO σ i) ≤ 999 := hf9
    rw [fX12_isMeasuredBy_L2, gR_16 hs, rf_16_10 hs, Option.bind_some, X_size hs (Or.inr (Or.inl rfl)) X.2.2.2.2.2.1.2.1, Option.bind_some]
    dsimp only
    rw [if_neg (nI_ge (by omega) (by omega)), gR_16 hs, rf_16_10 hs, Option.bind_some, c1, Option.bind_some]
    dsimp only
    rw [gR_16 hs, rf_16_15 hs, Option.bind_some, gR_16 hs, rf_16_10 hs, Option.bind_some, c0, Option.bind_some]
    dsimp only
    rw [a1, a2, a3, e1, Option.bind_some, gR_16 s1, rf_16_15 s1, Option.bind_some, gR_16 s1, rf_16_10 s1, Option.bind_some, c2, Option.bind_some]
    dsimp only
    rw [e2', Option.bind_some]
    dsimp only
    rw [gR_16 s2, rf_16_10 s2, Option.bind_some, c3, Option.bind_some, nI_1]
    dsimp only
    unfold alB
    by_cases c : frc lw (sU σ (5 + 4 * mR σ i)) (blw (sU σ) (sU σ 0) (mW σ i % 10)) (mW σ i / 100) (mW σ i / 10 % 10) (mO σ i) = mF σ i
    · obtain ⟨h3, e3, O3, S, G3⟩ := ih (i + 1) h2 F (by omega) (by omega) X2.1 L2
      refine ⟨h3, ?_, XOk_tr X1 (XOk_tr X2 O3), Sx ++ S, ?_⟩
      · rw [if_pos (by rw [c]), if_pos (show okH σ lw i = true from decide_eq_true c)]
        exact e3
      · exact gr_tr (gr_sub (fun t ht => List.mem_append_left _ ht) G1') (gr_tr (gr_sub (fun t ht => by cases ht) G2') (gr_sub (fun t ht => List.mem_append_right _ ht) G3))
    · refine ⟨h2, ?_, XOk_tr X1 X2, Sx, gr_tr G1' (gr_sub (fun t ht => by cases ht) G2')⟩
      rw [if_neg (fun z => c ((nI_eq (by omega) (by omega)).mp z)), if_neg (show ¬ okH σ lw i = true from fun z => c (of_decide_eq_true z))]
      rfl
theorem X_ms (X : XI h σ B) (hP : 0 < sP σ) {q : Option Nat} {lw : eg_LW} (L : XL h q lw) : ∃ h', fX12_isMeasuredBy h 16 q = some (if hOK σ lw = true then 1 else 0, h') ∧ XOk h h' σ B := by
  have h20 := X.1.2.2.2.2.2.1.1
  obtain ⟨h', e1, O1, _⟩ := X_ms_L hP (σ.1 7) 0 h eg_F (by omega) (by rw [eg_F_eq]; omega) X L
  have e1' : fX12_isMeasuredBy_L2 eg_F h 16 q 0 = _ := e1
  refine ⟨h', ?_, O1⟩
  unfold fX12_isMeasuredBy
  rw [if_pos (iO_16 X.2.2.1.1), e1', Option.bind_some]
  show _ = some (if alB (okH σ lw) 0 (σ.1 7) = true then 1 else 0, h')
  by_cases c : alB (okH σ lw) 0 (σ.1 7) = true
  · rw [if_pos c, if_pos c]
  · rw [if_neg c, if_neg c]
theorem X_lawOf (X : XI h σ B) {j : Nat} (hj : j < sN σ) : ∃ q, fX12_lawAt h 16 (nI j) = some (q, h) ∧ XL h q (lwJ σ j) := by
  have hs := X.2.2.1.1
  obtain ⟨a1, a2, a3, a4⟩ := X.2.2.2.1
  have hN := X.1.2.2.1.1
  obtain ⟨p, w, x1, x2, x3, x4⟩ := a3 j hj
  have hcl : (nI j).toNatClampNeg = j := nI_clamp (by omega)
  refine ⟨some p, ?_, ?_⟩
  · unfold fX12_lawAt
    rw [if_pos (iO_16 hs), if_neg (nI_pos (by omega)), gI_16 hs, Option.bind_some, a1, if_neg (nI_ge (by omega) (by omega)), gR_16 hs, rf_16_4 hs, Option.bind_some, al_25 hs, Option.bind_some, if_pos (nI_lt (by omega) (by omega)), Option.bind_some]
    unfold eg_aQ
    rw [if_pos (show eg_isA h 115 25 (nI j) from ⟨by omega, by rw [kd_25 hs], nI_pos (by omega), by rw [kd_25 hs, hcl]; show j < 4; omega⟩), hcl, Option.bind_some, x1]
  · unfold lwJ
    rw [x3]
    exact ⟨x2, laT σ j, laN σ j, w, x3, rfl, x4⟩
theorem X_held_L (hP : 0 < sP σ) {b0 : Nat} : ∀ j i h F, i + j = sN σ → j < F → XI h σ B → ∃ h', fX12_held_L29 F h 16 (nI (b0 ||| mkF (fun l => hOK σ (lwJ σ l)) i)) (nI i) = some (nI (b0 ||| mkF (fun l => hOK σ (lwJ σ l)) (sN σ)), h') ∧ XOk h h' σ B := by
  intro j
  induction j with
  | zero =>
    intro i h F hi hF X
    obtain ⟨F, rfl⟩ : ∃ F', F = F' + 1 := ⟨F - 1, by omega⟩
    have hs := X.2.2.1.1
    have hN := X.1.2.2.1.1
    obtain rfl : i = sN σ := by omega
    refine ⟨h, ?_, XOk_rfl X⟩
    rw [fX12_held_L29, gI_16 hs, Option.bind_some, X.2.2.2.1.1, if_pos (nI_le (Nat.le_refl _) (by omega))]
  | succ j ih =>
    intro i h F hi hF X
    obtain ⟨F, rfl⟩ : ∃ F', F = F' + 1 := ⟨F - 1, by omega⟩
    have hs := X.2.2.1.1
    have hN := X.1.2.2.1.1
    obtain ⟨q, e1, L1⟩ := X_lawOf X (j := i) (by omega)
    obtain ⟨h1, e2, O1⟩ := X_ms X hP L1
    obtain ⟨h2, e3, O2⟩ := ih (i + 1) h1 F (by omega) (by omega) O1.1
    refine ⟨h2, ?_, XOk_tr O1 O2⟩
    rw [fX12_held_L29, gI_16 hs, Option.bind_some, X.2.2.2.1.1, if_neg (nI_ge (by omega) (by omega)), e1, Option.bind_some]
    dsimp only
    rw [e2, Option.bind_some]
    dsimp only
    rw [g01, nI_1]
    rw [mkF] at e3
    by_cases c : hOK σ (lwJ σ i) = true
    · rw [if_pos c] at e3
      rw [if_pos c, one_shl i (by omega), nI_or, Option.bind_some, Nat.or_assoc]
      exact e3
    · rw [if_neg c, Nat.or_zero] at e3
      rw [if_neg c]
      exact e3
theorem X_isTold (X : XI h σ B) : fX7_isTold h 23 = some (if sP σ = 0 then 0 else 1, h) := by
  have C := X.2.2.1
  have hs := C.1
  have hP := XI_P X
  unfold fX7_isTold
  rw [if_pos (iO_23 hs), gI_23 hs, Option.bind_some, C.2.1.1]
  by_cases c : sP σ = 0
  · rw [if_pos c, if_pos (show nI (sP σ) ≤ 0 from nI_le (b := 0) (by omega) (by omega))]
  · rw [if_neg c, if_neg (show ¬ nI (sP σ) ≤ 0 from nI_ge (a := 0) (by omega) (by omega))]
theorem X_held (X : XI h σ B) : ∃ h', fX12_held h 16 = some (aHeld σ, h') ∧ XOk h h' σ B := by
  have C := X.2.2.1
  have hs := C.1
  have hP := XI_P X
  have hN := X.1.2.2.1.1
  unfold fX12_held aHeld
  rw [if_pos (iO_16 hs), gR_16 hs, rf_16_3 hs, Option.bind_some, X_isTold X, Option.bind_some]
  dsimp only
  by_cases c1 : sP σ = 0
  · rw [if_pos c1, if_pos c1, if_pos rfl]; exact ⟨h, rfl, XOk_rfl X⟩
  rw [if_neg c1, if_neg c1, if_neg (by decide)]
  obtain ⟨h1, e1, O1⟩ := X_ms X (q := none) (lw := none) (by omega) trivial
  obtain ⟨h2, e2, O2⟩ := X_held_L (b0 := if hOK σ none = true then 16 else 0) (by omega) (sN σ) 0 h1 eg_F (by omega) (by rw [eg_F_eq]; omega) O1.1
  refine ⟨h2, ?_, XOk_tr O1 O2⟩
  rw [e1, Option.bind_some]
  dsimp only
  rw [g01]
  unfold fX12_held_j26
  rw [mkF, Nat.or_zero] at e2
  by_cases c : hOK σ none = true
  · rw [if_pos c] at e2
    have e2' : fX12_held_L29 eg_F h1 16 16 0 = _ := e2
    rw [if_pos c, e2', Option.bind_some, if_pos c]
  · rw [if_neg c] at e2
    have e2' : fX12_held_L29 eg_F h1 16 0 0 = _ := e2
    rw [if_neg c, e2', Option.bind_some, if_neg c]
def MMs (h : eg_H) (σ : eg_S) : Prop := eg_I h 54 65 = nI (σ.1 7) ∧ ∀ i, i < σ.1 7 → eg_I h 82 i = σ.2 5 (4 * i) ∧ eg_I h 83 i = σ.2 5 (4 * i + 1) ∧ eg_I h 84 i = σ.2 5 (4 * i + 2) ∧ eg_I h 85 i = σ.2 5 (4 * i + 3)
theorem RO_F {h' : eg_H} {U : Nat → Nat} {P E : Nat} {lw : eg_LW} (O : RO h U P E lw) (Q : eg_eq SF h h') : RO h' U P E lw := RO_H O (SF_H Q)
theorem MMs_F {h' : eg_H} (M : MMs h σ) (Q : eg_eq SF h h') : MMs h' σ := ⟨by rw [(Q.2 54 65 rfl).1]; exact M.1, fun i hi => by rw [(Q.2 82 i rfl).1, (Q.2 83 i rfl).1, (Q.2 84 i rfl).1, (Q.2 85 i rfl).1]; exact M.2 i hi⟩
theorem M_hl_in (W : Wσ σ) {lw : eg_LW} (l1 l2 l3 : Int32) : ∀ j i h F, i + j = σ.1 7 → j < F → RO h (sU σ) (sP σ) (sE σ) lw → MMs h σ → ∃ h', fX13_held_L42 F h 54 l1 l2 l3 1 (nI i) = some (54, l1, l2, l3, if alB (okH σ lw) i j = true then 1 else 0, h') ∧ eg_eq SF h h' := by
  have h20 := W.2.2.2.2.2.1.1
  have l0 : ∀ j i h F, i + j = σ.1 7 → j < F → eg_stt h → MMs h σ → fX13_held_L42 F h 54 l1 l2 l3 0 (nI i) = some (54, l1, l2, l3, 0, h) := by
    intro j
    induction j with
    | zero =>
      intro i h F hi hF hs M
      obtain ⟨F, rfl⟩ : ∃ F', F = F' + 1 := ⟨F - 1, by omega⟩
      obtain rfl : i = σ.1 7 := by omega
      rw [fX13_held_L42, gI_54 hs, Option.bind_some, M.1, if_pos (nI_le (Nat.le_refl _) (by omega))]
    | succ j ih =>
      intro i h F hi hF hs M
      obtain ⟨F, rfl⟩ : ∃ F', F = F' + 1 := ⟨F - 1, by omega⟩
      rw [fX13_held_L42, gI_54 hs, Option.bind_some, M.1, if_neg (nI_ge (by omega) (by omega)), if_pos rfl, nI_1]
      exact ih (i + 1) h F (by omega) (by omega) hs M
  intro j
  induction j with
  | zero =>
    intro i h F hi hF O M
    obtain ⟨F, rfl⟩ : ∃ F', F = F' + 1 := ⟨F - 1, by omega⟩
    obtain rfl : i = σ.1 7 := by omega
    refine ⟨h, ?_, eq_rfl⟩
    rw [fX13_held_L42, gI_54 O.1, Option.bind_some, M.1, if_pos (nI_le (Nat.le_refl _) (by omega))]
    rfl
  | succ j ih =>
    intro i h F hi hF O M
    obtain ⟨F, rfl⟩ : ∃ F', F = F' + 1 := ⟨F - 1, by omega⟩
    have hs := O.1
    obtain ⟨m1, m2, m3, m4, m5, m6, m7, m8, m9, m10⟩ := mea_c W (i := i) (by omega)
    obtain ⟨r1, r2, r3, r4⟩ := M.2 i (by omega)
    have hcl : (nI i).toNatClampNeg = i := nI_clamp (by omega)
    obtain ⟨h1, e1, E1⟩ := M_force O m5 (d := mW σ i % 10) (by omega) (y := mW σ i / 100) m7 (b := mW σ i / 10 % 10) (by omega) m9
    have s1 := eq_stt E1 hs (by decide)
    have M1 := MMs_F M E1
    have O1 := RO_F O E1
    have a1 : nI (mW σ i) % 10 = nI (mW σ i % 10) := (n10 m6).2
    have a2 : nI (mW σ i) / 100 = nI (mW σ i / 100) := (n100 m6).1
    have a3 : nI (mW σ i) / 10 % 10 = nI (mW σ i / 10 % 10) := by rw [(n10 m6).1, (n10 (by omega)).2]
    have hf9 : frc lw (sU σ (5 + 4 * mR σ i)) (blw (sU σ) (sU σ 0) (mW σ i % 10)) (mW σ i / 100) (mW σ i / 10 % 10) (mO σ i) ≤ 999 := cf_le _
    have c82 : eg_aI h 100 82 (nI i) = some (nI (mR σ i)) := by rw [aI_82 hs (nI_pos (by omega)) (by rw [hcl]; omega), hcl, r1, m1]
    have c83 : eg_aI h 100 83 (nI i) = some (nI (mW σ i)) := by rw [aI_83 hs (nI_pos (by omega)) (by rw [hcl]; omega), hcl, r2, m2]
    have c84 : eg_aI h 100 84 (nI i) = some (iI (mO σ i)) := by rw [aI_84 hs (nI_pos (by omega)) (by rw [hcl]; omega), hcl, r3, m3]
    have c85 : eg_aI h1 100 85 (nI i) = some (nI (mF σ i)) := by rw [aI_85 s1 (nI_pos (by omega)) (by rw [hcl]; omega), hcl, (M1.2 i (by omega)).2.2.2, m4]
    rw [fX13_held_L42, gI_54 hs, Option.bind_some, M.1, if_neg (nI_ge (by omega) (by omega)), if_neg (show ¬ (1 : Int32) = 0 by decide), gR_54 hs, rf_54_61 hs, Option.bind_some, c82, Option.bind_some, gR_54 hs, rf_54_62 hs, Option.bind_some, c83, Option.bind_some, Option.bind_some, c83, Option.bind_some, Option.bind_some, c83, Option.bind_some, gR_54 hs, rf_54_63 hs, Option.bind_some, c84, Option.bind_some, a1, a2, a3, e1, Option.bind_some]
    dsimp only
    rw [gR_54 s1, rf_54_64 s1, Option.bind_some, c85, Option.bind_some, nI_1]
    unfold alB
    by_cases c : frc lw (sU σ (5 + 4 * mR σ i)) (blw (sU σ) (sU σ 0) (mW σ i % 10)) (mW σ i / 100) (mW σ i / 10 % 10) (mO σ i) = mF σ i
    · obtain ⟨h3, e3, E3⟩ := ih (i + 1) h1 F (by omega) (by omega) O1 M1
      refine ⟨h3, ?_, eq_tr E1 E3⟩
      rw [if_pos (by rw [c]), if_pos (show okH σ lw i = true from decide_eq_true c)]
      exact e3
    · refine ⟨h1, ?_, E1⟩
      rw [if_neg (fun z => c ((nI_eq (by omega) (by omega)).mp z)), if_neg (show ¬ okH σ lw i = true from fun z => c (of_decide_eq_true z))]
      exact l0 j (i + 1) h1 F (by omega) (by omega) s1 M1
def lwI (σ : eg_S) (i : Nat) : eg_LW := if i = 0 then none else lwJ σ (i - 1)
theorem RO_law (R : RI h σ) (hP : 0 < sP σ) {i : Nat} (hi : i ≤ sN σ) : RO (eg_sI h 54 34 (iI ((i : Int) - 1))) (sU σ) (sP σ) (sE σ) (lwI σ i) := by
  obtain ⟨o1, o2, ⟨v1, v2, v3, v4, v5⟩, o4⟩ := RI_RO R hP
  obtain ⟨w1, w2, w3⟩ := R.2.1.2.2.1
  obtain ⟨b1, b2, b3⟩ := R.2.2.2.2.1
  refine ⟨o1, o2, ⟨fun y hy => ?_, fun y hy => ?_, fun y hy => ?_, ?_, ?_⟩, ?_⟩
  · rw [I_sI, if_neg (by omega)]; exact v1 y hy
  · rw [I_sI, if_neg (by omega)]; exact v2 y hy
  · rw [I_sI, if_neg (by omega)]; exact v3 y hy
  · rw [I_sI, if_neg (by omega)]; exact v4
  · rw [I_sI, if_neg (by omega)]; exact v5
  · unfold lwI
    by_cases c : i = 0
    · subst c
      rw [if_pos rfl]
      show eg_I (eg_sI h 54 34 _) 54 34 = -1
      rw [I_sI, if_pos ⟨rfl, rfl⟩]
      decide
    · obtain ⟨x1, x2, w, x3⟩ := w3 (i - 1) (by omega)
      obtain ⟨y1, y2⟩ := b3 (i - 1) (by omega)
      rw [if_neg c]
      unfold lwJ
      rw [x3]
      refine ⟨i - 1, laN σ (i - 1), laT σ (i - 1), w, by omega, x1, ?_, ?_, x2, fun k hk => ?_, x3, rfl⟩
      · rw [I_sI, if_pos ⟨rfl, rfl⟩, ← iI_n]
        congr 1
        omega
      · rw [I_sI, if_neg (by omega)]; exact y1
      · rw [I_sI, if_neg (by omega)]; exact y2 k hk
def bH (σ : eg_S) (i : Nat) : Nat := if i = 0 then 0 else (if hOK σ none = true then 16 else 0) ||| mkF (fun l => hOK σ (lwJ σ l)) (i - 1)
theorem M_held_L {v : Int32} (R : RI h σ) (hP : 0 < sP σ) : ∀ j i g x F, i + j = sN σ + 1 → j < F → eg_eq SF (eg_sI h 54 34 x) g → ∃ g' z, fX13_held_L23 F g 54 v (nI (bH σ i)) (iI ((i : Int) - 1)) = some (54, v, nI (bH σ (sN σ + 1)), g') ∧ eg_eq SF (eg_sI h 54 34 z) g' := by
  have hN := R.2.1.2.2.1.1
  have h20 := R.2.1.2.2.2.2.2.1.1
  have b1 := R.2.2.2.2.1.1
  intro j
  induction j with
  | zero =>
    intro i g x F hi hF Q
    obtain ⟨F, rfl⟩ : ∃ F', F = F' + 1 := ⟨F - 1, by omega⟩
    have sg : eg_stt g := eq_stt Q R.1 (by decide)
    have g7 : eg_I g 54 7 = nI (sN σ) := by rw [(Q.2 54 7 rfl).1, I_sI, if_neg (by omega)]; exact b1
    obtain rfl : i = sN σ + 1 := by omega
    refine ⟨g, x, ?_, Q⟩
    rw [fX13_held_L23, gI_54 sg, Option.bind_some, g7, show iI (((sN σ + 1 : Nat) : Int) - 1) = nI (sN σ) by rw [← iI_n]; congr 1; omega, if_pos (nI_le (Nat.le_refl _) (by omega))]
  | succ j ih =>
    intro i g x F hi hF Q
    obtain ⟨F, rfl⟩ : ∃ F', F = F' + 1 := ⟨F - 1, by omega⟩
    have sg : eg_stt g := eq_stt Q R.1 (by decide)
    have g7 : eg_I g 54 7 = nI (sN σ) := by rw [(Q.2 54 7 rfl).1, I_sI, if_neg (by omega)]; exact b1
    have Q1 := eq_wr (iI ((i : Int) - 1)) Q
    have O1 : RO (eg_sI g 54 34 (iI ((i : Int) - 1))) (sU σ) (sP σ) (sE σ) (lwI σ i) := RO_F (RO_law R hP (by omega)) Q1
    have M1 : MMs (eg_sI g 54 34 (iI ((i : Int) - 1))) σ := by
      have M0 : MMs (eg_sI h 54 34 (iI ((i : Int) - 1))) σ := by
        obtain ⟨q1, q2⟩ := R.2.2.2.2.2.2.2.1
        exact ⟨by rw [I_sI, if_neg (by omega)]; exact q1, fun k hk => by rw [I_sI, if_neg (by omega), I_sI, if_neg (by omega), I_sI, if_neg (by omega), I_sI, if_neg (by omega)]; exact q2 k hk⟩
      exact MMs_F M0 Q1
    obtain ⟨g1, e1, E1⟩ := M_hl_in R.2.1 v (nI (bH σ i)) (iI ((i : Int) - 1)) (σ.1 7) 0 (eg_sI g 54 34 (iI ((i : Int) - 1))) eg_F (by omega) (by rw [eg_F_eq]; omega) O1 M1
    have e1' : fX13_held_L42 eg_F (eg_sI g 54 34 (iI ((i : Int) - 1))) 54 v (nI (bH σ i)) (iI ((i : Int) - 1)) 1 0 = some (54, v, nI (bH σ i), iI ((i : Int) - 1), if hOK σ (lwI σ i) = true then 1 else 0, g1) := e1
    obtain ⟨g2, z, e3, Q2⟩ := ih (i + 1) g1 (iI ((i : Int) - 1)) F (by omega) (by omega) (eq_tr Q1 E1)
    refine ⟨g2, z, ?_, Q2⟩
    have en : iI ((i : Int) - 1) + 1 = iI (((i + 1 : Nat) : Int) - 1) := by
      rw [show (1 : Int32) = iI 1 from rfl, iI_add]
      congr 1
      omega
    have lt : ¬ nI (sN σ) ≤ iI ((i : Int) - 1) := by
      rw [← iI_n, iI_le (by unfold i3; omega) (by unfold i3; omega)]
      omega
    rw [fX13_held_L23, gI_54 sg, Option.bind_some, g7, if_neg lt, pI_54 sg, Option.bind_some, e1', Option.bind_some]
    dsimp only
    rw [g01, en]
    by_cases c0 : i = 0
    · subst c0
      have eb : bH σ (0 + 1) = if hOK σ none = true then 16 else 0 := by
        unfold bH
        rw [if_neg (by omega)]
        show _ ||| 0 = _
        rw [Nat.or_zero]
      rw [eb] at e3
      have el : lwI σ 0 = none := if_pos rfl
      rw [el]
      by_cases c : hOK σ none = true
      · rw [if_pos c] at e3
        rw [if_pos c, if_pos (show iI (((0 : Nat) : Int) - 1) = -1 by decide), show bH σ 0 = 0 from if_pos rfl, show (nI 0 ||| ((1 : Int32) <<< ((4 : Int32) &&& 31))) = nI 16 by decide, Option.bind_some]
        exact e3
      · rw [if_neg c] at e3
        rw [if_neg c, show bH σ 0 = 0 from if_pos rfl, or_0, Option.bind_some]
        exact e3
    · have el : lwI σ i = lwJ σ (i - 1) := if_neg c0
      have ei : iI ((i : Int) - 1) = nI (i - 1) := by rw [← iI_n]; congr 1; omega
      have eb : bH σ (i + 1) = bH σ i ||| (if hOK σ (lwJ σ (i - 1)) = true then 2 ^ (i - 1) else 0) := by
        unfold bH
        rw [if_neg (by omega), if_neg c0, show i + 1 - 1 = i - 1 + 1 by omega, mkF, Nat.or_assoc]
      rw [eb] at e3
      rw [el]
      by_cases c : hOK σ (lwJ σ (i - 1)) = true
      · rw [if_pos c] at e3
        rw [if_pos c, if_neg (show ¬ iI ((i : Int) - 1) = -1 by rw [ei]; exact nI_nm1 (by omega)), ei, one_shl (i - 1) (by omega), nI_or, Option.bind_some]
        exact e3
      · rw [if_neg c, Nat.or_zero] at e3
        rw [if_neg c, or_0, Option.bind_some]
        exact e3
theorem M_held (R : RI h σ) : ∃ h', fX13_held h 54 = some (aHeld σ, h') ∧ ROk h h' σ := by
  obtain ⟨R0, Q0⟩ := R_0 R
  have hs := R.1
  have s0 := R0.1
  have hP := RI_P R
  have hN := R.2.1.2.2.1.1
  unfold fX13_held aHeld
  rw [if_pos (iO_54 hs), pI_54 hs, Option.bind_some, gI_54 s0, Option.bind_some, R0.2.2.2.1.2.2.2.1]
  by_cases c1 : sP σ = 0
  · rw [if_pos c1, if_pos (show nI (sP σ) = 0 by rw [c1]; rfl)]; exact ⟨_, rfl, ROk_scr R Q0⟩
  rw [if_neg c1, if_neg (nI_ne0 (by omega) (by omega)), gI_54 s0, Option.bind_some]
  obtain ⟨g, z, e1, Q1⟩ := M_held_L (v := eg_I (eg_sI h 54 0 0) 54 34) R0 (by omega) (sN σ + 1) 0 (eg_sI h 54 0 0) (eg_I (eg_sI h 54 0 0) 54 34) eg_F (by omega) (by rw [eg_F_eq]; omega) (by rw [sI_same]; exact eq_rfl)
  have e1' : fX13_held_L23 eg_F (eg_sI h 54 0 0) 54 (eg_I (eg_sI h 54 0 0) 54 34) 0 (-1) = _ := e1
  have Qb := eq_back Q1
  have sg : eg_stt g := eq_stt Q1 s0 (by decide)
  refine ⟨eg_sI g 54 34 (eg_I (eg_sI h 54 0 0) 54 34), ?_, ROk_scr R (eq_tr Q0 (SF_x Qb))⟩
  have eb : bH σ (sN σ + 1) = (if hOK σ none = true then 16 else 0) ||| mkF (fun l => hOK σ (lwJ σ l)) (sN σ) := by
    unfold bH
    rw [if_neg (by omega), show sN σ + 1 - 1 = sN σ by omega]
  rw [e1', Option.bind_some, eb]
  dsimp only
  rw [pI_54 sg, Option.bind_some]
end HE
