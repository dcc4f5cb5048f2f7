def alB (q : Nat → Bool) : Nat → Nat → Bool
  | _, 0 => true
  | i, j + 1 => if q i = true then alB q (i + 1) j else false
def loS (P : Nat → Bool) : Nat → Int32
  | 0 => -1
  | i + 1 => if P (i + 1) = true ∧ loS P i = -1 then nI (i + 1) else loS P i
def grS (P : Nat → Bool) : Nat → Int32
  | 0 => -1
  | i + 1 => if P (i + 1) = true then nI (i + 1) else grS P i
def lmS (σ : eg_S) (e v : Nat) : Nat := if sU σ (29 + 2 * e) = 1 then v / 2 else v
def okS (σ : eg_S) (e v : Nat) : Nat → Bool := fun i => decide (dN (σ.2 4 (4 * i)) = e → (dN (σ.2 4 (4 * i + 1)) ≤ lmS σ e v ↔ dN (σ.2 4 (4 * i + 2)) = 1))
def pSt (σ : eg_S) (e : Nat) : Nat → Bool := fun v => alB (okS σ e v) 0 (σ.1 6)
def cnS (P : Nat → Bool) : Nat → Nat := fun i => if P (i + 1) = true then 1 else 0
def aStrong (σ : eg_S) (e w : Int32) : Int32 := if G1 (sE σ) e ∧ GI (nI 0) (nI 2) w then (if w = 0 then nI (sm (cnS (pSt σ (dN e))) 99) else if w = 1 then loS (pSt σ (dN e)) 99 else grS (pSt σ (dN e)) 99) else -1000000
theorem ne_1 {d : Nat} (h : d < 2 ^ 31) (c : ¬ d = 1) : ¬ nI d = (1 : Int32) := fun z => c ((nI_eq (b := 1) h (by omega)).mp z)
theorem en_1 {d : Nat} (h : d < 2 ^ 31) (c : ¬ d = 1) : ¬ (1 : Int32) = nI d := fun z => ne_1 h c z.symm
theorem en_0 {d : Nat} (h : d < 2 ^ 31) (c : ¬ d = 0) : ¬ (0 : Int32) = nI d := fun z => nI_ne0 (by omega) (by omega) z.symm
section SG
variable {h : eg_H} {σ : eg_S} {B : Nat × Nat}
theorem wit_c (W : Wσ σ) {i : Nat} (hi : i < σ.1 6) : σ.2 4 (4 * i) = nI (dN (σ.2 4 (4 * i))) ∧ σ.2 4 (4 * i + 1) = nI (dN (σ.2 4 (4 * i + 1))) ∧ σ.2 4 (4 * i + 2) = nI (dN (σ.2 4 (4 * i + 2))) ∧ dN (σ.2 4 (4 * i)) < 6 ∧ dN (σ.2 4 (4 * i + 1)) ≤ 999 ∧ dN (σ.2 4 (4 * i + 2)) ≤ 1 := by
  obtain ⟨e, f, b, h1, h2, h3, h4, h5, h6⟩ := W.2.2.2.2.1.2 i hi
  rw [h4, h5, h6, dN_n (by omega), dN_n (by omega), dN_n (by omega)]
  exact ⟨rfl, rfl, rfl, h1, h2, h3⟩
theorem X_cb_L (X : XI h σ B) {e v : Nat} (he : e < 6) (hv : lmS σ e v ≤ 99) : ∀ j i F, i + j = σ.1 6 → j < F → fX12_couldBear_L24 F h 16 (nI e) (nI (lmS σ e v)) (nI i) = some (if alB (okS σ e v) i j = true then .inl h else .inr h) := by
  have hs := X.2.2.1.1
  have k1 := X.2.2.2.2.2.1.1
  have h20 := X.1.2.2.2.2.1.1
  have hsz := X_size hs (Or.inl rfl) k1
  have hce : ∀ i c, i < σ.1 6 → c < 4 → fX1_cell h 27 (nI i) (nI c) = some (σ.2 4 (4 * i + c), h) := fun i c hi hc => X_cell hs (Or.inl rfl) k1 (by show 4 * σ.1 6 ≤ 80; omega) hi hc
  intro j
  induction j with
  | zero =>
    intro i F hi hF
    obtain ⟨F, rfl⟩ : ∃ F', F = F' + 1 := ⟨F - 1, by omega⟩
    obtain rfl : i = σ.1 6 := by omega
    rw [fX12_couldBear_L24, gR_16 hs, rf_16_9 hs, Option.bind_some, hsz, Option.bind_some]
    dsimp only
    rw [if_pos (nI_le (Nat.le_refl _) (by omega))]
    rfl
  | succ j ih =>
    intro i F hi hF
    obtain ⟨F, rfl⟩ : ∃ F', F = F' + 1 := ⟨F - 1, by omega⟩
    have e3 := ih (i + 1) F (by omega) (by omega)
    obtain ⟨w1, w2, w3, w4, w5, w6⟩ := wit_c X.1 (i := i) (by omega)
    have c0 : fX1_cell h 27 (nI i) 0 = some (nI (dN (σ.2 4 (4 * i))), h) := by rw [← w1]; exact hce i 0 (by omega) (by omega)
    have c1 : fX1_cell h 27 (nI i) 1 = some (nI (dN (σ.2 4 (4 * i + 1))), h) := by rw [← w2]; exact hce i 1 (by omega) (by omega)
    have c2 : fX1_cell h 27 (nI i) 2 = some (nI (dN (σ.2 4 (4 * i + 2))), h) := by rw [← w3]; exact hce i 2 (by omega) (by omega)
    have hj : ∀ s : Nat, s = dN (σ.2 4 (4 * i + 2)) → fX12_couldBear_j55 (fX12_couldBear_L24 F) h 16 (nI e) (nI (lmS σ e v)) (nI i) (nI s) = some (if alB (okS σ e v) i (j + 1) = true then .inl h else .inr h) := by
      intro s hs'
      unfold fX12_couldBear_j55 alB
      rw [gR_16 hs, rf_16_9 hs, Option.bind_some, c0, Option.bind_some]
      dsimp only
      by_cases d0 : dN (σ.2 4 (4 * i)) = e
      · rw [if_pos (by rw [d0]), gR_16 hs, rf_16_9 hs, Option.bind_some, c1, Option.bind_some, nI_1]
        dsimp only
        by_cases d1 : dN (σ.2 4 (4 * i + 1)) ≤ lmS σ e v
        · rw [if_neg (nI_nlt d1 (by omega))]
          by_cases d2 : s = 1
          · rw [if_pos (show (1 : Int32) = nI s by rw [d2]; rfl), if_pos (show okS σ e v i = true from decide_eq_true (fun _ => ⟨fun _ => by omega, fun _ => d1⟩))]
            exact e3
          · rw [if_neg (show ¬ (1 : Int32) = nI s from fun z => d2 ((nI_eq (a := 1) (by omega) (by omega)).mp z).symm), if_neg (show ¬ okS σ e v i = true from fun z => d2 (by have := (of_decide_eq_true z) d0; omega))]
            rfl
        · rw [if_pos (nI_lt (by omega) (by omega))]
          by_cases d2 : s = 0
          · rw [if_pos (show (0 : Int32) = nI s by rw [d2]; rfl), if_pos (show okS σ e v i = true from decide_eq_true (fun _ => ⟨fun z => absurd z d1, fun z => by omega⟩))]
            exact e3
          · rw [if_neg (show ¬ (0 : Int32) = nI s from fun z => d2 ((nI_eq (a := 0) (by omega) (by omega)).mp z).symm), if_neg (show ¬ okS σ e v i = true from fun z => d1 (((of_decide_eq_true z) d0).mpr (by omega)))]
            rfl
      · rw [if_neg (fun z => d0 ((nI_eq (by omega) (by omega)).mp z)), if_pos (show okS σ e v i = true from decide_eq_true (fun z => absurd z d0)), nI_1]
        exact e3
    rw [fX12_couldBear_L24, gR_16 hs, rf_16_9 hs, Option.bind_some, hsz, Option.bind_some]
    dsimp only
    rw [if_neg (nI_ge (by omega) (by omega)), gR_16 hs, rf_16_9 hs, Option.bind_some, c2, Option.bind_some]
    dsimp only
    by_cases d : dN (σ.2 4 (4 * i + 2)) = 1
    · rw [if_pos (by rw [d]; rfl)]
      exact hj 1 d.symm
    · rw [if_neg (ne_1 (by omega) d)]
      exact hj 0 (by omega)
theorem X_cb (X : XI h σ B) {e v : Nat} (he : e < sE σ) (hv : v ≤ 99) : fX12_couldBear h 16 (nI e) (nI v) = some (if pSt σ e v = true then 1 else 0, h) := by
  have C := X.2.2.1
  have hs := C.1
  have hP := XI_P X
  have hPp : 0 < sP σ := by
    rcases Nat.eq_zero_or_pos (sP σ) with z | z
    · have := (X.1.2.1.2.2.1 z).1; omega
    · exact z
  have hU := XI_U X hPp
  have e1 : fX7_ofEgg h 23 (nI e) 1 = some (nI (sU σ (29 + 2 * e)), h) := by
    have := X_ofEgg hs C.2.1 hU he (j := 1) (by omega)
    rw [show 28 + 2 * e + 1 = 29 + 2 * e by omega] at this; exact this
  have hc := (hU.2.2 e he).2.2
  have h20 := X.1.2.2.2.2.1.1
  have hl : lmS σ e v ≤ 99 := by unfold lmS; split <;> omega
  have e2 := X_cb_L X (e := e) (v := v) (by omega) hl (σ.1 6) 0 eg_F (by omega) (by rw [eg_F_eq]; omega)
  have hj : ∀ x, x = nI (lmS σ e v) → fX12_couldBear_j20 h 16 (nI e) x = some (if pSt σ e v = true then 1 else 0, h) := by
    intro x hx
    subst hx
    unfold fX12_couldBear_j20
    have e2' : fX12_couldBear_L24 eg_F h 16 (nI e) (nI (lmS σ e v)) 0 = _ := e2
    rw [e2', Option.bind_some]
    show _ = some (if alB (okS σ e v) 0 (σ.1 6) = true then 1 else 0, h)
    by_cases c : alB (okS σ e v) 0 (σ.1 6) = true
    · rw [if_pos c, if_pos c]
    · rw [if_neg c, if_neg c]
  unfold fX12_couldBear
  rw [if_pos (iO_16 hs), gR_16 hs, rf_16_3 hs, Option.bind_some, e1, Option.bind_some]
  dsimp only
  by_cases c : sU σ (29 + 2 * e) = 1
  · rw [if_pos (by rw [c]; rfl)]
    exact hj _ (by rw [nI_half (by omega)]; unfold lmS; rw [if_pos c])
  · rw [if_neg (ne_1 (by omega) c)]
    exact hj _ (by unfold lmS; rw [if_neg c])
theorem X_strong_L (X : XI h σ B) {e : Nat} {w : Int32} (he : e < sE σ) : ∀ j i F, i + j = 99 → j < F → fX12_strong_L34 F h 16 (nI e) w (nI (sm (cnS (pSt σ e)) i)) (loS (pSt σ e) i) (grS (pSt σ e) i) (nI (i + 1)) = some (w, nI (sm (cnS (pSt σ e)) 99), loS (pSt σ e) 99, grS (pSt σ e) 99, h) := by
  intro j
  induction j with
  | zero =>
    intro i F hi hF
    obtain ⟨F, rfl⟩ : ∃ F', F = F' + 1 := ⟨F - 1, by omega⟩
    obtain rfl : i = 99 := by omega
    rw [fX12_strong_L34, if_pos (by decide)]
  | succ j ih =>
    intro i F hi hF
    obtain ⟨F, rfl⟩ : ∃ F', F = F' + 1 := ⟨F - 1, by omega⟩
    have e3 := ih (i + 1) F (by omega) (by omega)
    rw [sm, loS, grS, cnS] at e3
    rw [fX12_strong_L34, if_neg (show ¬ (99 : Int32) < nI (i + 1) from nI_nlt (a := 99) (by omega) (by omega)), X_cb X he (by omega), Option.bind_some, nI_1 (i + 1), nI_1]
    dsimp only
    rw [g01]
    by_cases c : pSt σ e (i + 1) = true
    · rw [if_pos c, if_pos c] at e3
      rw [if_pos c]
      by_cases c2 : loS (pSt σ e) i = -1
      · rw [if_pos ⟨c, c2⟩] at e3
        rw [if_pos c2]; exact e3
      · rw [if_neg (fun z => c2 z.2)] at e3
        rw [if_neg c2]; exact e3
    · rw [if_neg c, if_neg c, if_neg (fun z => c z.1), Nat.add_zero] at e3
      rw [if_neg c]; exact e3
theorem X_strong (X : XI h σ B) (e w : Int32) : ∃ h', fX12_strong h 16 e w = some (aStrong σ e w, h') ∧ XOk h h' σ B := by
  have C := X.2.2.1
  have hs := C.1
  have hP := XI_P X
  unfold fX12_strong aStrong
  rw [if_pos (iO_16 hs), gR_16 hs, rf_16_3 hs, Option.bind_some]
  rw [X_isEgg hs C.2.1 e, Option.bind_some]
  dsimp only
  rw [g01]
  by_cases c1 : G1 (sE σ) e
  rotate_left
  · rw [if_neg c1, if_neg (fun z => c1 z.1)]; exact ⟨h, rfl, XOk_rfl X⟩
  rw [if_pos c1]
  by_cases c2 : GI (nI 0) (nI 2) w
  rotate_left
  · by_cases c99 : w < 0
    · rw [if_pos c99, if_neg (fun z => c2 z.2)]; exact ⟨h, rfl, XOk_rfl X⟩
    · rw [if_neg c99, if_neg (show ¬ w ≤ (2 : Int32) from fun z => c2 ⟨c99, Int32.not_lt.mpr z⟩), if_neg (fun z => c2 z.2)]; exact ⟨h, rfl, XOk_rfl X⟩
  rw [if_neg (show ¬ w < 0 from c2.1), if_pos (show w ≤ (2 : Int32) from Int32.not_lt.mp c2.2)]
  rw [if_pos (show G1 (sE σ) e ∧ GI (nI 0) (nI 2) w from ⟨c1, c2⟩)]
  obtain ⟨n, hn, rfl⟩ := G1_n (by omega) c1
  have e1 := X_strong_L (w := w) X hn 99 0 eg_F (by omega) (by rw [eg_F_eq]; omega)
  have e1' : fX12_strong_L34 eg_F h 16 (nI n) w 0 (-1) (-1) 1 = _ := e1
  refine ⟨h, ?_, XOk_rfl X⟩
  rw [e1', Option.bind_some, dN_n (by omega)]
  dsimp only
  by_cases w0 : w = 0
  · rw [if_pos w0, if_pos w0]
  · rw [if_neg w0, if_neg w0]
    by_cases w1 : w = 1
    · rw [if_pos w1, if_pos w1]
    · rw [if_neg w1, if_neg w1]
theorem Uok_e {U : Nat → Nat} {P E e v : Nat} (h : Uok U P E) (he : e < E) (hv : 1 ≤ v ∧ v ≤ 99) : Uok (upU U (28 + 2 * e) v) P E := by
  obtain ⟨⟨a1, a2, a3, a4, a5, a6, a7, a8⟩, hp, hee⟩ := h
  have hu : ∀ x, ¬ x = 28 + 2 * e → upU U (28 + 2 * e) v x = U x := fun x hx => if_neg hx
  refine ⟨⟨a1, a2, ?_, ?_, ?_, ?_, ?_, ?_⟩, fun p hp' => ?_, fun k hk => ?_⟩
  · rw [hu 0 (by omega)]; exact a3
  · rw [hu 1 (by omega)]; exact a4
  · rw [hu 2 (by omega)]; exact a5
  · rw [hu 2 (by omega)]; exact a6
  · rw [hu 3 (by omega)]; exact a7
  · rw [hu 3 (by omega)]; exact a8
  · rw [hu (4 + 4 * p) (by omega), hu (5 + 4 * p) (by omega), hu (6 + 4 * p) (by omega), hu (7 + 4 * p) (by omega)]; exact hp p hp'
  · obtain ⟨q1, q2, q3⟩ := hee k hk
    rw [hu (29 + 2 * k) (by omega)]
    refine ⟨?_, ?_, q3⟩
    · unfold upU; split <;> omega
    · unfold upU; split <;> omega
theorem RO_e {U : Nat → Nat} {P E e v : Nat} {lw : eg_LW} (O : RO h U P E lw) (he : e < E) (hv : 1 ≤ v ∧ v ≤ 99) : RO (eg_sI h 63 (2 * e) (nI v)) (upU U (28 + 2 * e) v) P E lw := by
  obtain ⟨o1, o2, ⟨v1, v2, v3, v4, v5⟩, o4⟩ := O
  have hP := o2.1.1
  have hu : ∀ y, ¬ y = 28 + 2 * e → upU U (28 + 2 * e) v y = U y := fun y hy => if_neg hy
  refine ⟨o1, Uok_e o2 he hv, ⟨fun y hy => ?_, fun y hy => ?_, fun y hy => ?_, ?_, ?_⟩, ?_⟩
  · rw [I_sI, if_neg (by omega), hu y (by omega)]; exact v1 y hy
  · rw [I_sI, if_neg (by omega), hu (4 + y) (by omega)]; exact v2 y hy
  · rw [I_sI]
    by_cases c : y = 2 * e
    · subst c
      rw [if_pos ⟨rfl, rfl⟩]
      unfold upU
      rw [if_pos rfl]
    · rw [if_neg (fun z => c z.2), hu (28 + y) (by omega)]; exact v3 y hy
  · rw [I_sI, if_neg (by omega)]; exact v4
  · rw [I_sI, if_neg (by omega)]; exact v5
  · cases lw with
    | none => show eg_I (eg_sI h 63 (2 * e) (nI v)) 54 34 = -1; rw [I_sI, if_neg (by omega)]; exact o4
    | some f =>
      obtain ⟨j, n, t, u, a1, a2, a3, a4, a5, a6, a7, a8⟩ := o4
      refine ⟨j, n, t, u, a1, a2, ?_, ?_, a5, fun i hi => ?_, a7, a8⟩
      · rw [I_sI, if_neg (by omega)]; exact a3
      · rw [I_sI, if_neg (by omega)]; exact a4
      · rw [I_sI, if_neg (by omega)]; exact a6 i hi
def MWt (h : eg_H) (σ : eg_S) : Prop := eg_I h 54 49 = nI (σ.1 6) ∧ ∀ i, i < σ.1 6 → eg_I h 72 i = σ.2 4 (4 * i) ∧ eg_I h 73 i = σ.2 4 (4 * i + 1) ∧ eg_I h 74 i = σ.2 4 (4 * i + 2)
theorem M_st_in (W : Wσ σ) {U : Nat → Nat} {P E : Nat} {lw : eg_LW} (O : RO h U P E lw) (M : MWt h σ) {e v : Nat} (he : e < E) (hl : limU U e = lmS σ e v) (l2 l3 l4 l5 l6 l7 : Int32) : ∀ j i F, i + j = σ.1 6 → j < F → fX13_strong_L73 F h 54 (nI e) l2 l3 l4 l5 l6 l7 1 (nI i) = some (54, nI e, l2, l3, l4, l5, l6, l7, if alB (okS σ e v) i j = true then 1 else 0, h) := by
  have hs := O.1
  have hE := O.2.1.1.2.1
  have h20 := W.2.2.2.2.1.1
  have l0 : ∀ j i F, i + j = σ.1 6 → j < F → fX13_strong_L73 F h 54 (nI e) l2 l3 l4 l5 l6 l7 0 (nI i) = some (54, nI e, l2, l3, l4, l5, l6, l7, 0, h) := by
    intro j
    induction j with
    | zero =>
      intro i F hi hF
      obtain ⟨F, rfl⟩ : ∃ F', F = F' + 1 := ⟨F - 1, by omega⟩
      obtain rfl : i = σ.1 6 := by omega
      rw [fX13_strong_L73, gI_54 hs, Option.bind_some, M.1, if_pos (nI_le (Nat.le_refl _) (by omega))]
    | succ j ih =>
      intro i F hi hF
      obtain ⟨F, rfl⟩ : ∃ F', F = F' + 1 := ⟨F - 1, by omega⟩
      rw [fX13_strong_L73, gI_54 hs, Option.bind_some, M.1, if_neg (nI_ge (by omega) (by omega)), if_pos rfl, nI_1]
      exact ih (i + 1) F (by omega) (by omega)
  intro j
  induction j with
  | zero =>
    intro i F hi hF
    obtain ⟨F, rfl⟩ : ∃ F', F = F' + 1 := ⟨F - 1, by omega⟩
    obtain rfl : i = σ.1 6 := by omega
    rw [fX13_strong_L73, gI_54 hs, Option.bind_some, M.1, if_pos (nI_le (Nat.le_refl _) (by omega))]
    rfl
  | succ j ih =>
    intro i F hi hF
    obtain ⟨F, rfl⟩ : ∃ F', F = F' + 1 := ⟨F - 1, by omega⟩
    have e3 := ih (i + 1) F (by omega) (by omega)
    have e0 := l0 j (i + 1) F (by omega) (by omega)
    obtain ⟨w1, w2, w3, w4, w5, w6⟩ := wit_c W (i := i) (by omega)
    obtain ⟨m1, m2, m3⟩ := M.2 i (by omega)
    have hcl : (nI i).toNatClampNeg = i := nI_clamp (by omega)
    unfold alB
    rw [fX13_strong_L73, gI_54 hs, Option.bind_some, M.1, if_neg (nI_ge (by omega) (by omega)), if_neg (show ¬ (1 : Int32) = 0 by decide), gR_54 hs, rf_54_46 hs, Option.bind_some, aI_72 hs (nI_pos (by omega)) (by rw [hcl]; omega), hcl, Option.bind_some, m1, w1, nI_1]
    by_cases d0 : dN (σ.2 4 (4 * i)) = e
    · rw [if_pos (by rw [d0]), gR_54 hs, rf_54_47 hs, Option.bind_some, aI_73 hs (nI_pos (by omega)) (by rw [hcl]; omega), hcl, Option.bind_some, m2, w2, M_bears O he w5, Option.bind_some, hl]
      dsimp only
      rw [gR_54 hs, rf_54_48 hs, Option.bind_some, aI_74 hs (nI_pos (by omega)) (by rw [hcl]; omega), hcl, Option.bind_some, m3, w3]
      by_cases d1 : dN (σ.2 4 (4 * i + 1)) ≤ lmS σ e v
      · rw [if_pos d1]
        by_cases d2 : dN (σ.2 4 (4 * i + 2)) = 1
        · rw [if_pos (by rw [d2]; rfl), if_pos (show okS σ e v i = true from decide_eq_true (fun _ => ⟨fun _ => d2, fun _ => d1⟩))]
          exact e3
        · rw [if_neg (en_1 (by omega) d2), if_neg (show ¬ okS σ e v i = true from fun z => d2 (((of_decide_eq_true z) d0).mp d1))]
          exact e0
      · rw [if_neg d1]
        by_cases d2 : dN (σ.2 4 (4 * i + 2)) = 0
        · rw [if_pos (by rw [d2]; rfl), if_pos (show okS σ e v i = true from decide_eq_true (fun _ => ⟨fun z => absurd z d1, fun z => by omega⟩))]
          exact e3
        · rw [if_neg (en_0 (by omega) d2), if_neg (show ¬ okS σ e v i = true from fun z => d1 (((of_decide_eq_true z) d0).mpr (by omega)))]
          exact e0
    · rw [if_neg (fun z => d0 ((nI_eq (by omega) (by omega)).mp z)), if_pos (show okS σ e v i = true from decide_eq_true (fun z => absurd z d0))]
      exact e3
theorem M_strong_L {e : Nat} {w v0 : Int32} (W : Wσ σ) (O : RO h (sU σ) (sP σ) (sE σ) (sL σ)) (M : MWt h σ) (he : e < sE σ) : ∀ j i g x F, i + j = 99 → j < F → eg_eq [] (eg_sI h 63 (2 * e) x) g → ∃ g' z, fX13_strong_L50 F g 54 (nI e) w v0 (nI (sm (cnS (pSt σ e)) i)) (loS (pSt σ e) i) (grS (pSt σ e) i) (nI (i + 1)) = some (54, nI e, w, v0, nI (sm (cnS (pSt σ e)) 99), loS (pSt σ e) 99, grS (pSt σ e) 99, g') ∧ eg_eq [] (eg_sI h 63 (2 * e) z) g' := by
  have hE := O.2.1.1.2.1
  have h20 := W.2.2.2.2.1.1
  intro j
  induction j with
  | zero =>
    intro i g x F hi hF Q
    obtain ⟨F, rfl⟩ : ∃ F', F = F' + 1 := ⟨F - 1, by omega⟩
    obtain rfl : i = 99 := by omega
    exact ⟨g, x, by rw [fX13_strong_L50, if_pos (by decide)], Q⟩
  | succ j ih =>
    intro i g x F hi hF Q
    obtain ⟨F, rfl⟩ : ∃ F', F = F' + 1 := ⟨F - 1, by omega⟩
    have sg : eg_stt g := eq_stt Q O.1 (by decide)
    have Q1 := eq_wr (nI (i + 1)) Q
    have O1 : RO (eg_sI g 63 (2 * e) (nI (i + 1))) (upU (sU σ) (28 + 2 * e) (i + 1)) (sP σ) (sE σ) (sL σ) := RO_eq (RO_e O he (by omega)) Q1 (by decide) ⟨⟨rfl, rfl, rfl⟩, fun _ => ⟨rfl, rfl, rfl, rfl, rfl⟩⟩
    have M1 : MWt (eg_sI g 63 (2 * e) (nI (i + 1))) σ := by
      have gg : ∀ p k, ¬ p = 63 → eg_I (eg_sI g 63 (2 * e) (nI (i + 1))) p k = eg_I h p k := fun p k hp => by
        rw [(Q1.2 p k rfl).1, I_sI, if_neg (fun z => hp z.1)]
      exact ⟨by rw [gg _ _ (by omega)]; exact M.1, fun k hk => by rw [gg _ _ (by omega), gg _ _ (by omega), gg _ _ (by omega)]; exact M.2 k hk⟩
    have hl : limU (upU (sU σ) (28 + 2 * e) (i + 1)) e = lmS σ e (i + 1) := by
      have u1 : upU (sU σ) (28 + 2 * e) (i + 1) (29 + 2 * e) = sU σ (29 + 2 * e) := if_neg (by omega)
      have u2 : upU (sU σ) (28 + 2 * e) (i + 1) (28 + 2 * e) = i + 1 := if_pos rfl
      unfold limU lmS
      rw [u1, u2]
    have e2 := M_st_in W O1 M1 he hl w v0 (nI (sm (cnS (pSt σ e)) i)) (loS (pSt σ e) i) (grS (pSt σ e) i) (nI (i + 1)) (σ.1 6) 0 eg_F (by omega) (by rw [eg_F_eq]; omega)
    have e2' : fX13_strong_L73 eg_F (eg_sI g 63 (2 * e) (nI (i + 1))) 54 (nI e) w v0 (nI (sm (cnS (pSt σ e)) i)) (loS (pSt σ e) i) (grS (pSt σ e) i) (nI (i + 1)) 1 0 = some (54, nI e, w, v0, nI (sm (cnS (pSt σ e)) i), loS (pSt σ e) i, grS (pSt σ e) i, nI (i + 1), if pSt σ e (i + 1) = true then 1 else 0, eg_sI g 63 (2 * e) (nI (i + 1))) := e2
    obtain ⟨g2, z, e3, Q2⟩ := ih (i + 1) (eg_sI g 63 (2 * e) (nI (i + 1))) (nI (i + 1)) F (by omega) (by omega) Q1
    refine ⟨g2, z, ?_, Q2⟩
    rw [sm, loS, grS, cnS] at e3
    have hcl : (nI (2 * e)).toNatClampNeg = 2 * e := nI_clamp (by omega)
    rw [fX13_strong_L50, if_neg (show ¬ (100 : Int32) ≤ nI (i + 1) from nI_ge (b := 100) (by omega) (by omega)), gR_54 sg, rf_54_22 sg, Option.bind_some, nI_k2, wI_63 sg (nI_pos (by omega)) (by rw [hcl]; omega), hcl, Option.bind_some, e2', Option.bind_some]
    dsimp only
    rw [g01, nI_1 (i + 1), nI_1]
    by_cases c : pSt σ e (i + 1) = true
    · rw [if_pos c, if_pos c] at e3
      rw [if_pos c]
      by_cases c2 : loS (pSt σ e) i = -1
      · rw [if_pos ⟨c, c2⟩] at e3
        rw [if_pos c2]; exact e3
      · rw [if_neg (fun z => c2 z.2)] at e3
        rw [if_neg c2]; exact e3
    · rw [if_neg c, if_neg c, if_neg (fun z => c z.1), Nat.add_zero] at e3
      rw [if_neg c]; exact e3
theorem M_strong (R : RI h σ) (e w : Int32) : ∃ h', fX13_strong h 54 e w = some (aStrong σ e w, h') ∧ ROk h h' σ := by
  obtain ⟨R0, Q0⟩ := R_0 R
  have hs := R.1
  have s0 := R0.1
  have hP := RI_P R
  unfold fX13_strong aStrong
  rw [if_pos (iO_54 hs), pI_54 hs, Option.bind_some]
  rw [M_isEgg s0 R0.2.2.2.1 e, Option.bind_some]
  dsimp only
  rw [g01]
  by_cases c1 : G1 (sE σ) e
  rotate_left
  · rw [if_neg c1, if_neg (fun z => c1 z.1)]; exact ⟨_, rfl, ROk_scr R Q0⟩
  rw [if_pos c1]
  rw [M_GI (lo := 0) (hi := 2) _ w (by omega) (by omega) 0 2 rfl rfl, Option.bind_some]
  dsimp only
  rw [g01]
  by_cases c2 : GI (nI 0) (nI 2) w
  rotate_left
  · rw [if_neg c2, if_neg (fun z => c2 z.2)]; exact ⟨_, rfl, ROk_scr R Q0⟩
  rw [if_pos c2]
  rw [if_pos (show G1 (sE σ) e ∧ GI (nI 0) (nI 2) w from ⟨c1, c2⟩)]
  obtain ⟨n, hn, rfl⟩ := G1_n (by omega) c1
  have hPp : 0 < sP σ := by
    rcases Nat.eq_zero_or_pos (sP σ) with z | z
    · have := (R.2.1.2.1.2.2.1 z).1; omega
    · exact z
  have O := RI_RO R0 hPp
  have v0 : eg_I (eg_sI h 54 0 0) 63 (2 * n) = nI (sU σ (28 + 2 * n)) := O.2.2.1.2.2.1 _ (by omega)
  have M0 : MWt (eg_sI h 54 0 0) σ := R0.2.2.2.2.2.2.1
  have hcl : (nI (2 * n)).toNatClampNeg = 2 * n := nI_clamp (by omega)
  obtain ⟨g, z, e1, Q1⟩ := M_strong_L (w := w) (v0 := nI (sU σ (28 + 2 * n))) R.2.1 O M0 hn 99 0 (eg_sI h 54 0 0) (eg_I (eg_sI h 54 0 0) 63 (2 * n)) eg_F (by omega) (by rw [eg_F_eq]; omega) (by rw [sI_same]; exact eq_rfl)
  have e1' : fX13_strong_L50 eg_F (eg_sI h 54 0 0) 54 (nI n) w (nI (sU σ (28 + 2 * n))) 0 (-1) (-1) 1 = _ := e1
  have Qb := eq_back Q1
  have sg : eg_stt g := eq_stt Q1 s0 (by decide)
  refine ⟨eg_sI g 63 (2 * n) (nI (sU σ (28 + 2 * n))), ?_, ROk_scr R (eq_tr Q0 (cov_sub (S := []) (by decide) (by rw [← v0]; exact Qb)))⟩
  rw [gR_54 s0, rf_54_22 s0, Option.bind_some, nI_k2, R_egg O (by omega), Option.bind_some, e1', Option.bind_some]
  dsimp only
  rw [gR_54 sg, rf_54_22 sg, Option.bind_some, nI_k2, wI_63 sg (nI_pos (by omega)) (by rw [hcl]; omega), hcl, Option.bind_some, dN_n (by omega)]
  by_cases w0 : w = 0
  · rw [if_pos w0, if_pos w0]
  · rw [if_neg w0, if_neg w0]
    by_cases w1 : w = 1
    · rw [if_pos w1, if_pos w1]
    · rw [if_neg w1, if_neg w1]
end SG
