def ffG (p : Nat → Bool) : Nat → Nat → Option Nat
  | _, 0 => none
  | i, j + 1 => if p i = true then some i else ffG p (i + 1) j
def oN (x : Option Nat) : Int32 := match x with
  | none => -1
  | some v => nI v
def oPs (x : (eg_H) ⊕ (Int32 × eg_H)) : Int32 × eg_H := match x with
  | .inl h => (-1, h)
  | .inr z => z
def fLe0 (lw : eg_LW) (T : eg_TT) (y : Nat) : Nat → Bool := fun v => decide (bgd lw (tArm T v) y = 2 * tS T + 1)
def fLe1 (lw : eg_LW) (T : eg_TT) (y : Nat) : Nat → Bool := fun v => decide (bgd lw (tRun T v) y = 2 * tS T + 1)
def aLeast (σ : eg_S) (two c y w : Int32) : Int32 := if ((G2 (sP σ) two ∧ GE (sE σ) c) ∧ GI (nI 1) (nI 60) y) ∧ GI (nI 0) (nI 1) w then (if w = 0 then oN (ffG (fLe0 (sL σ) (tS2 σ two c) (dN y)) 0 10) else oN (ffG (fLe1 (sL σ) (tS2 σ two c) (dN y)) 0 6)) else -1
section LE
variable {h : eg_H} {σ : eg_S} {B : Nat × Nat}
theorem X_least0_L {T : eg_TT} {y : Nat} (hT : Tok T) (hy : y ≤ 60) : ∀ j i h v F, i + j = 10 → j < F → XTL h σ B (tArm T v) → ∃ h' x, fX12_least_L56 F h 16 (nI y) (nI 0) (nI 9) (nI i) = some x ∧ oPs x = (oN (ffG (fLe0 (sL σ) T y) i j), h') ∧ XOk h h' σ B := by
  intro j
  induction j with
  | zero =>
    intro i h v F hi2 hF X
    obtain ⟨F, rfl⟩ : ∃ F', F = F' + 1 := ⟨F - 1, by omega⟩
    obtain rfl : i = 10 := by omega
    exact ⟨h, .inl h, by rw [fX12_least_L56, if_pos (by decide)], rfl, XOk_rfl X.1⟩
  | succ j ih =>
    intro i h v F hi2 hF X
    obtain ⟨F, rfl⟩ : ∃ F', F = F' + 1 := ⟨F - 1, by omega⟩
    have hs := X.2.1
    obtain ⟨X1, c1⟩ := XTL_arm X (v := i) (by omega)
    have X1' : XTL (eg_sI h 36 5 (nI i)) σ B (tArm T i) := X1
    obtain ⟨h2, e2, X2, c2⟩ := XTL_seek X1' hy
    have s1 := X1.2.1
    have s2 := X2.2.1
    have T1 : Tok (tArm T i) := X1'.2.2.1
    have hb1 := bst_lt (lw := sL σ) T1 y
    have hg1 := bgd_le (lw := sL σ) T1 y
    have hS := hT.1
    have t1 : eg_I h2 36 3 = nI (tS T) := X2.2.2.2.2.1.1
    rw [fX12_least_L56, if_neg (nI_nlt (by omega) (by omega)), if_pos (show nI 0 = 0 from rfl), gR_16 hs, rf_16_15 hs, Option.bind_some]
    unfold fX11_useArm
    rw [if_pos (iO_36 hs), pI_36 hs, Option.bind_some, Option.bind_some]
    unfold fX12_least_j89
    rw [gR_16 s1, rf_16_15 s1, Option.bind_some, e2, Option.bind_some]
    dsimp only
    rw [X_goodIn h2 hb1 hg1, Option.bind_some]
    dsimp only
    rw [gR_16 s2, rf_16_15 s2, Option.bind_some]
    unfold fX11_slips
    rw [if_pos (iO_36 s2), gI_36 s2, Option.bind_some, Option.bind_some, t1, nI_k2, nI_1]
    dsimp only
    unfold ffG
    by_cases c : bgd (sL σ) (tArm T i) y = 2 * tS T + 1
    · rw [if_pos (by rw [c]), if_pos (by unfold fLe0; simpa using c)]
      exact ⟨h2, _, rfl, rfl, X2.1, gc_tr c1 c2⟩
    · rw [if_neg (fun z => c ((nI_eq (by omega) (by omega)).mp z)), if_neg (by unfold fLe0; simpa using c), nI_1]
      obtain ⟨h3, x, e3, e4, O3⟩ := ih (i + 1) h2 i F (by omega) (by omega) X2
      exact ⟨h3, x, e3, e4, O3.1, gc_tr c1 (gc_tr c2 O3.2)⟩
theorem X_least1_L {T : eg_TT} {y : Nat} (hT : Tok T) (hy : y ≤ 60) : ∀ j i h v F, i + j = 6 → j < F → XTL h σ B (tRun T v) → ∃ h' x, fX12_least_L56 F h 16 (nI y) (nI 1) (nI 5) (nI i) = some x ∧ oPs x = (oN (ffG (fLe1 (sL σ) T y) i j), h') ∧ XOk h h' σ B := by
  intro j
  induction j with
  | zero =>
    intro i h v F hi2 hF X
    obtain ⟨F, rfl⟩ : ∃ F', F = F' + 1 := ⟨F - 1, by omega⟩
    obtain rfl : i = 6 := by omega
    exact ⟨h, .inl h, by rw [fX12_least_L56, if_pos (by decide)], rfl, XOk_rfl X.1⟩
  | succ j ih =>
    intro i h v F hi2 hF X
    obtain ⟨F, rfl⟩ : ∃ F', F = F' + 1 := ⟨F - 1, by omega⟩
    have hs := X.2.1
    obtain ⟨X1, c1⟩ := XTL_run X (v := i) (by omega)
    have X1' : XTL (eg_sI h 36 6 (nI i)) σ B (tRun T i) := X1
    obtain ⟨h2, e2, X2, c2⟩ := XTL_seek X1' hy
    have s1 := X1.2.1
    have s2 := X2.2.1
    have T1 : Tok (tRun T i) := X1'.2.2.1
    have hb1 := bst_lt (lw := sL σ) T1 y
    have hg1 := bgd_le (lw := sL σ) T1 y
    have hS := hT.1
    have t1 : eg_I h2 36 3 = nI (tS T) := X2.2.2.2.2.1.1
    rw [fX12_least_L56, if_neg (nI_nlt (by omega) (by omega)), if_neg (show ¬ nI 1 = 0 by decide), gR_16 hs, rf_16_15 hs, Option.bind_some]
    unfold fX11_useRun
    rw [if_pos (iO_36 hs), pI_36 hs, Option.bind_some, Option.bind_some]
    unfold fX12_least_j89
    rw [gR_16 s1, rf_16_15 s1, Option.bind_some, e2, Option.bind_some]
    dsimp only
    rw [X_goodIn h2 hb1 hg1, Option.bind_some]
    dsimp only
    rw [gR_16 s2, rf_16_15 s2, Option.bind_some]
    unfold fX11_slips
    rw [if_pos (iO_36 s2), gI_36 s2, Option.bind_some, Option.bind_some, t1, nI_k2, nI_1]
    dsimp only
    unfold ffG
    by_cases c : bgd (sL σ) (tRun T i) y = 2 * tS T + 1
    · rw [if_pos (by rw [c]), if_pos (by unfold fLe1; simpa using c)]
      exact ⟨h2, _, rfl, rfl, X2.1, gc_tr c1 c2⟩
    · rw [if_neg (fun z => c ((nI_eq (by omega) (by omega)).mp z)), if_neg (by unfold fLe1; simpa using c), nI_1]
      obtain ⟨h3, x, e3, e4, O3⟩ := ih (i + 1) h2 i F (by omega) (by omega) X2
      exact ⟨h3, x, e3, e4, O3.1, gc_tr c1 (gc_tr c2 O3.2)⟩
theorem X_least (X : XI h σ B) (two c y w : Int32) : ∃ h', fX12_least h 16 two c y w = some (aLeast σ two c y w, h') ∧ XOk h h' σ B := by
  have C := X.2.2.1
  have hs := C.1
  have hP := XI_P X
  unfold fX12_least aLeast
  rw [if_pos (iO_16 hs)]
  rw [X_isThrow hs C.2.1 two c y, Option.bind_some]
  dsimp only
  rw [g01]
  by_cases c1 : (G2 (sP σ) two ∧ GE (sE σ) c) ∧ GI (nI 1) (nI 60) y
  rotate_left
  · rw [if_neg c1, if_neg (fun z => c1 z.1)]; exact ⟨h, rfl, XOk_rfl X⟩
  rw [if_pos c1]
  by_cases c3 : GI (nI 0) (nI 1) w
  rotate_left
  · by_cases c99 : w < 0
    · rw [if_pos c99, if_neg (fun z => c3 z.2)]; exact ⟨h, rfl, XOk_rfl X⟩
    · rw [if_neg c99, if_neg (show ¬ w ≤ (1 : Int32) from fun z => c3 ⟨c99, Int32.not_lt.mpr z⟩), if_neg (fun z => c3 z.2)]; exact ⟨h, rfl, XOk_rfl X⟩
  rw [if_neg (show ¬ w < 0 from c3.1), if_pos (show w ≤ (1 : Int32) from Int32.not_lt.mp c3.2)]
  rw [if_pos (show ((G2 (sP σ) two ∧ GE (sE σ) c) ∧ GI (nI 1) (nI 60) y) ∧ GI (nI 0) (nI 1) w from ⟨c1, c3⟩)]
  obtain ⟨a, b, ha, hb, hab, rfl⟩ := G2_n hP.1 c1.1.1
  obtain ⟨e, d, he, hd, rfl⟩ := GE_n hP.2 c1.1.2
  obtain ⟨n, n1, n2, rfl⟩ := GI_n (by omega) (by omega) c1.2
  have hU := XI_U X (by omega)
  obtain ⟨h1, e1, X1, G1'⟩ := X_lay X ha hb he hd
  have hT : Tok (tOf (sU σ) (sU σ 0) a b e d) := X1.2.2.1
  have e0 : fX7_told h 23 0 = some (nI (sU σ 0), h) := X_told hs C.2.1 (x := 0) (by omega)
  rw [gR_16 hs, rf_16_15 hs, Option.bind_some, gR_16 hs, rf_16_3 hs, Option.bind_some, e0, Option.bind_some]
  dsimp only
  rw [e1, Option.bind_some, tS2_eq (by omega) (by omega) (by omega) (by omega), dN_n (by omega)]
  have ea : ∃ v, XTL h1 σ B (tArm (tOf (sU σ) (sU σ 0) a b e d) v) := ⟨_, X1⟩
  have er : ∃ v, XTL h1 σ B (tRun (tOf (sU σ) (sU σ 0) a b e d) v) := ⟨_, X1⟩
  unfold fX12_least_j51
  by_cases w0 : w = 0
  · subst w0
    obtain ⟨v, Xv⟩ := ea
    obtain ⟨h2, x, e2, e3, O2⟩ := X_least0_L (y := n) hT n2 10 0 h1 v eg_F (by omega) (by rw [eg_F_eq]; omega) Xv
    have e2' : fX12_least_L56 eg_F h1 16 (nI n) 0 9 0 = some x := e2
    refine ⟨h2, ?_, O2.1, gc_tr G1' O2.2⟩
    rw [if_pos rfl, if_pos rfl, e2', Option.bind_some, ← e3]
    cases x <;> rfl
  · have w1 : w = 1 := (lt_1 c3.1 c3.2).elim (fun z => absurd z w0) id
    subst w1
    obtain ⟨v, Xv⟩ := er
    obtain ⟨h2, x, e2, e3, O2⟩ := X_least1_L (y := n) hT n2 6 0 h1 v eg_F (by omega) (by rw [eg_F_eq]; omega) Xv
    have e2' : fX12_least_L56 eg_F h1 16 (nI n) 1 5 0 = some x := e2
    refine ⟨h2, ?_, O2.1, gc_tr G1' O2.2⟩
    rw [if_neg w0, if_neg w0, e2', Option.bind_some, ← e3]
    cases x <;> rfl
theorem M_isAll {U : Nat → Nat} {P E : Nat} {lw : eg_LW} (O : RO h U P E lw) {a b e d y : Nat} (ha : a < P) (hb : b < P) (he : e < E) (hd : d ≤ 1) (hy : y ≤ 60) : ∃ h', fX13_isAllGood h 54 (nI (10 * a + b)) (nI (10 * e + d)) (nI y) = some (if bgd lw (tOf U (U 0) a b e d) y = 2 * U (4 + 4 * a) + 1 then 1 else 0, h') ∧ eg_eq SB h h' := by
  have hU := O.2.1
  have hP := hU.1.1
  obtain ⟨h', e1, E1, _, _, b3⟩ := M_best O ha hb he hd (y := y) hy
  have T := tOf_ok (d := d) hU hU.1.2.2.1 ha hb he
  have hg1 := bgd_le (lw := lw) T y
  have hS := (hU.2.1 a ha).1
  have O1 := RO_B O E1
  refine ⟨h', ?_, E1⟩
  unfold fX13_isAllGood
  rw [if_pos (iO_54 O.1), (i10 a b (by omega) (by omega)).1, (i10 a b (by omega) (by omega)).2, e1, Option.bind_some, gI_54 O1.1, Option.bind_some, b3, gR_54 O1.1, rf_54_20 O1.1, Option.bind_some, nI_k4, R_per O1 (by omega), Option.bind_some, nI_k2, nI_1]
  by_cases c : bgd lw (tOf U (U 0) a b e d) y = 2 * U (4 + 4 * a) + 1
  · rw [if_pos (by rw [c]), if_pos c]
  · rw [if_neg (fun z => c ((nI_eq (by omega) (by omega)).mp z)), if_neg c]
theorem M_least0_L {a b e d y : Nat} {v : Int32} (O : RO h (sU σ) (sP σ) (sE σ) (sL σ)) (ha : a < sP σ) (hb : b < sP σ) (he : e < sE σ) (hd : d ≤ 1) (hy : y ≤ 60) : ∀ j i g x F, i + j = 10 → j + 1 < F → eg_eq SB (eg_sI h 61 (4 * b + 1) x) g → ∃ g' z, fX13_least_L74 F g 54 (nI (10 * a + b)) (nI (10 * e + d)) (nI y) (nI 0) (nI (4 * b + 1)) v (-1) (nI i) = some (54, nI (4 * b + 1), v, oN (ffG (fLe0 (sL σ) (tOf (sU σ) (sU σ 0) a b e d) y) i j), g') ∧ eg_eq SB (eg_sI h 61 (4 * b + 1) z) g' := by
  have hP := O.2.1.1.1
  intro j
  induction j with
  | zero =>
    intro i g x F hi2 hF Q
    obtain ⟨F, rfl⟩ : ∃ F', F = F' + 1 := ⟨F - 1, by omega⟩
    obtain rfl : i = 10 := by omega
    refine ⟨g, x, ?_, Q⟩
    rw [fX13_least_L74, if_pos (show nI 0 = 0 from rfl)]
    unfold fX13_least_j88
    rw [if_pos (by decide)]
    rfl
  | succ j ih =>
    intro i g x F hi2 hF Q
    obtain ⟨F, rfl⟩ : ∃ F', F = F' + 1 := ⟨F - 1, by omega⟩
    have sg : eg_stt g := eq_stt Q O.1 (by decide)
    have Q1 := eq_wr (nI i) Q
    have hUi : Uok (upU (sU σ) (4 + (4 * b + 1)) i) (sP σ) (sE σ) := Uok_p O.2.1 hb (by omega) (show i ≤ 9 by omega)
    have O1 : RO (eg_sI g 61 (4 * b + 1) (nI i)) (upU (sU σ) (4 + (4 * b + 1)) i) (sP σ) (sE σ) (sL σ) := RO_B (RO_p O (by omega) hUi) Q1
    obtain ⟨g1, e1, E1⟩ := M_isAll O1 ha hb he hd hy
    have e0 : upU (sU σ) (4 + (4 * b + 1)) i 0 = sU σ 0 := if_neg (by omega)
    have e4 : upU (sU σ) (4 + (4 * b + 1)) i (4 + 4 * a) = sU σ (4 + 4 * a) := if_neg (by omega)
    rw [e0, e4, tOf_arm (by omega)] at e1
    have hcl : (nI (4 * b + 1)).toNatClampNeg = 4 * b + 1 := nI_clamp (by omega)
    have Q2 := eq_tr Q1 E1
    have s1 : eg_stt g1 := eq_stt Q2 O.1 (by decide)
    rw [fX13_least_L74, if_pos (show nI 0 = 0 from rfl)]
    unfold fX13_least_j88
    rw [if_neg (show ¬ (10 : Int32) ≤ nI i from nI_ge (b := 10) (by omega) (by omega)), if_pos rfl, gR_54 sg, rf_54_20 sg, Option.bind_some, wI_61 sg (nI_pos (by omega)) (by rw [hcl]; omega), hcl, Option.bind_some, e1, Option.bind_some]
    dsimp only
    rw [g01, nI_1]
    unfold ffG
    by_cases c : bgd (sL σ) (tArm (tOf (sU σ) (sU σ 0) a b e d) i) y = 2 * sU σ (4 + 4 * a) + 1
    · rw [if_pos c, if_pos (show fLe0 (sL σ) (tOf (sU σ) (sU σ 0) a b e d) y i = true by unfold fLe0; exact decide_eq_true c)]
      refine ⟨g1, nI i, ?_, Q2⟩
      obtain ⟨F, rfl⟩ : ∃ F', F = F' + 1 := ⟨F - 1, by omega⟩
      rw [fX13_least_L74, if_pos (show nI 0 = 0 from rfl)]
      unfold fX13_least_j88
      rw [if_neg (nI_nm1 (by omega))]
      split <;> rfl
    · rw [if_neg c, if_neg (show ¬ fLe0 (sL σ) (tOf (sU σ) (sU σ 0) a b e d) y i = true from fun z => c (of_decide_eq_true z))]
      exact ih (i + 1) g1 (nI i) F (by omega) (by omega) Q2
theorem M_least1_L {a b e d y : Nat} {v : Int32} (O : RO h (sU σ) (sP σ) (sE σ) (sL σ)) (ha : a < sP σ) (hb : b < sP σ) (he : e < sE σ) (hd : d ≤ 1) (hy : y ≤ 60) : ∀ j i g x F, i + j = 6 → j + 1 < F → eg_eq SB (eg_sI h 61 (4 * b + 2) x) g → ∃ g' z, fX13_least_L74 F g 54 (nI (10 * a + b)) (nI (10 * e + d)) (nI y) (nI 1) (nI (4 * b + 2)) v (-1) (nI i) = some (54, nI (4 * b + 2), v, oN (ffG (fLe1 (sL σ) (tOf (sU σ) (sU σ 0) a b e d) y) i j), g') ∧ eg_eq SB (eg_sI h 61 (4 * b + 2) z) g' := by
  have hP := O.2.1.1.1
  intro j
  induction j with
  | zero =>
    intro i g x F hi2 hF Q
    obtain ⟨F, rfl⟩ : ∃ F', F = F' + 1 := ⟨F - 1, by omega⟩
    obtain rfl : i = 6 := by omega
    refine ⟨g, x, ?_, Q⟩
    rw [fX13_least_L74, if_neg (show ¬ nI 1 = 0 by decide)]
    unfold fX13_least_j88
    rw [if_pos (by decide)]
    rfl
  | succ j ih =>
    intro i g x F hi2 hF Q
    obtain ⟨F, rfl⟩ : ∃ F', F = F' + 1 := ⟨F - 1, by omega⟩
    have sg : eg_stt g := eq_stt Q O.1 (by decide)
    have Q1 := eq_wr (nI i) Q
    have hUi : Uok (upU (sU σ) (4 + (4 * b + 2)) i) (sP σ) (sE σ) := Uok_p O.2.1 hb (by omega) (show i ≤ 5 by omega)
    have O1 : RO (eg_sI g 61 (4 * b + 2) (nI i)) (upU (sU σ) (4 + (4 * b + 2)) i) (sP σ) (sE σ) (sL σ) := RO_B (RO_p O (by omega) hUi) Q1
    obtain ⟨g1, e1, E1⟩ := M_isAll O1 ha hb he hd hy
    have e0 : upU (sU σ) (4 + (4 * b + 2)) i 0 = sU σ 0 := if_neg (by omega)
    have e4 : upU (sU σ) (4 + (4 * b + 2)) i (4 + 4 * a) = sU σ (4 + 4 * a) := if_neg (by omega)
    rw [e0, e4, tOf_run (by omega)] at e1
    have hcl : (nI (4 * b + 2)).toNatClampNeg = 4 * b + 2 := nI_clamp (by omega)
    have Q2 := eq_tr Q1 E1
    have s1 : eg_stt g1 := eq_stt Q2 O.1 (by decide)
    rw [fX13_least_L74, if_neg (show ¬ nI 1 = 0 by decide)]
    unfold fX13_least_j88
    rw [if_neg (show ¬ (6 : Int32) ≤ nI i from nI_ge (b := 6) (by omega) (by omega)), if_pos rfl, gR_54 sg, rf_54_20 sg, Option.bind_some, wI_61 sg (nI_pos (by omega)) (by rw [hcl]; omega), hcl, Option.bind_some, e1, Option.bind_some]
    dsimp only
    rw [g01, nI_1]
    unfold ffG
    by_cases c : bgd (sL σ) (tRun (tOf (sU σ) (sU σ 0) a b e d) i) y = 2 * sU σ (4 + 4 * a) + 1
    · rw [if_pos c, if_pos (show fLe1 (sL σ) (tOf (sU σ) (sU σ 0) a b e d) y i = true by unfold fLe1; exact decide_eq_true c)]
      refine ⟨g1, nI i, ?_, Q2⟩
      obtain ⟨F, rfl⟩ : ∃ F', F = F' + 1 := ⟨F - 1, by omega⟩
      rw [fX13_least_L74, if_neg (show ¬ nI 1 = 0 by decide)]
      unfold fX13_least_j88
      rw [if_neg (nI_nm1 (by omega))]
      split <;> rfl
    · rw [if_neg c, if_neg (show ¬ fLe1 (sL σ) (tOf (sU σ) (sU σ 0) a b e d) y i = true from fun z => c (of_decide_eq_true z))]
      exact ih (i + 1) g1 (nI i) F (by omega) (by omega) Q2
theorem M_leastC (R : RI h σ) (two c y w : Int32) : ∃ h', fX13_least h 54 two c y w = some (aLeast σ two c y w, h') ∧ ROk h h' σ := by
  obtain ⟨R0, Q0⟩ := R_0 R
  have hs := R.1
  have s0 := R0.1
  have hP := RI_P R
  unfold fX13_least aLeast
  rw [if_pos (iO_54 hs), pI_54 hs, Option.bind_some]
  rw [M_isTwo s0 R0.2.2.2.1 two, Option.bind_some]
  dsimp only
  rw [g01]
  by_cases c1 : G2 (sP σ) two
  rotate_left
  · rw [if_neg c1, if_neg (fun z => c1 z.1.1.1)]; exact ⟨_, rfl, ROk_scr R Q0⟩
  rw [if_pos c1]
  rw [M_isFrom s0 R0.2.2.2.1 c, Option.bind_some]
  dsimp only
  rw [g01]
  by_cases c2 : GE (sE σ) c
  rotate_left
  · rw [if_neg c2, if_neg (fun z => c2 z.1.1.2)]; exact ⟨_, rfl, ROk_scr R Q0⟩
  rw [if_pos c2]
  rw [M_GI (lo := 1) (hi := 60) _ y (by omega) (by omega) 1 60 rfl rfl, Option.bind_some]
  dsimp only
  rw [g01]
  by_cases c3 : GI (nI 1) (nI 60) y
  rotate_left
  · rw [if_neg c3, if_neg (fun z => c3 z.1.2)]; exact ⟨_, rfl, ROk_scr R Q0⟩
  rw [if_pos c3]
  rw [M_GI (lo := 0) (hi := 1) _ w (by omega) (by omega) 0 1 rfl rfl, Option.bind_some]
  dsimp only
  rw [g01]
  by_cases c5 : GI (nI 0) (nI 1) w
  rotate_left
  · rw [if_neg c5, if_neg (fun z => c5 z.2)]; exact ⟨_, rfl, ROk_scr R Q0⟩
  rw [if_pos c5]
  rw [if_pos (show ((G2 (sP σ) two ∧ GE (sE σ) c) ∧ GI (nI 1) (nI 60) y) ∧ GI (nI 0) (nI 1) w from ⟨⟨⟨c1, c2⟩, c3⟩, c5⟩)]
  obtain ⟨a, b, ha, hb, hab, rfl⟩ := G2_n hP.1 c1
  obtain ⟨e, d, he, hd, rfl⟩ := GE_n hP.2 c2
  obtain ⟨n, n1, n2, rfl⟩ := GI_n (by omega) (by omega) c3
  have O := RI_RO R0 (by omega)
  rw [(i10 a b (by omega) (by omega)).2, tS2_eq (by omega) (by omega) (by omega) (by omega), dN_n (by omega)]
  rcases lt_1 c5.1 c5.2 with rfl | rfl
  · rw [if_pos (show (0 : Int32) = 0 from rfl)]
    have v0 : eg_I (eg_sI h 54 0 0) 61 (4 * b + 1) = nI (sU σ (4 + (4 * b + 1))) := O.2.2.1.2.1 _ (by omega)
    have hcl : (nI (4 * b + 1)).toNatClampNeg = 4 * b + 1 := nI_clamp (by omega)
    obtain ⟨g, z, e1, Q1⟩ := M_least0_L (v := nI (sU σ (4 + (4 * b + 1)))) O ha hb he hd n2 10 0 (eg_sI h 54 0 0) (eg_I (eg_sI h 54 0 0) 61 (4 * b + 1)) eg_F (by omega) (by rw [eg_F_eq]; omega) (by rw [sI_same]; exact eq_rfl)
    have e1' : fX13_least_L74 eg_F (eg_sI h 54 0 0) 54 (nI (10 * a + b)) (nI (10 * e + d)) (nI n) 0 (nI (4 * b + 1)) (nI (sU σ (4 + (4 * b + 1)))) (-1) 0 = _ := e1
    have Qb := eq_back Q1
    have sg : eg_stt g := eq_stt Q1 s0 (by decide)
    have ep : (4 : Int32) * nI b + 1 + 0 = nI (4 * b + 1) := by rw [nI_k4, nI_1, show (0 : Int32) = nI 0 from rfl, nI_add]
    refine ⟨eg_sI g 61 (4 * b + 1) (nI (sU σ (4 + (4 * b + 1)))), ?_, ROk_scr R (eq_tr Q0 (SB_x (by rw [← v0]; exact Qb)))⟩
    rw [ep, Option.bind_some, gR_54 s0, rf_54_20 s0, Option.bind_some, R_per O (by omega), Option.bind_some, e1', Option.bind_some]
    dsimp only
    rw [gR_54 sg, rf_54_20 sg, Option.bind_some, wI_61 sg (nI_pos (by omega)) (by rw [hcl]; omega), hcl, Option.bind_some]
  · rw [if_neg (show ¬ (1 : Int32) = 0 by decide)]
    have v0 : eg_I (eg_sI h 54 0 0) 61 (4 * b + 2) = nI (sU σ (4 + (4 * b + 2))) := O.2.2.1.2.1 _ (by omega)
    have hcl : (nI (4 * b + 2)).toNatClampNeg = 4 * b + 2 := nI_clamp (by omega)
    obtain ⟨g, z, e1, Q1⟩ := M_least1_L (v := nI (sU σ (4 + (4 * b + 2)))) O ha hb he hd n2 6 0 (eg_sI h 54 0 0) (eg_I (eg_sI h 54 0 0) 61 (4 * b + 2)) eg_F (by omega) (by rw [eg_F_eq]; omega) (by rw [sI_same]; exact eq_rfl)
    have e1' : fX13_least_L74 eg_F (eg_sI h 54 0 0) 54 (nI (10 * a + b)) (nI (10 * e + d)) (nI n) 1 (nI (4 * b + 2)) (nI (sU σ (4 + (4 * b + 2)))) (-1) 0 = _ := e1
    have Qb := eq_back Q1
    have sg : eg_stt g := eq_stt Q1 s0 (by decide)
    have ep : (4 : Int32) * nI b + 1 + 1 = nI (4 * b + 2) := by rw [nI_k4, nI_1, show (1 : Int32) = nI 1 from rfl, nI_add]
    refine ⟨eg_sI g 61 (4 * b + 2) (nI (sU σ (4 + (4 * b + 2)))), ?_, ROk_scr R (eq_tr Q0 (SB_x (by rw [← v0]; exact Qb)))⟩
    rw [ep, Option.bind_some, gR_54 s0, rf_54_20 s0, Option.bind_some, R_per O (by omega), Option.bind_some, e1', Option.bind_some]
    dsimp only
    rw [gR_54 sg, rf_54_20 sg, Option.bind_some, wI_61 sg (nI_pos (by omega)) (by rw [hcl]; omega), hcl, Option.bind_some]
theorem sp_i (s : Nat) : iI ((s : Int) - 1) = if s = 0 then -1 else nI (s - 1) := by
  by_cases c : s = 0
  · subst c; rw [if_pos rfl]; decide
  · rw [if_neg c, ← iI_n]
    congr 1
    omega
theorem X_spare_L {a b d y : Nat} (ha : a < sP σ) (hb : b < sP σ) (hd : d ≤ 1) (hy : y ≤ 60) : ∀ j i h F, i + j = sE σ → j < F → XI h σ B → ∃ h', fX12_spare_L33 F h 16 (nI (10 * a + b)) (nI d) (nI y) (iI ((spF σ a b d y i : Int) - 1)) (nI i) = some (iI ((spF σ a b d y (sE σ) : Int) - 1), h') ∧ XOk h h' σ B := by
  intro j
  induction j with
  | zero =>
    intro i h F hi hF X
    obtain ⟨F, rfl⟩ : ∃ F', F = F' + 1 := ⟨F - 1, by omega⟩
    have hs := X.2.2.1.1
    have hE := (XI_P X).2
    obtain rfl : i = sE σ := by omega
    refine ⟨h, ?_, XOk_rfl X⟩
    rw [fX12_spare_L33, gR_16 hs, rf_16_3 hs, Option.bind_some, X_eggs X, Option.bind_some]
    dsimp only
    rw [if_pos (nI_le (Nat.le_refl _) (by omega))]
  | succ j ih =>
    intro i h F hi hF X
    obtain ⟨F, rfl⟩ : ∃ F', F = F' + 1 := ⟨F - 1, by omega⟩
    have C := X.2.2.1
    have hs := C.1
    have hE := (XI_P X).2
    have hU := XI_U X (by omega)
    have hle := spF_le σ a b d y i
    obtain ⟨h1, e1, O1⟩ := X_sure X ha hb (e := i) (by omega) hd hy
    have j75 : (spF σ a b d y i = 0 ∨ limU (sU σ) i < limU (sU σ) (spF σ a b d y i - 1)) → ∃ h', fX12_spare_j75 (fX12_spare_L33 F) h 16 (nI (10 * a + b)) (nI d) (nI y) (iI ((spF σ a b d y i : Int) - 1)) (nI i) = some (iI ((spF σ a b d y (sE σ) : Int) - 1), h') ∧ XOk h h' σ B := by
      intro hc
      obtain ⟨h2, e3, O2⟩ := ih (i + 1) h1 F (by omega) (by omega) O1.1
      refine ⟨h2, ?_, XOk_tr O1 O2⟩
      unfold fX12_spare_j75
      rw [k10, e1, Option.bind_some]
      dsimp only
      rw [g01, nI_1]
      rw [spF] at e3
      by_cases c : sureB σ a b i d y = true
      · rw [if_pos ⟨hc, c⟩] at e3
        rw [if_pos c, ← e3]
        congr 1
        rw [← iI_n]
        congr 1
        omega
      · rw [if_neg (fun z => c z.2)] at e3
        rw [if_neg c]
        exact e3
    rw [fX12_spare_L33, gR_16 hs, rf_16_3 hs, Option.bind_some, X_eggs X, Option.bind_some]
    dsimp only
    rw [if_neg (nI_ge (by omega) (by omega))]
    by_cases c0 : spF σ a b d y i = 0
    · rw [if_pos (by rw [c0]; decide)]
      exact j75 (Or.inl c0)
    · have es : iI ((spF σ a b d y i : Int) - 1) = nI (spF σ a b d y i - 1) := by rw [sp_i, if_neg c0]
      have l1 : limU (sU σ) i ≤ 99 := (tOf_ok (d := 0) hU hU.1.2.2.1 ha hb (e := i) (by omega)).2.2.2.2.2.2
      have l2 : limU (sU σ) (spF σ a b d y i - 1) ≤ 99 := (tOf_ok (d := 0) hU hU.1.2.2.1 ha hb (e := spF σ a b d y i - 1) (by omega)).2.2.2.2.2.2
      rw [if_neg (by rw [es]; exact nI_nm1 (by omega)), gR_16 hs, rf_16_3 hs, Option.bind_some, X_limit hs C.2.1 hU (e := i) (by omega), Option.bind_some]
      dsimp only
      rw [gR_16 hs, rf_16_3 hs, Option.bind_some]
      have el : fX7_limit h 23 (iI ((spF σ a b d y i : Int) - 1)) = some (nI (limU (sU σ) (spF σ a b d y i - 1)), h) := by
        rw [es]; exact X_limit hs C.2.1 hU (by omega)
      rw [el, Option.bind_some]
      dsimp only
      by_cases c1 : limU (sU σ) i < limU (sU σ) (spF σ a b d y i - 1)
      · rw [if_pos (nI_lt c1 (by omega))]
        exact j75 (Or.inr c1)
      · rw [if_neg (nI_nlt (by omega) (by omega)), nI_1]
        obtain ⟨h2, e3, O2⟩ := ih (i + 1) h F (by omega) (by omega) X
        refine ⟨h2, ?_, O2⟩
        rw [spF, if_neg (fun z => z.1.elim c0 c1)] at e3
        exact e3
theorem X_spare (X : XI h σ B) (two t y : Int32) : ∃ h', fX12_spare h 16 two t y = some (aSpare σ two t y, h') ∧ XOk h h' σ B := by
  have C := X.2.2.1
  have hs := C.1
  have hP := XI_P X
  unfold fX12_spare aSpare
  rw [if_pos (iO_16 hs), gR_16 hs, rf_16_3 hs, Option.bind_some]
  rw [X_isPair hs C.2.1 two, Option.bind_some]
  dsimp only
  rw [g01]
  by_cases c1 : G2 (sP σ) two
  rotate_left
  · rw [if_neg c1, if_neg (fun z => c1 z.1.1)]; exact ⟨h, rfl, XOk_rfl X⟩
  rw [if_pos c1]
  rw [X_isEnd h t, Option.bind_some]
  dsimp only
  rw [g01]
  by_cases c2 : GI (nI 0) (nI 1) t
  rotate_left
  · rw [if_neg c2, if_neg (fun z => c2 z.1.2)]; exact ⟨h, rfl, XOk_rfl X⟩
  rw [if_pos c2]
  rw [X_isYards h y, Option.bind_some]
  dsimp only
  rw [g01]
  by_cases c3 : GI (nI 1) (nI 60) y
  rotate_left
  · rw [if_neg c3, if_neg (fun z => c3 z.2)]; exact ⟨h, rfl, XOk_rfl X⟩
  rw [if_pos c3]
  rw [if_pos (show (G2 (sP σ) two ∧ GI (nI 0) (nI 1) t) ∧ GI (nI 1) (nI 60) y from ⟨⟨c1, c2⟩, c3⟩)]
  obtain ⟨a, b, ha, hb, hab, rfl⟩ := G2_n hP.1 c1
  obtain ⟨d, d1, d2, rfl⟩ := GI_n (by omega) (by omega) c2
  obtain ⟨n, n1, n2, rfl⟩ := GI_n (by omega) (by omega) c3
  obtain ⟨h', e1, O1⟩ := X_spare_L ha hb d2 n2 (sE σ) 0 h eg_F (by omega) (by rw [eg_F_eq]; omega) X
  have e1' : fX12_spare_L33 eg_F h 16 (nI (10 * a + b)) (nI d) (nI n) (-1) 0 = _ := e1
  refine ⟨h', ?_, O1⟩
  rw [e1', Option.bind_some, (dAB (a := a) (b := b) (by omega) (by omega)).1, (dAB (a := a) (b := b) (by omega) (by omega)).2, dN_n (by omega), dN_n (by omega)]
theorem M_spare_L {a b d y : Nat} (ha : a < sP σ) (hb : b < sP σ) (hd : d ≤ 1) (hy : y ≤ 60) : ∀ j i h F, i + j = sE σ → j < F → RI h σ → ∃ h', fX13_spare_L46 F h 54 (nI (10 * a + b)) (nI d) (nI y) (iI ((spF σ a b d y i : Int) - 1)) (if spF σ a b d y i = 0 then 0 else nI (limU (sU σ) (spF σ a b d y i - 1))) (nI i) = some (iI ((spF σ a b d y (sE σ) : Int) - 1), h') ∧ ROk h h' σ := by
  intro j
  induction j with
  | zero =>
    intro i h F hi hF R
    obtain ⟨F, rfl⟩ : ∃ F', F = F' + 1 := ⟨F - 1, by omega⟩
    have hs := R.1
    have hE := (RI_P R).2
    obtain rfl : i = sE σ := by omega
    refine ⟨h, ?_, R, rfl, fun _ _ _ => ⟨rfl, rfl, rfl⟩⟩
    rw [fX13_spare_L46, gI_54 hs, Option.bind_some, R.2.2.2.1.2.2.2.2, if_pos (nI_le (Nat.le_refl _) (by omega))]
  | succ j ih =>
    intro i h F hi hF R
    obtain ⟨F, rfl⟩ : ∃ F', F = F' + 1 := ⟨F - 1, by omega⟩
    have hs := R.1
    have hE := (RI_P R).2
    have O := RI_RO R (by omega)
    have hU := O.2.1
    have hle := spF_le σ a b d y i
    have l1 : limU (sU σ) i ≤ 99 := (tOf_ok (d := 0) hU hU.1.2.2.1 ha hb (e := i) (by omega)).2.2.2.2.2.2
    obtain ⟨h1, e1, E1⟩ := M_isAll O ha hb (e := i) (by omega) hd hy
    have O1 := ROk_scr R (SB_x E1)
    have j108 : ∀ x : Int32, x = nI (limU (sU σ) i) → (spF σ a b d y i = 0 ∨ limU (sU σ) i < limU (sU σ) (spF σ a b d y i - 1)) → ∃ h', fX13_spare_j108 (fX13_spare_L46 F) h 54 (nI (10 * a + b)) (nI d) (nI y) (iI ((spF σ a b d y i : Int) - 1)) (if spF σ a b d y i = 0 then 0 else nI (limU (sU σ) (spF σ a b d y i - 1))) (nI i) x = some (iI ((spF σ a b d y (sE σ) : Int) - 1), h') ∧ ROk h h' σ := by
      intro x hx hc
      obtain ⟨h2, e3, O2⟩ := ih (i + 1) h1 F (by omega) (by omega) O1.1
      refine ⟨h2, ?_, ROk_tr O1 O2⟩
      unfold fX13_spare_j108
      rw [k10, e1, Option.bind_some]
      dsimp only
      rw [g01, nI_1]
      rw [spF] at e3
      by_cases c : bgd (sL σ) (tOf (sU σ) (sU σ 0) a b i d) y = 2 * sU σ (4 + 4 * a) + 1
      · have cs : sureB σ a b i d y = true := decide_eq_true c
        rw [if_pos ⟨hc, cs⟩, if_neg (by omega)] at e3
        rw [if_pos c, ← e3, hx]
        congr 1
        rw [← iI_n]
        congr 1
        omega
      · have cs : ¬ sureB σ a b i d y = true := fun z => c (of_decide_eq_true z)
        rw [if_neg (fun z => cs z.2)] at e3
        rw [if_neg c]
        exact e3
    have j93 : ∀ x : Int32, x = nI (limU (sU σ) i) → ∃ h', fX13_spare_j93 (fX13_spare_L46 F) h 54 (nI (10 * a + b)) (nI d) (nI y) (iI ((spF σ a b d y i : Int) - 1)) (if spF σ a b d y i = 0 then 0 else nI (limU (sU σ) (spF σ a b d y i - 1))) (nI i) x = some (iI ((spF σ a b d y (sE σ) : Int) - 1), h') ∧ ROk h h' σ := by
      intro x hx
      unfold fX13_spare_j93
      by_cases c0 : spF σ a b d y i = 0
      · rw [if_pos (show iI ((spF σ a b d y i : Int) - 1) = -1 by rw [c0]; decide)]
        exact j108 x hx (Or.inl c0)
      · have l2 : limU (sU σ) (spF σ a b d y i - 1) ≤ 99 := (tOf_ok (d := 0) hU hU.1.2.2.1 ha hb (e := spF σ a b d y i - 1) (by omega)).2.2.2.2.2.2
        rw [if_neg (show ¬ iI ((spF σ a b d y i : Int) - 1) = -1 by rw [sp_i, if_neg c0]; exact nI_nm1 (by omega))]
        by_cases c1 : limU (sU σ) i < limU (sU σ) (spF σ a b d y i - 1)
        · rw [if_neg (show ¬ (if spF σ a b d y i = 0 then 0 else nI (limU (sU σ) (spF σ a b d y i - 1))) ≤ x by rw [if_neg c0, hx]; exact nI_ge c1 (by omega))]
          exact j108 x hx (Or.inr c1)
        · rw [if_pos (show (if spF σ a b d y i = 0 then 0 else nI (limU (sU σ) (spF σ a b d y i - 1))) ≤ x by rw [if_neg c0, hx]; exact nI_le (by omega) (by omega)), nI_1]
          obtain ⟨h2, e3, O2⟩ := ih (i + 1) h F (by omega) (by omega) R
          refine ⟨h2, ?_, O2⟩
          rw [spF, if_neg (fun z => z.1.elim c0 c1)] at e3
          exact e3
    have hc1 := (hU.2.2 i (by omega)).2.1
    have hc2 := (hU.2.2 i (by omega)).2.2
    rw [fX13_spare_L46, gI_54 hs, Option.bind_some, R.2.2.2.1.2.2.2.2, if_neg (nI_ge (by omega) (by omega)), gR_54 hs, rf_54_22 hs, Option.bind_some, nI_k2, nI_1, R_egg O (by omega), Option.bind_some, show 28 + (2 * i + 1) = 29 + 2 * i by omega]
    by_cases cc : sU σ (29 + 2 * i) = 1
    · rw [if_pos (show nI (sU σ (29 + 2 * i)) = 1 by rw [cc]; rfl), Option.bind_some, R_egg O (by omega), Option.bind_some, nI_half (by omega)]
      exact j93 _ (by unfold limU; rw [if_pos cc])
    · rw [if_neg (show ¬ nI (sU σ (29 + 2 * i)) = 1 from fun z => cc ((nI_eq (b := 1) (by omega) (by omega)).mp z)), Option.bind_some, R_egg O (by omega), Option.bind_some]
      exact j93 _ (by unfold limU; rw [if_neg cc])
theorem M_spare (R : RI h σ) (two t y : Int32) : ∃ h', fX13_spare h 54 two t y = some (aSpare σ two t y, h') ∧ ROk h h' σ := by
  obtain ⟨R0, Q0⟩ := R_0 R
  have hs := R.1
  have s0 := R0.1
  have hP := RI_P R
  unfold fX13_spare aSpare
  rw [if_pos (iO_54 hs), pI_54 hs, Option.bind_some]
  rw [M_isTwo s0 R0.2.2.2.1 two, Option.bind_some]
  dsimp only
  rw [g01]
  by_cases c1 : G2 (sP σ) two
  rotate_left
  · rw [if_neg c1, if_neg (fun z => c1 z.1.1)]; exact ⟨_, rfl, ROk_scr R Q0⟩
  rw [if_pos c1]
  rw [M_GI (lo := 0) (hi := 1) _ t (by omega) (by omega) 0 1 rfl rfl, Option.bind_some]
  dsimp only
  rw [g01]
  by_cases c2 : GI (nI 0) (nI 1) t
  rotate_left
  · rw [if_neg c2, if_neg (fun z => c2 z.1.2)]; exact ⟨_, rfl, ROk_scr R Q0⟩
  rw [if_pos c2]
  rw [M_GI (lo := 1) (hi := 60) _ y (by omega) (by omega) 1 60 rfl rfl, Option.bind_some]
  dsimp only
  rw [g01]
  by_cases c3 : GI (nI 1) (nI 60) y
  rotate_left
  · rw [if_neg c3, if_neg (fun z => c3 z.2)]; exact ⟨_, rfl, ROk_scr R Q0⟩
  rw [if_pos c3]
  rw [if_pos (show (G2 (sP σ) two ∧ GI (nI 0) (nI 1) t) ∧ GI (nI 1) (nI 60) y from ⟨⟨c1, c2⟩, c3⟩)]
  obtain ⟨a, b, ha, hb, hab, rfl⟩ := G2_n hP.1 c1
  obtain ⟨d, d1, d2, rfl⟩ := GI_n (by omega) (by omega) c2
  obtain ⟨n, n1, n2, rfl⟩ := GI_n (by omega) (by omega) c3
  obtain ⟨h', e1, O1⟩ := M_spare_L ha hb d2 n2 (sE σ) 0 (eg_sI h 54 0 0) eg_F (by omega) (by rw [eg_F_eq]; omega) R0
  have e1' : fX13_spare_L46 eg_F (eg_sI h 54 0 0) 54 (nI (10 * a + b)) (nI d) (nI n) (-1) 0 0 = _ := e1
  refine ⟨h', ?_, ROk_tr (ROk_scr R Q0) O1⟩
  rw [e1', Option.bind_some, (dAB (a := a) (b := b) (by omega) (by omega)).1, (dAB (a := a) (b := b) (by omega) (by omega)).2, dN_n (by omega), dN_n (by omega)]
end LE
def laim (k : Nat) : Int := if k % 2 = 1 then -(((k + 1) / 2 : Nat) : Int) else ((k / 2 : Nat) : Int)
def mI (G : Nat → Nat) (i : Nat) : Int32 := if i = 0 then -1 else nI (G (bi G i))
def lI (A : Nat → Int) (G : Nat → Nat) (i : Nat) : Int32 := if i = 0 then 0 else iI (A (bi G i))
theorem mI_le {G : Nat → Nat} (hG : ∀ k, G k ≤ 2000000000) (i : Nat) : (nI (G i) ≤ mI G i) ↔ ¬ (i = 0 ∨ G (bi G i) < G i) := by
  have h1 := hG i
  have h2 := hG (bi G i)
  unfold mI
  by_cases c : i = 0
  · rw [if_pos c, ← iI_n, show (-1 : Int32) = iI (-1) by decide, iI_le (by unfold i3; omega) (by unfold i3; omega)]
    constructor
    · intro z; omega
    · intro z; exact absurd (Or.inl c) z
  · rw [if_neg c, ← iI_n, ← iI_n, iI_le (by unfold i3; omega) (by unfold i3; omega)]
    constructor <;> intro z <;> omega
theorem mI_s {G : Nat → Nat} (hG : ∀ k, G k ≤ 2000000000) (i : Nat) : mI G (i + 1) = if nI (G i) ≤ mI G i then mI G i else nI (G i) := by
  have e : mI G (i + 1) = nI (G (bi G (i + 1))) := if_neg (by omega)
  rw [e, bi_up]
  by_cases c : i = 0 ∨ G (bi G i) < G i
  · rw [if_pos c, if_neg (fun z => (mI_le hG i).mp z c)]
  · rw [if_neg c, if_pos ((mI_le hG i).mpr c)]
    unfold mI
    rw [if_neg (fun z => c (Or.inl z))]
theorem lI_s {G : Nat → Nat} (A : Nat → Int) (hG : ∀ k, G k ≤ 2000000000) (i : Nat) : lI A G (i + 1) = if nI (G i) ≤ mI G i then lI A G i else iI (A i) := by
  have e : lI A G (i + 1) = iI (A (bi G (i + 1))) := if_neg (by omega)
  rw [e, bi_up]
  by_cases c : i = 0 ∨ G (bi G i) < G i
  · rw [if_pos c, if_neg (fun z => (mI_le hG i).mp z c)]
  · rw [if_neg c, if_pos ((mI_le hG i).mpr c)]
    unfold lI
    rw [if_neg (fun z => c (Or.inl z))]
theorem la_k : ∀ i, i < 11 → (nI i % 2 = 0 → nI i / 2 = iI (laim i)) ∧ (¬ nI i % 2 = 0 → -(nI i + 1) / 2 = iI (laim i)) ∧ (nI i % 2 = 1 → -(nI i + 1) / 2 = iI (laim i)) ∧ (¬ nI i % 2 = 1 → nI i / 2 = iI (laim i)) ∧ -5 ≤ laim i ∧ laim i ≤ 5 := by decide +kernel
def gLf (lw : eg_LW) (T : eg_TT) (y b : Nat) : Nat → Nat := fun k => gd lw T y b (laim k)
def aLoft (σ : eg_S) (two c y b w : Int32) : Int32 := if (((G2 (sP σ) two ∧ GE (sE σ) c) ∧ GI (nI 1) (nI 60) y) ∧ GI (nI 0) (nI 1) w) ∧ GI (nI 0) (nI (sU σ (7 + 4 * dA two))) b then (if w = 0 then iI (laim (bi (gLf (sL σ) (tS2 σ two c) (dN y) (dN b)) 11)) else nI (gLf (sL σ) (tS2 σ two c) (dN y) (dN b) (bi (gLf (sL σ) (tS2 σ two c) (dN y) (dN b)) 11))) else -1000000
section LF
variable {h : eg_H} {σ : eg_S} {B : Nat × Nat}
theorem X_loft_L {T : eg_TT} {y b : Nat} {w : Int32} (O : XO h T (eg_P h 36 2) (sL σ)) (hb : b ≤ 9) : ∀ j i F, i + j = 11 → j < F → fX12_loft_L82 F h 16 (nI b) w (nI (hM (sL σ) T y b)) (mI (gLf (sL σ) T y b) i) (lI laim (gLf (sL σ) T y b) i) (nI i) = some (w, mI (gLf (sL σ) T y b) 11, lI laim (gLf (sL σ) T y b) 11, h) := by
  have hS : tS T ≤ 5 := O.2.1.1
  have hG : ∀ k, gLf (sL σ) T y b k ≤ 2000000000 := fun k => by
    have : gLf (sL σ) T y b k ≤ 2 * tS T + 1 := gd_le _ _ _ _ _
    omega
  have hs := O.1
  intro j
  induction j with
  | zero =>
    intro i F hi hF
    obtain ⟨F, rfl⟩ : ∃ F', F = F' + 1 := ⟨F - 1, by omega⟩
    obtain rfl : i = 11 := by omega
    rw [fX12_loft_L82, if_pos (by decide)]
  | succ j ih =>
    intro i F hi hF
    obtain ⟨F, rfl⟩ : ∃ F', F = F' + 1 := ⟨F - 1, by omega⟩
    have e3 := ih (i + 1) F (by omega) (by omega)
    rw [mI_s hG, lI_s laim hG] at e3
    obtain ⟨q1, q2, q3, q4, q5, q6⟩ := la_k i (by omega)
    have hj : fX12_loft_j110 (fX12_loft_L82 F) h 16 (nI b) w (nI (hM (sL σ) T y b)) (mI (gLf (sL σ) T y b) i) (lI laim (gLf (sL σ) T y b) i) (nI i) (iI (laim i)) = some (w, mI (gLf (sL σ) T y b) 11, lI laim (gLf (sL σ) T y b) 11, h) := by
      unfold fX12_loft_j110
      rw [gR_16 hs, rf_16_15 hs, Option.bind_some, X_goodOf O hb ⟨q5, q6⟩, Option.bind_some]
      dsimp only
      rw [nI_1]
      show (if nI (gLf (sL σ) T y b i) ≤ _ then _ else _) = _
      by_cases c : nI (gLf (sL σ) T y b i) ≤ mI (gLf (sL σ) T y b) i
      · rw [if_pos c, if_pos c] at e3
        rw [if_pos c]
        exact e3
      · rw [if_neg c, if_neg c] at e3
        rw [if_neg c]
        exact e3
    rw [fX12_loft_L82, if_neg (show ¬ (10 : Int32) < nI i from nI_nlt (a := 10) (by omega) (by omega))]
    by_cases c : nI i % 2 = 0
    · rw [if_pos c, q1 c]; exact hj
    · rw [if_neg c, q2 c]; exact hj
theorem X_loft (X : XI h σ B) (two c y b w : Int32) : ∃ h', fX12_loft h 16 two c y b w = some (aLoft σ two c y b w, h') ∧ XOk h h' σ B := by
  have C := X.2.2.1
  have hs := C.1
  have hP := XI_P X
  unfold fX12_loft aLoft
  rw [if_pos (iO_16 hs)]
  rw [X_isThrow hs C.2.1 two c y, Option.bind_some]
  dsimp only
  rw [g01]
  by_cases c1 : (G2 (sP σ) two ∧ GE (sE σ) c) ∧ GI (nI 1) (nI 60) y
  rotate_left
  · rw [if_neg c1, if_neg (fun z => c1 z.1.1)]; exact ⟨h, rfl, XOk_rfl X⟩
  rw [if_pos c1]
  by_cases c3 : GI (nI 0) (nI 1) w
  rotate_left
  · by_cases c99 : w < 0
    · rw [if_pos c99, if_neg (fun z => c3 z.1.2)]; exact ⟨h, rfl, XOk_rfl X⟩
    · rw [if_neg c99, if_neg (show ¬ w ≤ (1 : Int32) from fun z => c3 ⟨c99, Int32.not_lt.mpr z⟩), if_neg (fun z => c3 z.1.2)]; exact ⟨h, rfl, XOk_rfl X⟩
  rw [if_neg (show ¬ w < 0 from c3.1), if_pos (show w ≤ (1 : Int32) from Int32.not_lt.mp c3.2)]
  obtain ⟨a, q, ha, hq, haq, rfl⟩ := G2_n hP.1 c1.1.1
  obtain ⟨e, d, he, hd, rfl⟩ := GE_n hP.2 c1.1.2
  obtain ⟨n, n1, n2, rfl⟩ := GI_n (by omega) (by omega) c1.2
  have hU := XI_U X (by omega)
  obtain ⟨h1, e1, X1, G1'⟩ := X_lay X ha hq he hd
  have hH : sU σ (7 + 4 * a) ≤ 9 := (hU.2.1 a ha).2.2.2
  have e0 : fX7_told h 23 0 = some (nI (sU σ 0), h) := X_told hs C.2.1 (x := 0) (by omega)
  have s1 := X1.2.1
  have t2 : eg_I h1 36 4 = nI (sU σ (7 + 4 * a)) := X1.2.2.2.2.1.2.1
  rw [gR_16 hs, rf_16_15 hs, Option.bind_some, gR_16 hs, rf_16_3 hs, Option.bind_some, e0, Option.bind_some, (dAB (a := a) (b := q) (by omega) (by omega)).1]
  dsimp only
  rw [e1, Option.bind_some]
  by_cases c9 : b < 0
  · rw [if_pos c9, if_neg (fun z => z.2.1 c9)]; exact ⟨h1, rfl, XTL_ok X1 G1'⟩
  rw [if_neg c9, gR_16 s1, rf_16_15 s1, Option.bind_some]
  unfold fX11_highest
  rw [if_pos (iO_36 s1), gI_36 s1, Option.bind_some, Option.bind_some, t2]
  dsimp only
  by_cases c5 : b ≤ nI (sU σ (7 + 4 * a))
  rotate_left
  · rw [if_neg c5, if_neg (fun z => c5 (Int32.not_lt.mp z.2.2))]; exact ⟨h1, rfl, XTL_ok X1 G1'⟩
  have c6 : GI (nI 0) (nI (sU σ (7 + 4 * a))) b := ⟨c9, Int32.not_lt.mpr c5⟩
  rw [if_pos c5, if_pos (show (((G2 (sP σ) (nI (10 * a + q)) ∧ GE (sE σ) (nI (10 * e + d))) ∧ GI (nI 1) (nI 60) (nI n)) ∧ GI (nI 0) (nI 1) w) ∧ GI (nI 0) (nI (sU σ (7 + 4 * a))) b from ⟨⟨c1, c3⟩, c6⟩)]
  obtain ⟨m, m1, m2, rfl⟩ := GI_n (by omega) (by omega) c6
  obtain ⟨h2, e2, X2, G2'⟩ := XTL_wholes (y := n) X1 n2 (b := m) (by omega)
  have e3 := X_loft_L (y := n) (b := m) (w := w) X2.2 (by omega) 11 0 eg_F (by omega) (by rw [eg_F_eq]; omega)
  have e3' : fX12_loft_L82 eg_F h2 16 (nI m) w (nI (hM (sL σ) (tOf (sU σ) (sU σ 0) a q e d) n m)) (-1) 0 0 = _ := e3
  refine ⟨h2, ?_, X2.1, gc_tr G1' G2'⟩
  rw [gR_16 s1, rf_16_15 s1, Option.bind_some, e2, Option.bind_some]
  dsimp only
  rw [e3', Option.bind_some, tS2_eq (by omega) (by omega) (by omega) (by omega), dN_n (by omega), dN_n (by omega)]
  dsimp only
  by_cases w0 : w = 0
  · rw [if_pos w0, if_pos w0]; rfl
  · rw [if_neg w0, if_neg w0]; rfl
theorem M_loft_L {a b e d y m : Nat} {w : Int32} (O : RO h (sU σ) (sP σ) (sE σ) (sL σ)) (ha : a < sP σ) (hb : b < sP σ) (he : e < sE σ) (hd : d ≤ 1) (hm : m ≤ 9) (H : HLn h (sL σ) (tOf (sU σ) (sU σ 0) a b e d) y m 11) : ∀ j i F, i + j = 11 → j < F → fX13_loft_L93 F h 54 (nI (10 * a + b)) (nI (10 * e + d)) (nI m) w (lI laim (gLf (sL σ) (tOf (sU σ) (sU σ 0) a b e d) y m) i) (mI (gLf (sL σ) (tOf (sU σ) (sU σ 0) a b e d) y m) i) (nI i) = some (w, lI laim (gLf (sL σ) (tOf (sU σ) (sU σ 0) a b e d) y m) 11, mI (gLf (sL σ) (tOf (sU σ) (sU σ 0) a b e d) y m) 11, h) := by
  have hP := O.2.1.1
  have hS : tS (tOf (sU σ) (sU σ 0) a b e d) ≤ 5 := (O.2.1.2.1 a ha).1
  have hG : ∀ k, gLf (sL σ) (tOf (sU σ) (sU σ 0) a b e d) y m k ≤ 2000000000 := fun k => by
    have : gLf (sL σ) (tOf (sU σ) (sU σ 0) a b e d) y m k ≤ 2 * tS (tOf (sU σ) (sU σ 0) a b e d) + 1 := gd_le _ _ _ _ _
    omega
  intro j
  induction j with
  | zero =>
    intro i F hi hF
    obtain ⟨F, rfl⟩ : ∃ F', F = F' + 1 := ⟨F - 1, by omega⟩
    obtain rfl : i = 11 := by omega
    rw [fX13_loft_L93, if_pos (by decide)]
  | succ j ih =>
    intro i F hi hF
    obtain ⟨F, rfl⟩ : ∃ F', F = F' + 1 := ⟨F - 1, by omega⟩
    have e3 := ih (i + 1) F (by omega) (by omega)
    rw [mI_s hG, lI_s laim hG] at e3
    obtain ⟨q1, q2, q3, q4, q5, q6⟩ := la_k i (by omega)
    have hj : fX13_loft_j122 (fX13_loft_L93 F) h 54 (nI (10 * a + b)) (nI (10 * e + d)) (nI m) w (lI laim (gLf (sL σ) (tOf (sU σ) (sU σ 0) a b e d) y m) i) (mI (gLf (sL σ) (tOf (sU σ) (sU σ 0) a b e d) y m) i) (nI i) (iI (laim i)) = some (w, lI laim (gLf (sL σ) (tOf (sU σ) (sU σ 0) a b e d) y m) 11, mI (gLf (sL σ) (tOf (sU σ) (sU σ 0) a b e d) y m) 11, h) := by
      unfold fX13_loft_j122
      rw [(i10 a b (by omega) (by omega)).1, (i10 e d (by omega) (by omega)).2, M_goodBy O ha hb he hd hm ⟨q5, q6⟩ H, Option.bind_some]
      dsimp only
      rw [nI_1]
      show (if _ < nI (gLf (sL σ) (tOf (sU σ) (sU σ 0) a b e d) y m i) then _ else _) = _
      by_cases c : nI (gLf (sL σ) (tOf (sU σ) (sU σ 0) a b e d) y m i) ≤ mI (gLf (sL σ) (tOf (sU σ) (sU σ 0) a b e d) y m) i
      · rw [if_pos c, if_pos c] at e3
        rw [if_neg (Int32.not_lt.mpr c)]
        exact e3
      · rw [if_neg c, if_neg c] at e3
        rw [if_pos (Int32.not_le.mp c)]
        exact e3
    rw [fX13_loft_L93, if_neg (show ¬ (10 : Int32) < nI i from nI_nlt (a := 10) (by omega) (by omega))]
    by_cases c : nI i % 2 = 1
    · rw [if_pos c, q3 c]; exact hj
    · rw [if_neg c, q4 c]; exact hj
theorem M_loft (R : RI h σ) (two c y b w : Int32) : ∃ h', fX13_loft h 54 two c y b w = some (aLoft σ two c y b w, h') ∧ ROk h h' σ := by
  obtain ⟨R0, Q0⟩ := R_0 R
  have hs := R.1
  have s0 := R0.1
  have hP := RI_P R
  unfold fX13_loft aLoft
  rw [if_pos (iO_54 hs), pI_54 hs, Option.bind_some]
  rw [M_isTwo s0 R0.2.2.2.1 two, Option.bind_some]
  dsimp only
  rw [g01]
  by_cases c1 : G2 (sP σ) two
  rotate_left
  · rw [if_neg c1, if_neg (fun z => c1 z.1.1.1.1)]; exact ⟨_, rfl, ROk_scr R Q0⟩
  rw [if_pos c1]
  rw [M_isFrom s0 R0.2.2.2.1 c, Option.bind_some]
  dsimp only
  rw [g01]
  by_cases c2 : GE (sE σ) c
  rotate_left
  · rw [if_neg c2, if_neg (fun z => c2 z.1.1.1.2)]; exact ⟨_, rfl, ROk_scr R Q0⟩
  rw [if_pos c2]
  rw [M_GI (lo := 1) (hi := 60) _ y (by omega) (by omega) 1 60 rfl rfl, Option.bind_some]
  dsimp only
  rw [g01]
  by_cases c3 : GI (nI 1) (nI 60) y
  rotate_left
  · rw [if_neg c3, if_neg (fun z => c3 z.1.1.2)]; exact ⟨_, rfl, ROk_scr R Q0⟩
  rw [if_pos c3]
  obtain ⟨a, q, ha, hq, haq, rfl⟩ := G2_n hP.1 c1
  have O := RI_RO R0 (by omega)
  have hH := (O.2.1.2.1 a ha).2.2.2
  have e4 : (4 : Int32) * (nI (10 * a + q) / 10) + 3 = nI (4 * a + 3) := by rw [(i10 a q (by omega) (by omega)).1, nI_k4, show (3 : Int32) = nI 3 from rfl, nI_add]
  have e5 : nI (10 * a + q) % 10 = nI q := (i10 a q (by omega) (by omega)).2
  rw [(dAB (a := a) (b := q) (by omega) (by omega)).1, gR_54 s0, rf_54_20 s0, Option.bind_some, e4, R_per O (by omega), Option.bind_some, show 4 + (4 * a + 3) = 7 + 4 * a by omega]
  rw [M_GIi _ b (nI 0) (nI (sU σ (7 + 4 * a))) 0 _ rfl rfl, Option.bind_some]
  dsimp only
  rw [g01]
  by_cases c4 : GI (nI 0) (nI (sU σ (7 + 4 * a))) b
  rotate_left
  · rw [if_neg c4, if_neg (fun z => c4 z.2)]; exact ⟨_, rfl, ROk_scr R Q0⟩
  rw [if_pos c4]
  rw [M_GI (lo := 0) (hi := 1) _ w (by omega) (by omega) 0 1 rfl rfl, Option.bind_some]
  dsimp only
  rw [g01]
  by_cases c5 : GI (nI 0) (nI 1) w
  rotate_left
  · rw [if_neg c5, if_neg (fun z => c5 z.1.2)]; exact ⟨_, rfl, ROk_scr R Q0⟩
  rw [if_pos c5]
  rw [if_pos (show (((G2 (sP σ) (nI (10 * a + q)) ∧ GE (sE σ) c) ∧ GI (nI 1) (nI 60) y) ∧ GI (nI 0) (nI 1) w) ∧ GI (nI 0) (nI (sU σ (7 + 4 * a))) b from ⟨⟨⟨⟨c1, c2⟩, c3⟩, c5⟩, c4⟩)]
  obtain ⟨e, d, he, hd, rfl⟩ := GE_n hP.2 c2
  obtain ⟨n, n1, n2, rfl⟩ := GI_n (by omega) (by omega) c3
  obtain ⟨m, m1, m2, rfl⟩ := GI_n (by omega) (by omega) c4
  have hm9 : m ≤ 9 := Nat.le_trans m2 hH
  obtain ⟨h1, e1, E1, H1⟩ := M_holds (p := a) O hq he hd (y := n) n2 (b := m) hm9
  have O1 := ROk_scr R0 (SH_x E1)
  have e3 := M_loft_L (y := n) (m := m) (w := w) (RI_RO O1.1 (by omega)) ha hq he hd (by omega) H1 11 0 eg_F (by omega) (by rw [eg_F_eq]; omega)
  have e3' : fX13_loft_L93 eg_F h1 54 (nI (10 * a + q)) (nI (10 * e + d)) (nI m) w 0 (-1) 0 = _ := e3
  refine ⟨h1, ?_, ROk_tr (ROk_scr R Q0) O1⟩
  rw [e5, e1, Option.bind_some, e3', Option.bind_some, tS2_eq (by omega) (by omega) (by omega) (by omega), dN_n (by omega), dN_n (by omega)]
  dsimp only
  by_cases w0 : w = 0
  · rw [if_pos w0, if_pos w0]; rfl
  · rw [if_neg w0, if_neg w0]; rfl
end LF
