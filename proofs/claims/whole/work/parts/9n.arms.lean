def gdH (lw : eg_LW) (T : eg_TT) (y n : Nat) : Nat := gd lw T y (n / 100) ((n % 100 : Nat) - 5)
section AR
variable {h : eg_H} {σ : eg_S} {B : Nat × Nat}
def fArms (lw : eg_LW) (T : eg_TT) (y n l : Nat) : Nat → Bool := fun v => decide (l ≤ gdH lw (tArm T v) y n)
def aArms (σ : eg_S) (two c y w l : Int32) : Int32 := if (((G2 (sP σ) two ∧ GE (sE σ) c) ∧ GI (nI 1) (nI 60) y) ∧ GH (sU σ (7 + 4 * dA two)) w) ∧ GI (nI 0) (nI 11) l then nI (mkF (fArms (sL σ) (tS2 σ two c) (dN y) (dN w) (dN l)) 10) else -1
theorem X_arms_L {T : eg_TT} {y n l : Nat} (hy : y ≤ 60) (hn : n < 2 ^ 31) (hb : n / 100 ≤ 9) (hi : n % 100 ≤ 10) (hl : l ≤ 11) : ∀ j i h v F, i + j = 10 → j < F → XTL h σ B (tArm T v) → ∃ h', fX12_arms_L57 F h 16 (nI y) (nI n) (nI l) (nI (mkF (fArms (sL σ) T y n l) i)) (nI i) = some (nI (mkF (fArms (sL σ) T y n l) 10), h') ∧ XOk h h' σ B := by
  intro j
  induction j with
  | zero =>
    intro i h v F hi2 hF X
    obtain ⟨F, rfl⟩ : ∃ F', F = F' + 1 := ⟨F - 1, by omega⟩
    obtain rfl : i = 10 := by omega
    exact ⟨h, by rw [fX12_arms_L57, if_pos (by decide)], XOk_rfl X.1⟩
  | succ j ih =>
    intro i h v F hi2 hF X
    obtain ⟨F, rfl⟩ : ∃ F', F = F' + 1 := ⟨F - 1, by omega⟩
    have hs := X.2.1
    obtain ⟨X1, c1⟩ := XTL_arm X (v := i) (by omega)
    obtain ⟨h2, e2, X2, c2⟩ := XTL_goodH X1 hy hn hb hi
    have X2' : XTL h2 σ B (tArm T i) := X2
    obtain ⟨h3, e3, O3⟩ := ih (i + 1) h2 i F (by omega) (by omega) X2'
    refine ⟨h3, ?_, O3.1, gc_tr c1 (gc_tr c2 O3.2)⟩
    have e2' : fX12_goodOf (eg_sI h 36 5 (nI i)) 16 (nI y) (nI n) = some (nI (gdH (sL σ) (tArm T i) y n), h2) := e2
    have hg : gdH (sL σ) (tArm T i) y n ≤ 2 * tS T + 1 := gd_le _ _ _ _ _
    have hS : tS T ≤ 5 := X.2.2.1.1
    rw [fX12_arms_L57, if_neg (show ¬ (9 : Int32) < nI i from nI_nlt (a := 9) (by omega) (by omega)), gR_16 hs, rf_16_15 hs, Option.bind_some]
    unfold fX11_useArm
    rw [if_pos (iO_36 hs), pI_36 hs, Option.bind_some, Option.bind_some, e2', Option.bind_some]
    dsimp only
    rw [nI_1]
    by_cases c : l ≤ gdH (sL σ) (tArm T i) y n
    · rw [if_neg (nI_nlt c (by omega)), mkb_or (f := fArms (sL σ) T y n l) (by omega) (by unfold fArms; simpa using c), Option.bind_some]
      exact e3
    · rw [if_pos (nI_lt (by omega) (by omega)), mkb_no (f := fArms (sL σ) T y n l) (by unfold fArms; simpa using c)]
      exact e3
theorem X_arms (X : XI h σ B) (two c y w l : Int32) : ∃ h', fX12_arms h 16 two c y w l = some (aArms σ two c y w l, h') ∧ XOk h h' σ B := by
  have C := X.2.2.1
  have hs := C.1
  have hP := XI_P X
  unfold fX12_arms aArms
  rw [if_pos (iO_16 hs)]
  rw [X_isThrow hs C.2.1 two c y, Option.bind_some]
  dsimp only
  rw [g01]
  by_cases c1 : (G2 (sP σ) two ∧ GE (sE σ) c) ∧ GI (nI 1) (nI 60) y
  rotate_left
  · rw [if_neg c1, if_neg (fun z => c1 z.1.1)]; exact ⟨h, rfl, XOk_rfl X⟩
  rw [if_pos c1]
  obtain ⟨a, b, ha, hb, hab, rfl⟩ := G2_n hP.1 c1.1.1
  obtain ⟨e, d, he, hd, rfl⟩ := GE_n hP.2 c1.1.2
  obtain ⟨n, n1, n2, rfl⟩ := GI_n (by omega) (by omega) c1.2
  have hU := XI_U X (by omega)
  rw [(dAB (a := a) (b := b) (by omega) (by omega)).1]
  rw [X_isHow hs C.2.1 hU ha (by omega), Option.bind_some]
  dsimp only
  rw [g01]
  by_cases c2 : GH (sU σ (7 + 4 * a)) w
  rotate_left
  · rw [if_neg c2, if_neg (fun z => c2 z.1.2)]; exact ⟨h, rfl, XOk_rfl X⟩
  rw [if_pos c2]
  by_cases c3 : GI (nI 0) (nI 11) l
  rotate_left
  · by_cases c99 : l < 0
    · rw [if_pos c99, if_neg (fun z => c3 z.2)]; exact ⟨h, rfl, XOk_rfl X⟩
    · rw [if_neg c99, if_neg (show ¬ l ≤ (11 : Int32) from fun z => c3 ⟨c99, Int32.not_lt.mpr z⟩), if_neg (fun z => c3 z.2)]; exact ⟨h, rfl, XOk_rfl X⟩
  rw [if_neg (show ¬ l < 0 from c3.1), if_pos (show l ≤ (11 : Int32) from Int32.not_lt.mp c3.2)]
  rw [if_pos ⟨⟨c1, c2⟩, c3⟩]
  obtain ⟨m, m1, m2, m3, rfl⟩ := GH_n (hU.2.1 a ha).2.2.2 c2
  have hH := (hU.2.1 a ha).2.2.2
  obtain ⟨q, q1, q2, rfl⟩ := GI_n (by omega) (by omega) c3
  obtain ⟨h1, e1, X1, G1'⟩ := X_lay X ha hb he hd
  have e0 : fX7_told h 23 0 = some (nI (sU σ 0), h) := X_told hs C.2.1 (x := 0) (by omega)
  have e2 : ∃ v, XTL h1 σ B (tArm (tOf (sU σ) (sU σ 0) a b e d) v) := ⟨_, X1⟩
  obtain ⟨v, X1'⟩ := e2
  obtain ⟨h2, e2, O2⟩ := X_arms_L (l := q) (T := tOf (sU σ) (sU σ 0) a b e d) n2 m1 (by omega) m3 q2 10 0 h1 v eg_F (by omega) (by rw [eg_F_eq]; omega) X1'
  have e2' : fX12_arms_L57 eg_F h1 16 (nI n) (nI m) (nI q) 0 0 = _ := e2
  refine ⟨h2, ?_, O2.1, gc_tr G1' O2.2⟩
  rw [gR_16 hs, rf_16_15 hs, Option.bind_some, gR_16 hs, rf_16_3 hs, Option.bind_some, e0, Option.bind_some]
  dsimp only
  rw [e1, Option.bind_some, e2', Option.bind_some, tS2_eq (by omega) (by omega) (by omega) (by omega), dN_n (by omega), dN_n m1, dN_n (by omega)]
theorem M_arms_L {a b e d y n l : Nat} {v : Int32} (O : RO h (sU σ) (sP σ) (sE σ) (sL σ)) (ha : a < sP σ) (hb : b < sP σ) (he : e < sE σ) (hd : d ≤ 1) (hy : y ≤ 60) (hn : n < 2 ^ 31) (hw : n / 100 ≤ 9) (hi : n % 100 ≤ 10) (hl : l ≤ 11) : ∀ j i g x F, i + j = 10 → j < F → eg_eq SH (eg_sI h 61 (4 * b + 1) x) g → ∃ g' z, fX13_arms_L83 F g 54 (nI (10 * a + b)) (nI (10 * e + d)) (nI y) (nI n) (nI l) (nI (4 * b + 1)) v (nI (mkF (fArms (sL σ) (tOf (sU σ) (sU σ 0) a b e d) y n l) i)) (nI i) = some (54, nI (4 * b + 1), v, nI (mkF (fArms (sL σ) (tOf (sU σ) (sU σ 0) a b e d) y n l) 10), g') ∧ eg_eq SH (eg_sI h 61 (4 * b + 1) z) g' := by
  have hP := O.2.1.1.1
  intro j
  induction j with
  | zero =>
    intro i g x F hi2 hF Q
    obtain ⟨F, rfl⟩ : ∃ F', F = F' + 1 := ⟨F - 1, by omega⟩
    obtain rfl : i = 10 := by omega
    exact ⟨g, x, by rw [fX13_arms_L83, if_pos (by decide)], Q⟩
  | succ j ih =>
    intro i g x F hi2 hF Q
    obtain ⟨F, rfl⟩ : ∃ F', F = F' + 1 := ⟨F - 1, by omega⟩
    have sg : eg_stt g := eq_stt Q O.1 (by decide)
    have Q1 := eq_wr (nI i) Q
    have hUi : Uok (upU (sU σ) (4 + (4 * b + 1)) i) (sP σ) (sE σ) := Uok_p O.2.1 hb (by omega) (show i ≤ 9 by omega)
    have O1 : RO (eg_sI g 61 (4 * b + 1) (nI i)) (upU (sU σ) (4 + (4 * b + 1)) i) (sP σ) (sE σ) (sL σ) := RO_H (RO_p O (by omega) hUi) Q1
    obtain ⟨g1, e1, E1⟩ := M_goodH O1 ha hb he hd hy hn hw hi
    obtain ⟨g2, z, e3, Q2⟩ := ih (i + 1) g1 (nI i) F (by omega) (by omega) (eq_tr Q1 E1)
    refine ⟨g2, z, ?_, Q2⟩
    have e0 : upU (sU σ) (4 + (4 * b + 1)) i 0 = sU σ 0 := if_neg (by omega)
    rw [e0, tOf_arm (by omega)] at e1
    have e1' : fX13_goodOf (eg_sI g 61 (4 * b + 1) (nI i)) 54 (nI (10 * a + b)) (nI (10 * e + d)) (nI y) (nI n) = some (nI (gdH (sL σ) (tArm (tOf (sU σ) (sU σ 0) a b e d) i) y n), g1) := e1
    have hg : gdH (sL σ) (tArm (tOf (sU σ) (sU σ 0) a b e d) i) y n ≤ 2 * tS (tOf (sU σ) (sU σ 0) a b e d) + 1 := gd_le _ _ _ _ _
    have hS : tS (tOf (sU σ) (sU σ 0) a b e d) ≤ 5 := (O.2.1.2.1 a ha).1
    have hcl : (nI (4 * b + 1)).toNatClampNeg = 4 * b + 1 := nI_clamp (by omega)
    rw [fX13_arms_L83, if_neg (show ¬ (10 : Int32) ≤ nI i from nI_ge (b := 10) (by omega) (by omega)), gR_54 sg, rf_54_20 sg, Option.bind_some, wI_61 sg (nI_pos (by omega)) (by rw [hcl]; omega), hcl, Option.bind_some, e1', Option.bind_some]
    dsimp only
    rw [nI_1]
    by_cases c : l ≤ gdH (sL σ) (tArm (tOf (sU σ) (sU σ 0) a b e d) i) y n
    · rw [if_neg (nI_nlt c (by omega)), mkb_or (f := fArms (sL σ) (tOf (sU σ) (sU σ 0) a b e d) y n l) (by omega) (by unfold fArms; simpa using c), Option.bind_some]
      exact e3
    · rw [if_pos (nI_lt (by omega) (by omega)), or_0, Option.bind_some, mkb_no (f := fArms (sL σ) (tOf (sU σ) (sU σ 0) a b e d) y n l) (by unfold fArms; simpa using c)]
      exact e3
theorem M_arms (R : RI h σ) (two c y w l : Int32) : ∃ h', fX13_arms h 54 two c y w l = some (aArms σ two c y w l, h') ∧ ROk h h' σ := by
  obtain ⟨R0, Q0⟩ := R_0 R
  have hs := R.1
  have s0 := R0.1
  have hP := RI_P R
  unfold fX13_arms aArms
  rw [if_pos (iO_54 hs), pI_54 hs, Option.bind_some]
  rw [M_isTwo s0 R0.2.2.2.1 two, Option.bind_some]
  dsimp only
  rw [g01]
  by_cases c1 : G2 (sP σ) two
  rotate_left
  · rw [if_neg c1, if_neg (fun z => c1 z.1.1.1.1)]; exact ⟨_, rfl, ROk_scr R Q0⟩
  rw [if_pos c1]
  rw [M_isFrom s0 R0.2.2.2.1 c, Option.bind_some]
  dsimp only
  rw [g01]
  by_cases c2 : GE (sE σ) c
  rotate_left
  · rw [if_neg c2, if_neg (fun z => c2 z.1.1.1.2)]; exact ⟨_, rfl, ROk_scr R Q0⟩
  rw [if_pos c2]
  rw [M_GI (lo := 1) (hi := 60) _ y (by omega) (by omega) 1 60 rfl rfl, Option.bind_some]
  dsimp only
  rw [g01]
  by_cases c3 : GI (nI 1) (nI 60) y
  rotate_left
  · rw [if_neg c3, if_neg (fun z => c3 z.1.1.2)]; exact ⟨_, rfl, ROk_scr R Q0⟩
  rw [if_pos c3]
  obtain ⟨a, b, ha, hb, hab, rfl⟩ := G2_n hP.1 c1
  have O := RI_RO R0 (by omega)
  rw [(dAB (a := a) (b := b) (by omega) (by omega)).1]
  rw [M_isHow O ha (by omega), Option.bind_some]
  dsimp only
  rw [g01]
  by_cases c4 : GH (sU σ (7 + 4 * a)) w
  rotate_left
  · rw [if_neg c4, if_neg (fun z => c4 z.1.2)]; exact ⟨_, rfl, ROk_scr R Q0⟩
  rw [if_pos c4]
  rw [M_GI (lo := 0) (hi := 11) _ l (by omega) (by omega) 0 11 rfl rfl, Option.bind_some]
  dsimp only
  rw [g01]
  by_cases c5 : GI (nI 0) (nI 11) l
  rotate_left
  · rw [if_neg c5, if_neg (fun z => c5 z.2)]; exact ⟨_, rfl, ROk_scr R Q0⟩
  rw [if_pos c5]
  rw [if_pos (show (((G2 (sP σ) (nI (10 * a + b)) ∧ GE (sE σ) c) ∧ GI (nI 1) (nI 60) y) ∧ GH (sU σ (7 + 4 * a)) w) ∧ GI (nI 0) (nI 11) l from ⟨⟨⟨⟨c1, c2⟩, c3⟩, c4⟩, c5⟩)]
  obtain ⟨e, d, he, hd, rfl⟩ := GE_n hP.2 c2
  obtain ⟨n, n1, n2, rfl⟩ := GI_n (by omega) (by omega) c3
  obtain ⟨m, m1, m2, m3, rfl⟩ := GH_n (O.2.1.2.1 a ha).2.2.2 c4
  have hH := (O.2.1.2.1 a ha).2.2.2
  obtain ⟨q, q1, q2, rfl⟩ := GI_n (by omega) (by omega) c5
  have v0 : eg_I (eg_sI h 54 0 0) 61 (4 * b + 1) = nI (sU σ (4 + (4 * b + 1))) := O.2.2.1.2.1 _ (by omega)
  have hcl : (nI (4 * b + 1)).toNatClampNeg = 4 * b + 1 := nI_clamp (by omega)
  obtain ⟨g, z, e1, Q1⟩ := M_arms_L (v := nI (sU σ (4 + (4 * b + 1)))) O ha hb he hd n2 m1 (by omega) m3 q2 10 0 (eg_sI h 54 0 0) (eg_I (eg_sI h 54 0 0) 61 (4 * b + 1)) eg_F (by omega) (by rw [eg_F_eq]; omega) (by rw [sI_same]; exact eq_rfl)
  have e1' : fX13_arms_L83 eg_F (eg_sI h 54 0 0) 54 (nI (10 * a + b)) (nI (10 * e + d)) (nI n) (nI m) (nI q) (nI (4 * b + 1)) (nI (sU σ (4 + (4 * b + 1)))) 0 0 = _ := e1
  have Qb := eq_back Q1
  have sg : eg_stt g := eq_stt Q1 s0 (by decide)
  refine ⟨eg_sI g 61 (4 * b + 1) (nI (sU σ (4 + (4 * b + 1)))), ?_, ROk_scr R (eq_tr Q0 (SH_x (by rw [← v0]; exact Qb)))⟩
  rw [(i10 a b (by omega) (by omega)).2, show (4 : Int32) * nI b + 1 = nI (4 * b + 1) by rw [nI_k4, show (1 : Int32) = nI 1 from rfl, nI_add], Option.bind_some, gR_54 s0, rf_54_20 s0, Option.bind_some, R_per O (by omega), Option.bind_some, e1', Option.bind_some]
  dsimp only
  rw [gR_54 sg, rf_54_20 sg, Option.bind_some, wI_61 sg (nI_pos (by omega)) (by rw [hcl]; omega), hcl, Option.bind_some, tS2_eq (by omega) (by omega) (by omega) (by omega), dN_n (by omega), dN_n m1, dN_n (by omega)]
def fLegs (lw : eg_LW) (T : eg_TT) (y n l : Nat) : Nat → Bool := fun v => decide (l ≤ gdH lw (tRun T v) y n)
def aLegs (σ : eg_S) (two c y w l : Int32) : Int32 := if (((G2 (sP σ) two ∧ GE (sE σ) c) ∧ GI (nI 1) (nI 60) y) ∧ GH (sU σ (7 + 4 * dA two)) w) ∧ GI (nI 0) (nI 11) l then nI (mkF (fLegs (sL σ) (tS2 σ two c) (dN y) (dN w) (dN l)) 6) else -1
theorem X_legs_L {T : eg_TT} {y n l : Nat} (hy : y ≤ 60) (hn : n < 2 ^ 31) (hb : n / 100 ≤ 9) (hi : n % 100 ≤ 10) (hl : l ≤ 11) : ∀ j i h v F, i + j = 6 → j < F → XTL h σ B (tRun T v) → ∃ h', fX12_legs_L57 F h 16 (nI y) (nI n) (nI l) (nI (mkF (fLegs (sL σ) T y n l) i)) (nI i) = some (nI (mkF (fLegs (sL σ) T y n l) 6), h') ∧ XOk h h' σ B := by
  intro j
  induction j with
  | zero =>
    intro i h v F hi2 hF X
    obtain ⟨F, rfl⟩ : ∃ F', F = F' + 1 := ⟨F - 1, by omega⟩
    obtain rfl : i = 6 := by omega
    exact ⟨h, by rw [fX12_legs_L57, if_pos (by decide)], XOk_rfl X.1⟩
  | succ j ih =>
    intro i h v F hi2 hF X
    obtain ⟨F, rfl⟩ : ∃ F', F = F' + 1 := ⟨F - 1, by omega⟩
    have hs := X.2.1
    obtain ⟨X1, c1⟩ := XTL_run X (v := i) (by omega)
    obtain ⟨h2, e2, X2, c2⟩ := XTL_goodH X1 hy hn hb hi
    have X2' : XTL h2 σ B (tRun T i) := X2
    obtain ⟨h3, e3, O3⟩ := ih (i + 1) h2 i F (by omega) (by omega) X2'
    refine ⟨h3, ?_, O3.1, gc_tr c1 (gc_tr c2 O3.2)⟩
    have e2' : fX12_goodOf (eg_sI h 36 6 (nI i)) 16 (nI y) (nI n) = some (nI (gdH (sL σ) (tRun T i) y n), h2) := e2
    have hg : gdH (sL σ) (tRun T i) y n ≤ 2 * tS T + 1 := gd_le _ _ _ _ _
    have hS : tS T ≤ 5 := X.2.2.1.1
    rw [fX12_legs_L57, if_neg (show ¬ (5 : Int32) < nI i from nI_nlt (a := 5) (by omega) (by omega)), gR_16 hs, rf_16_15 hs, Option.bind_some]
    unfold fX11_useRun
    rw [if_pos (iO_36 hs), pI_36 hs, Option.bind_some, Option.bind_some, e2', Option.bind_some]
    dsimp only
    rw [nI_1]
    by_cases c : l ≤ gdH (sL σ) (tRun T i) y n
    · rw [if_neg (nI_nlt c (by omega)), mkb_or (f := fLegs (sL σ) T y n l) (by omega) (by unfold fLegs; simpa using c), Option.bind_some]
      exact e3
    · rw [if_pos (nI_lt (by omega) (by omega)), mkb_no (f := fLegs (sL σ) T y n l) (by unfold fLegs; simpa using c)]
      exact e3
theorem X_legs (X : XI h σ B) (two c y w l : Int32) : ∃ h', fX12_legs h 16 two c y w l = some (aLegs σ two c y w l, h') ∧ XOk h h' σ B := by
  have C := X.2.2.1
  have hs := C.1
  have hP := XI_P X
  unfold fX12_legs aLegs
  rw [if_pos (iO_16 hs)]
  rw [X_isThrow hs C.2.1 two c y, Option.bind_some]
  dsimp only
  rw [g01]
  by_cases c1 : (G2 (sP σ) two ∧ GE (sE σ) c) ∧ GI (nI 1) (nI 60) y
  rotate_left
  · rw [if_neg c1, if_neg (fun z => c1 z.1.1)]; exact ⟨h, rfl, XOk_rfl X⟩
  rw [if_pos c1]
  obtain ⟨a, b, ha, hb, hab, rfl⟩ := G2_n hP.1 c1.1.1
  obtain ⟨e, d, he, hd, rfl⟩ := GE_n hP.2 c1.1.2
  obtain ⟨n, n1, n2, rfl⟩ := GI_n (by omega) (by omega) c1.2
  have hU := XI_U X (by omega)
  rw [(dAB (a := a) (b := b) (by omega) (by omega)).1]
  rw [X_isHow hs C.2.1 hU ha (by omega), Option.bind_some]
  dsimp only
  rw [g01]
  by_cases c2 : GH (sU σ (7 + 4 * a)) w
  rotate_left
  · rw [if_neg c2, if_neg (fun z => c2 z.1.2)]; exact ⟨h, rfl, XOk_rfl X⟩
  rw [if_pos c2]
  by_cases c3 : GI (nI 0) (nI 11) l
  rotate_left
  · by_cases c99 : l < 0
    · rw [if_pos c99, if_neg (fun z => c3 z.2)]; exact ⟨h, rfl, XOk_rfl X⟩
    · rw [if_neg c99, if_neg (show ¬ l ≤ (11 : Int32) from fun z => c3 ⟨c99, Int32.not_lt.mpr z⟩), if_neg (fun z => c3 z.2)]; exact ⟨h, rfl, XOk_rfl X⟩
  rw [if_neg (show ¬ l < 0 from c3.1), if_pos (show l ≤ (11 : Int32) from Int32.not_lt.mp c3.2)]
  rw [if_pos ⟨⟨c1, c2⟩, c3⟩]
  obtain ⟨m, m1, m2, m3, rfl⟩ := GH_n (hU.2.1 a ha).2.2.2 c2
  have hH := (hU.2.1 a ha).2.2.2
  obtain ⟨q, q1, q2, rfl⟩ := GI_n (by omega) (by omega) c3
  obtain ⟨h1, e1, X1, G1'⟩ := X_lay X ha hb he hd
  have e0 : fX7_told h 23 0 = some (nI (sU σ 0), h) := X_told hs C.2.1 (x := 0) (by omega)
  have e2 : ∃ v, XTL h1 σ B (tRun (tOf (sU σ) (sU σ 0) a b e d) v) := ⟨_, X1⟩
  obtain ⟨v, X1'⟩ := e2
  obtain ⟨h2, e2, O2⟩ := X_legs_L (l := q) (T := tOf (sU σ) (sU σ 0) a b e d) n2 m1 (by omega) m3 q2 6 0 h1 v eg_F (by omega) (by rw [eg_F_eq]; omega) X1'
  have e2' : fX12_legs_L57 eg_F h1 16 (nI n) (nI m) (nI q) 0 0 = _ := e2
  refine ⟨h2, ?_, O2.1, gc_tr G1' O2.2⟩
  rw [gR_16 hs, rf_16_15 hs, Option.bind_some, gR_16 hs, rf_16_3 hs, Option.bind_some, e0, Option.bind_some]
  dsimp only
  rw [e1, Option.bind_some, e2', Option.bind_some, tS2_eq (by omega) (by omega) (by omega) (by omega), dN_n (by omega), dN_n m1, dN_n (by omega)]
theorem M_legs_L {a b e d y n l : Nat} {v : Int32} (O : RO h (sU σ) (sP σ) (sE σ) (sL σ)) (ha : a < sP σ) (hb : b < sP σ) (he : e < sE σ) (hd : d ≤ 1) (hy : y ≤ 60) (hn : n < 2 ^ 31) (hw : n / 100 ≤ 9) (hi : n % 100 ≤ 10) (hl : l ≤ 11) : ∀ j i g x F, i + j = 6 → j < F → eg_eq SH (eg_sI h 61 (4 * b + 2) x) g → ∃ g' z, fX13_legs_L83 F g 54 (nI (10 * a + b)) (nI (10 * e + d)) (nI y) (nI n) (nI l) (nI (4 * b + 2)) v (nI (mkF (fLegs (sL σ) (tOf (sU σ) (sU σ 0) a b e d) y n l) i)) (nI i) = some (54, nI (4 * b + 2), v, nI (mkF (fLegs (sL σ) (tOf (sU σ) (sU σ 0) a b e d) y n l) 6), g') ∧ eg_eq SH (eg_sI h 61 (4 * b + 2) z) g' := by
  have hP := O.2.1.1.1
  intro j
  induction j with
  | zero =>
    intro i g x F hi2 hF Q
    obtain ⟨F, rfl⟩ : ∃ F', F = F' + 1 := ⟨F - 1, by omega⟩
    obtain rfl : i = 6 := by omega
    exact ⟨g, x, by rw [fX13_legs_L83, if_pos (by decide)], Q⟩
  | succ j ih =>
    intro i g x F hi2 hF Q
    obtain ⟨F, rfl⟩ : ∃ F', F = F' + 1 := ⟨F - 1, by omega⟩
    have sg : eg_stt g := eq_stt Q O.1 (by decide)
    have Q1 := eq_wr (nI i) Q
    have hUi : Uok (upU (sU σ) (4 + (4 * b + 2)) i) (sP σ) (sE σ) := Uok_p O.2.1 hb (by omega) (show i ≤ 5 by omega)
    have O1 : RO (eg_sI g 61 (4 * b + 2) (nI i)) (upU (sU σ) (4 + (4 * b + 2)) i) (sP σ) (sE σ) (sL σ) := RO_H (RO_p O (by omega) hUi) Q1
    obtain ⟨g1, e1, E1⟩ := M_goodH O1 ha hb he hd hy hn hw hi
    obtain ⟨g2, z, e3, Q2⟩ := ih (i + 1) g1 (nI i) F (by omega) (by omega) (eq_tr Q1 E1)
    refine ⟨g2, z, ?_, Q2⟩
    have e0 : upU (sU σ) (4 + (4 * b + 2)) i 0 = sU σ 0 := if_neg (by omega)
    rw [e0, tOf_run (by omega)] at e1
    have e1' : fX13_goodOf (eg_sI g 61 (4 * b + 2) (nI i)) 54 (nI (10 * a + b)) (nI (10 * e + d)) (nI y) (nI n) = some (nI (gdH (sL σ) (tRun (tOf (sU σ) (sU σ 0) a b e d) i) y n), g1) := e1
    have hg : gdH (sL σ) (tRun (tOf (sU σ) (sU σ 0) a b e d) i) y n ≤ 2 * tS (tOf (sU σ) (sU σ 0) a b e d) + 1 := gd_le _ _ _ _ _
    have hS : tS (tOf (sU σ) (sU σ 0) a b e d) ≤ 5 := (O.2.1.2.1 a ha).1
    have hcl : (nI (4 * b + 2)).toNatClampNeg = 4 * b + 2 := nI_clamp (by omega)
    rw [fX13_legs_L83, if_neg (show ¬ (6 : Int32) ≤ nI i from nI_ge (b := 6) (by omega) (by omega)), gR_54 sg, rf_54_20 sg, Option.bind_some, wI_61 sg (nI_pos (by omega)) (by rw [hcl]; omega), hcl, Option.bind_some, e1', Option.bind_some]
    dsimp only
    rw [nI_1]
    by_cases c : l ≤ gdH (sL σ) (tRun (tOf (sU σ) (sU σ 0) a b e d) i) y n
    · rw [if_neg (nI_nlt c (by omega)), mkb_or (f := fLegs (sL σ) (tOf (sU σ) (sU σ 0) a b e d) y n l) (by omega) (by unfold fLegs; simpa using c), Option.bind_some]
      exact e3
    · rw [if_pos (nI_lt (by omega) (by omega)), or_0, Option.bind_some, mkb_no (f := fLegs (sL σ) (tOf (sU σ) (sU σ 0) a b e d) y n l) (by unfold fLegs; simpa using c)]
      exact e3
theorem M_legs (R : RI h σ) (two c y w l : Int32) : ∃ h', fX13_legs h 54 two c y w l = some (aLegs σ two c y w l, h') ∧ ROk h h' σ := by
  obtain ⟨R0, Q0⟩ := R_0 R
  have hs := R.1
  have s0 := R0.1
  have hP := RI_P R
  unfold fX13_legs aLegs
  rw [if_pos (iO_54 hs), pI_54 hs, Option.bind_some]
  rw [M_isTwo s0 R0.2.2.2.1 two, Option.bind_some]
  dsimp only
  rw [g01]
  by_cases c1 : G2 (sP σ) two
  rotate_left
  · rw [if_neg c1, if_neg (fun z => c1 z.1.1.1.1)]; exact ⟨_, rfl, ROk_scr R Q0⟩
  rw [if_pos c1]
  rw [M_isFrom s0 R0.2.2.2.1 c, Option.bind_some]
  dsimp only
  rw [g01]
  by_cases c2 : GE (sE σ) c
  rotate_left
  · rw [if_neg c2, if_neg (fun z => c2 z.1.1.1.2)]; exact ⟨_, rfl, ROk_scr R Q0⟩
  rw [if_pos c2]
  rw [M_GI (lo := 1) (hi := 60) _ y (by omega) (by omega) 1 60 rfl rfl, Option.bind_some]
  dsimp only
  rw [g01]
  by_cases c3 : GI (nI 1) (nI 60) y
  rotate_left
  · rw [if_neg c3, if_neg (fun z => c3 z.1.1.2)]; exact ⟨_, rfl, ROk_scr R Q0⟩
  rw [if_pos c3]
  obtain ⟨a, b, ha, hb, hab, rfl⟩ := G2_n hP.1 c1
  have O := RI_RO R0 (by omega)
  rw [(dAB (a := a) (b := b) (by omega) (by omega)).1]
  rw [M_isHow O ha (by omega), Option.bind_some]
  dsimp only
  rw [g01]
  by_cases c4 : GH (sU σ (7 + 4 * a)) w
  rotate_left
  · rw [if_neg c4, if_neg (fun z => c4 z.1.2)]; exact ⟨_, rfl, ROk_scr R Q0⟩
  rw [if_pos c4]
  rw [M_GI (lo := 0) (hi := 11) _ l (by omega) (by omega) 0 11 rfl rfl, Option.bind_some]
  dsimp only
  rw [g01]
  by_cases c5 : GI (nI 0) (nI 11) l
  rotate_left
  · rw [if_neg c5, if_neg (fun z => c5 z.2)]; exact ⟨_, rfl, ROk_scr R Q0⟩
  rw [if_pos c5]
  rw [if_pos (show (((G2 (sP σ) (nI (10 * a + b)) ∧ GE (sE σ) c) ∧ GI (nI 1) (nI 60) y) ∧ GH (sU σ (7 + 4 * a)) w) ∧ GI (nI 0) (nI 11) l from ⟨⟨⟨⟨c1, c2⟩, c3⟩, c4⟩, c5⟩)]
  obtain ⟨e, d, he, hd, rfl⟩ := GE_n hP.2 c2
  obtain ⟨n, n1, n2, rfl⟩ := GI_n (by omega) (by omega) c3
  obtain ⟨m, m1, m2, m3, rfl⟩ := GH_n (O.2.1.2.1 a ha).2.2.2 c4
  have hH := (O.2.1.2.1 a ha).2.2.2
  obtain ⟨q, q1, q2, rfl⟩ := GI_n (by omega) (by omega) c5
  have v0 : eg_I (eg_sI h 54 0 0) 61 (4 * b + 2) = nI (sU σ (4 + (4 * b + 2))) := O.2.2.1.2.1 _ (by omega)
  have hcl : (nI (4 * b + 2)).toNatClampNeg = 4 * b + 2 := nI_clamp (by omega)
  obtain ⟨g, z, e1, Q1⟩ := M_legs_L (v := nI (sU σ (4 + (4 * b + 2)))) O ha hb he hd n2 m1 (by omega) m3 q2 6 0 (eg_sI h 54 0 0) (eg_I (eg_sI h 54 0 0) 61 (4 * b + 2)) eg_F (by omega) (by rw [eg_F_eq]; omega) (by rw [sI_same]; exact eq_rfl)
  have e1' : fX13_legs_L83 eg_F (eg_sI h 54 0 0) 54 (nI (10 * a + b)) (nI (10 * e + d)) (nI n) (nI m) (nI q) (nI (4 * b + 2)) (nI (sU σ (4 + (4 * b + 2)))) 0 0 = _ := e1
  have Qb := eq_back Q1
  have sg : eg_stt g := eq_stt Q1 s0 (by decide)
  refine ⟨eg_sI g 61 (4 * b + 2) (nI (sU σ (4 + (4 * b + 2)))), ?_, ROk_scr R (eq_tr Q0 (SH_x (by rw [← v0]; exact Qb)))⟩
  rw [(i10 a b (by omega) (by omega)).2, show (4 : Int32) * nI b + 2 = nI (4 * b + 2) by rw [nI_k4, show (2 : Int32) = nI 2 from rfl, nI_add], Option.bind_some, gR_54 s0, rf_54_20 s0, Option.bind_some, R_per O (by omega), Option.bind_some, e1', Option.bind_some]
  dsimp only
  rw [gR_54 sg, rf_54_20 sg, Option.bind_some, wI_61 sg (nI_pos (by omega)) (by rw [hcl]; omega), hcl, Option.bind_some, tS2_eq (by omega) (by omega) (by omega) (by omega), dN_n (by omega), dN_n m1, dN_n (by omega)]
end AR
def aSpots (σ : eg_S) (two c y l : Int32) : Int32 := if ((G2 (sP σ) two ∧ GE (sE σ) c) ∧ GI (nI 1) (nI 60) y) ∧ GI (nI 0) (nI 11) l then nI (sm (fun k => if dN l ≤ gk (sL σ) (tS2 σ two c) (dN y) k then 1 else 0) (tN (tS2 σ two c))) else -1
section SO
variable {h : eg_H} {σ : eg_S} {B : Nat × Nat}
theorem ai_1 (i : Nat) : iI ((i : Int) - 5) + 1 = iI (((i + 1 : Nat) : Int) - 5) := by
  rw [show (1 : Int32) = iI 1 from rfl, iI_add]
  congr 1
  omega
theorem ai_lt {i : Nat} (hi : i ≤ 11) : ((5 : Int32) < iI ((i : Int) - 5)) ↔ 10 < i := by
  rw [show (5 : Int32) = iI 5 from rfl, iI_lt (by unfold i3; omega) (by unfold i3; omega)]
  omega
theorem X_spots_in {T : eg_TT} {y b l : Nat} (O : XO h T (eg_P h 36 2) (sL σ)) (hb : b ≤ 9) (hl : l ≤ 11) : ∀ j i F, i + j = 11 → j < F → fX12_spots_L75 F h 16 (nI y) (nI l) (nI (sm (fun k => if l ≤ gk (sL σ) T y k then 1 else 0) (11 * b + i))) (nI b) (nI (hM (sL σ) T y b)) (iI ((i : Int) - 5)) = some (16, nI y, nI l, nI (sm (fun k => if l ≤ gk (sL σ) T y k then 1 else 0) (11 * b + 11)), nI b, h) := by
  intro j
  induction j with
  | zero =>
    intro i F hi hF
    obtain ⟨F, rfl⟩ : ∃ F', F = F' + 1 := ⟨F - 1, by omega⟩
    obtain rfl : i = 11 := by omega
    rw [fX12_spots_L75, if_pos ((ai_lt (by omega)).mpr (by omega))]
  | succ j ih =>
    intro i F hi hF
    obtain ⟨F, rfl⟩ : ∃ F', F = F' + 1 := ⟨F - 1, by omega⟩
    have hs := O.1
    have e3 := ih (i + 1) F (by omega) (by omega)
    have hg : gd (sL σ) T y b ((i : Int) - 5) ≤ 2 * tS T + 1 := gd_le _ _ _ _ _
    have hS : tS T ≤ 5 := O.2.1.1
    rw [fX12_spots_L75, if_neg (fun z => by have := (ai_lt (by omega)).mp z; omega), gR_16 hs, rf_16_15 hs, Option.bind_some, X_goodOf O hb (by omega), Option.bind_some]
    dsimp only
    rw [ai_1]
    rw [show 11 * b + (i + 1) = 11 * b + i + 1 by omega, sm, gk_at b i (by omega)] at e3
    by_cases c : l ≤ gd (sL σ) T y b ((i : Int) - 5)
    · rw [if_pos c] at e3
      rw [if_neg (nI_nlt c (by omega)), nI_1]
      exact e3
    · rw [if_neg c, Nat.add_zero] at e3
      rw [if_pos (nI_lt (by omega) (by omega))]
      exact e3
theorem X_spots_L {T : eg_TT} {y l : Nat} (hy : y ≤ 60) (hl : l ≤ 11) : ∀ j b h F, b + j = tH T + 1 → j < F → XTL h σ B T → ∃ h', fX12_spots_L47 F h 16 (nI y) (nI l) (nI (sm (fun k => if l ≤ gk (sL σ) T y k then 1 else 0) (11 * b))) (nI b) = some (nI (sm (fun k => if l ≤ gk (sL σ) T y k then 1 else 0) (tN T)), h') ∧ XOk h h' σ B := by
  intro j
  induction j with
  | zero =>
    intro b h F hb hF X
    obtain ⟨F, rfl⟩ : ∃ F', F = F' + 1 := ⟨F - 1, by omega⟩
    have hs := X.2.1
    have hH := X.2.2.1.2.1
    have t2 : eg_I h 36 4 = nI (tH T) := X.2.2.2.2.1.2.1
    obtain rfl : b = tH T + 1 := by omega
    refine ⟨h, ?_, XOk_rfl X.1⟩
    rw [fX12_spots_L47, gR_16 hs, rf_16_15 hs, Option.bind_some]
    unfold fX11_highest
    rw [if_pos (iO_36 hs), gI_36 hs, Option.bind_some, Option.bind_some, t2]
    dsimp only
    rw [if_pos (nI_lt (by omega) (by omega))]
    rfl
  | succ j ih =>
    intro b h F hb hF X
    obtain ⟨F, rfl⟩ : ∃ F', F = F' + 1 := ⟨F - 1, by omega⟩
    have hs := X.2.1
    have hH := X.2.2.1.2.1
    have t2 : eg_I h 36 4 = nI (tH T) := X.2.2.2.2.1.2.1
    obtain ⟨h1, e1, X1, c1⟩ := XTL_wholes (y := y) X hy (b := b) (by omega)
    have e2 := X_spots_in (y := y) (b := b) X1.2 (by omega) hl 11 0 eg_F (by omega) (by rw [eg_F_eq]; omega)
    have e2' : fX12_spots_L75 eg_F h1 16 (nI y) (nI l) (nI (sm (fun k => if l ≤ gk (sL σ) T y k then 1 else 0) (11 * b))) (nI b) (nI (hM (sL σ) T y b)) (-5) = _ := e2
    obtain ⟨h2, e3, O3⟩ := ih (b + 1) h1 F (by omega) (by omega) X1
    refine ⟨h2, ?_, O3.1, gc_tr c1 O3.2⟩
    rw [fX12_spots_L47, gR_16 hs, rf_16_15 hs, Option.bind_some]
    unfold fX11_highest
    rw [if_pos (iO_36 hs), gI_36 hs, Option.bind_some, Option.bind_some, t2]
    dsimp only
    rw [if_neg (nI_nlt (by omega) (by omega)), gR_16 hs, rf_16_15 hs, Option.bind_some, e1, Option.bind_some]
    dsimp only
    rw [e2', Option.bind_some]
    dsimp only
    rw [nI_1]
    exact e3
theorem X_spots (X : XI h σ B) (two c y l : Int32) : ∃ h', fX12_spots h 16 two c y l = some (aSpots σ two c y l, h') ∧ XOk h h' σ B := by
  have C := X.2.2.1
  have hs := C.1
  have hP := XI_P X
  unfold fX12_spots aSpots
  rw [if_pos (iO_16 hs)]
  rw [X_isThrow hs C.2.1 two c y, Option.bind_some]
  dsimp only
  rw [g01]
  by_cases c1 : (G2 (sP σ) two ∧ GE (sE σ) c) ∧ GI (nI 1) (nI 60) y
  rotate_left
  · rw [if_neg c1, if_neg (fun z => c1 z.1)]; exact ⟨h, rfl, XOk_rfl X⟩
  rw [if_pos c1]
  by_cases c3 : GI (nI 0) (nI 11) l
  rotate_left
  · by_cases c99 : l < 0
    · rw [if_pos c99, if_neg (fun z => c3 z.2)]; exact ⟨h, rfl, XOk_rfl X⟩
    · rw [if_neg c99, if_neg (show ¬ l ≤ (11 : Int32) from fun z => c3 ⟨c99, Int32.not_lt.mpr z⟩), if_neg (fun z => c3 z.2)]; exact ⟨h, rfl, XOk_rfl X⟩
  rw [if_neg (show ¬ l < 0 from c3.1), if_pos (show l ≤ (11 : Int32) from Int32.not_lt.mp c3.2)]
  rw [if_pos ⟨c1, c3⟩]
  obtain ⟨a, b, ha, hb, hab, rfl⟩ := G2_n hP.1 c1.1.1
  obtain ⟨e, d, he, hd, rfl⟩ := GE_n hP.2 c1.1.2
  obtain ⟨n, n1, n2, rfl⟩ := GI_n (by omega) (by omega) c1.2
  have hU := XI_U X (by omega)
  obtain ⟨q, q1, q2, rfl⟩ := GI_n (by omega) (by omega) c3
  obtain ⟨h1, e1, X1, G1'⟩ := X_lay X ha hb he hd
  have hH : tH (tOf (sU σ) (sU σ 0) a b e d) ≤ 9 := (hU.2.1 a ha).2.2.2
  have e0 : fX7_told h 23 0 = some (nI (sU σ 0), h) := X_told hs C.2.1 (x := 0) (by omega)
  obtain ⟨h2, e2, O2⟩ := X_spots_L (l := q) (T := tOf (sU σ) (sU σ 0) a b e d) n2 q2 (tH (tOf (sU σ) (sU σ 0) a b e d) + 1) 0 h1 eg_F (by omega) (by rw [eg_F_eq]; omega) X1
  have e2' : fX12_spots_L47 eg_F h1 16 (nI n) (nI q) 0 0 = _ := e2
  refine ⟨h2, ?_, O2.1, gc_tr G1' O2.2⟩
  rw [gR_16 hs, rf_16_15 hs, Option.bind_some, gR_16 hs, rf_16_3 hs, Option.bind_some, e0, Option.bind_some]
  dsimp only
  rw [e1, Option.bind_some, e2', Option.bind_some, tS2_eq (by omega) (by omega) (by omega) (by omega), dN_n (by omega), dN_n (by omega)]
theorem M_spots_in {a b e d y w l : Nat} (O : RO h (sU σ) (sP σ) (sE σ) (sL σ)) (ha : a < sP σ) (hb : b < sP σ) (he : e < sE σ) (hd : d ≤ 1) (hw : w ≤ 9) (hl : l ≤ 11) (H : HLn h (sL σ) (tOf (sU σ) (sU σ 0) a b e d) y w 11) : ∀ j i F, i + j = 11 → j < F → fX13_spots_L88 F h 54 (nI (10 * a + b)) (nI (10 * e + d)) (nI y) (nI l) (nI (sm (fun k => if l ≤ gk (sL σ) (tOf (sU σ) (sU σ 0) a b e d) y k then 1 else 0) (11 * w + i))) (nI w) (iI ((i : Int) - 5)) = some (54, nI (10 * a + b), nI (10 * e + d), nI y, nI l, nI (sm (fun k => if l ≤ gk (sL σ) (tOf (sU σ) (sU σ 0) a b e d) y k then 1 else 0) (11 * w + 11)), nI w, h) := by
  have hP := O.2.1.1
  intro j
  induction j with
  | zero =>
    intro i F hi hF
    obtain ⟨F, rfl⟩ : ∃ F', F = F' + 1 := ⟨F - 1, by omega⟩
    obtain rfl : i = 11 := by omega
    rw [fX13_spots_L88, if_pos ((ai_lt (by omega)).mpr (by omega))]
  | succ j ih =>
    intro i F hi hF
    obtain ⟨F, rfl⟩ : ∃ F', F = F' + 1 := ⟨F - 1, by omega⟩
    have e3 := ih (i + 1) F (by omega) (by omega)
    have hg : gd (sL σ) (tOf (sU σ) (sU σ 0) a b e d) y w ((i : Int) - 5) ≤ 2 * tS (tOf (sU σ) (sU σ 0) a b e d) + 1 := gd_le _ _ _ _ _
    have hS : tS (tOf (sU σ) (sU σ 0) a b e d) ≤ 5 := (O.2.1.2.1 a ha).1
    rw [fX13_spots_L88, if_neg (fun z => by have := (ai_lt (by omega)).mp z; omega), (i10 a b (by omega) (by omega)).1, (i10 e d (by omega) (by omega)).2, M_goodBy O ha hb he hd hw (by omega) H, Option.bind_some]
    dsimp only
    rw [ai_1]
    rw [show 11 * w + (i + 1) = 11 * w + i + 1 by omega, sm, gk_at w i (by omega)] at e3
    by_cases c : l ≤ gd (sL σ) (tOf (sU σ) (sU σ 0) a b e d) y w ((i : Int) - 5)
    · rw [if_pos c] at e3
      rw [if_neg (nI_nlt c (by omega)), nI_1, Option.bind_some]
      exact e3
    · rw [if_neg c] at e3
      rw [if_pos (nI_lt (by omega) (by omega)), show (0 : Int32) = nI 0 from rfl, nI_add, Option.bind_some]
      exact e3
theorem M_spots_L {a b e d y l : Nat} (ha : a < sP σ) (hb : b < sP σ) (he : e < sE σ) (hd : d ≤ 1) (hy : y ≤ 60) (hl : l ≤ 11) : ∀ j w h F, w + j = sU σ (7 + 4 * a) + 1 → j < F → RI h σ → ∃ h', fX13_spots_L54 F h 54 (nI (10 * a + b)) (nI (10 * e + d)) (nI y) (nI l) (nI (sm (fun k => if l ≤ gk (sL σ) (tOf (sU σ) (sU σ 0) a b e d) y k then 1 else 0) (11 * w))) (nI w) = some (nI (sm (fun k => if l ≤ gk (sL σ) (tOf (sU σ) (sU σ 0) a b e d) y k then 1 else 0) (11 * (sU σ (7 + 4 * a) + 1))), h') ∧ ROk h h' σ := by
  intro j
  induction j with
  | zero =>
    intro w h F hw hF R
    obtain ⟨F, rfl⟩ : ∃ F', F = F' + 1 := ⟨F - 1, by omega⟩
    have hs := R.1
    have O := RI_RO R (by omega)
    have hP := RI_P R
    have hH := (O.2.1.2.1 a ha).2.2.2
    obtain rfl : w = sU σ (7 + 4 * a) + 1 := by omega
    refine ⟨h, ?_, R, rfl, fun _ _ _ => ⟨rfl, rfl, rfl⟩⟩
    rw [fX13_spots_L54, gR_54 hs, rf_54_20 hs, Option.bind_some, (i10 a b (by omega) (by omega)).1, show (4 : Int32) * nI a + 3 = nI (4 * a + 3) by rw [nI_k4, show (3 : Int32) = nI 3 from rfl, nI_add], R_per O (by omega), Option.bind_some, show 4 + (4 * a + 3) = 7 + 4 * a by omega, if_pos (nI_lt (by omega) (by omega))]
  | succ j ih =>
    intro w h F hw hF R
    obtain ⟨F, rfl⟩ : ∃ F', F = F' + 1 := ⟨F - 1, by omega⟩
    have hs := R.1
    have O := RI_RO R (by omega)
    have hP := RI_P R
    have hH := (O.2.1.2.1 a ha).2.2.2
    obtain ⟨h1, e1, E1, H1⟩ := M_holds (p := a) O hb he hd hy (b := w) (by omega)
    have O1 := ROk_scr R (SH_x E1)
    have e2 := M_spots_in (l := l) (RI_RO O1.1 (by omega)) ha hb he hd (w := w) (by omega) hl H1 11 0 eg_F (by omega) (by rw [eg_F_eq]; omega)
    have e2' : fX13_spots_L88 eg_F h1 54 (nI (10 * a + b)) (nI (10 * e + d)) (nI y) (nI l) (nI (sm (fun k => if l ≤ gk (sL σ) (tOf (sU σ) (sU σ 0) a b e d) y k then 1 else 0) (11 * w))) (nI w) (-5) = _ := e2
    obtain ⟨h2, e3, O3⟩ := ih (w + 1) h1 F (by omega) (by omega) O1.1
    refine ⟨h2, ?_, ROk_tr O1 O3⟩
    rw [fX13_spots_L54, gR_54 hs, rf_54_20 hs, Option.bind_some, (i10 a b (by omega) (by omega)).1, (i10 a b (by omega) (by omega)).2, show (4 : Int32) * nI a + 3 = nI (4 * a + 3) by rw [nI_k4, show (3 : Int32) = nI 3 from rfl, nI_add], R_per O (by omega), Option.bind_some, show 4 + (4 * a + 3) = 7 + 4 * a by omega, if_neg (nI_nlt (by omega) (by omega)), e1, Option.bind_some, e2', Option.bind_some]
    dsimp only
    rw [nI_1]
    exact e3
theorem M_spots (R : RI h σ) (two c y l : Int32) : ∃ h', fX13_spots h 54 two c y l = some (aSpots σ two c y l, h') ∧ ROk h h' σ := by
  obtain ⟨R0, Q0⟩ := R_0 R
  have hs := R.1
  have s0 := R0.1
  have hP := RI_P R
  unfold fX13_spots aSpots
  rw [if_pos (iO_54 hs), pI_54 hs, Option.bind_some]
  rw [M_isTwo s0 R0.2.2.2.1 two, Option.bind_some]
  dsimp only
  rw [g01]
  by_cases c1 : G2 (sP σ) two
  rotate_left
  · rw [if_neg c1, if_neg (fun z => c1 z.1.1.1)]; exact ⟨_, rfl, ROk_scr R Q0⟩
  rw [if_pos c1]
  rw [M_isFrom s0 R0.2.2.2.1 c, Option.bind_some]
  dsimp only
  rw [g01]
  by_cases c2 : GE (sE σ) c
  rotate_left
  · rw [if_neg c2, if_neg (fun z => c2 z.1.1.2)]; exact ⟨_, rfl, ROk_scr R Q0⟩
  rw [if_pos c2]
  rw [M_GI (lo := 1) (hi := 60) _ y (by omega) (by omega) 1 60 rfl rfl, Option.bind_some]
  dsimp only
  rw [g01]
  by_cases c3 : GI (nI 1) (nI 60) y
  rotate_left
  · rw [if_neg c3, if_neg (fun z => c3 z.1.2)]; exact ⟨_, rfl, ROk_scr R Q0⟩
  rw [if_pos c3]
  rw [M_GI (lo := 0) (hi := 11) _ l (by omega) (by omega) 0 11 rfl rfl, Option.bind_some]
  dsimp only
  rw [g01]
  by_cases c5 : GI (nI 0) (nI 11) l
  rotate_left
  · rw [if_neg c5, if_neg (fun z => c5 z.2)]; exact ⟨_, rfl, ROk_scr R Q0⟩
  rw [if_pos c5]
  rw [if_pos (show ((G2 (sP σ) two ∧ GE (sE σ) c) ∧ GI (nI 1) (nI 60) y) ∧ GI (nI 0) (nI 11) l from ⟨⟨⟨c1, c2⟩, c3⟩, c5⟩)]
  obtain ⟨a, b, ha, hb, hab, rfl⟩ := G2_n hP.1 c1
  obtain ⟨e, d, he, hd, rfl⟩ := GE_n hP.2 c2
  obtain ⟨n, n1, n2, rfl⟩ := GI_n (by omega) (by omega) c3
  obtain ⟨q, q1, q2, rfl⟩ := GI_n (by omega) (by omega) c5
  have O := RI_RO R0 (by omega)
  have hH := (O.2.1.2.1 a ha).2.2.2
  obtain ⟨h2, e2, O2⟩ := M_spots_L (l := q) ha hb he hd n2 q2 (sU σ (7 + 4 * a) + 1) 0 (eg_sI h 54 0 0) eg_F (by omega) (by rw [eg_F_eq]; omega) R0
  have e2' : fX13_spots_L54 eg_F (eg_sI h 54 0 0) 54 (nI (10 * a + b)) (nI (10 * e + d)) (nI n) (nI q) 0 0 = _ := e2
  refine ⟨h2, ?_, ROk_tr (ROk_scr R Q0) O2⟩
  rw [e2', Option.bind_some, tS2_eq (by omega) (by omega) (by omega) (by omega), dN_n (by omega), dN_n (by omega)]
  rfl
end SO
