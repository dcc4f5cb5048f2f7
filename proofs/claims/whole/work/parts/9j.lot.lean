def sure (σ : eg_S) (a b e d y : Nat) : Prop := bgd (sL σ) (tOf (sU σ) (sU σ 0) a b e d) y = 2 * sU σ (4 + 4 * a) + 1
def sfF (p : Nat → Bool) : Nat → Nat
  | 0 => 0
  | n + 1 => if p (n + 1) = true then n + 1 else sfF p n
def sureB (σ : eg_S) (a b e d y : Nat) : Bool := decide (bgd (sL σ) (tOf (sU σ) (sU σ 0) a b e d) y = 2 * sU σ (4 + 4 * a) + 1)
def aSafe (σ : eg_S) (two c : Int32) : Int32 := if G2 (sP σ) two ∧ GE (sE σ) c then (if sfF (sureB σ (dA two) (dB two) (dA c) (dB c)) 60 = 0 then -1 else nI (sfF (sureB σ (dA two) (dB two) (dA c) (dB c)) 60)) else -1
def spF (σ : eg_S) (a b d y : Nat) : Nat → Nat
  | 0 => 0
  | e + 1 => if (spF σ a b d y e = 0 ∨ limU (sU σ) e < limU (sU σ) (spF σ a b d y e - 1)) ∧ sureB σ a b e d y = true then e + 1 else spF σ a b d y e
def aSpare (σ : eg_S) (two t y : Int32) : Int32 := if (G2 (sP σ) two ∧ GI (nI 0) (nI 1) t) ∧ GI (nI 1) (nI 60) y then iI ((spF σ (dA two) (dB two) (dN t) (dN y) (sE σ) : Int) - 1) else -1
theorem spF_le (σ : eg_S) (a b d y : Nat) : ∀ e, spF σ a b d y e ≤ e := by
  intro e
  induction e with
  | zero => exact Nat.le_refl _
  | succ e ih => unfold spF; split <;> omega
section LO
variable {h : eg_H} {σ : eg_S} {B : Nat × Nat}
theorem X_lot_L {a b d : Nat} (ha : a < sP σ) (hb : b < sP σ) (hd : d ≤ 1) : ∀ j i h F, i + j = sE σ → j < F → XI h σ B → ∃ h', fX12_lot_L40 F h 16 (nI (10 * a + b)) (nI d) (nI (sE σ)) (jI (sm (fun e => hpS σ a b e d) i)) (nI i) = some (nI (sE σ), jI (sm (fun e => hpS σ a b e d) (sE σ)), h') ∧ XOk h h' σ B := by
  intro j
  induction j with
  | zero =>
    intro i h F hi hF X
    obtain ⟨F, rfl⟩ : ∃ F', F = F' + 1 := ⟨F - 1, by omega⟩
    have hE := (XI_P X).2
    obtain rfl : i = sE σ := by omega
    refine ⟨h, ?_, XOk_rfl X⟩
    rw [fX12_lot_L40, if_pos (nI_le (Nat.le_refl _) (by omega))]
  | succ j ih =>
    intro i h F hi hF X
    obtain ⟨F, rfl⟩ : ∃ F', F = F' + 1 := ⟨F - 1, by omega⟩
    have hE := (XI_P X).2
    obtain ⟨h1, e1, e2, O1⟩ := X_hp X ha hb (e := i) (by omega) hd
    obtain ⟨h2, e3, O2⟩ := ih (i + 1) h1 F (by omega) (by omega) O1.1
    refine ⟨h2, ?_, XOk_tr O1 O2⟩
    have es : jI (sm (fun e => hpS σ a b e d) i) + jI (hpS σ a b i d) = jI (sm (fun e => hpS σ a b e d) (i + 1)) := by
      rw [jI_add]
      rfl
    rw [fX12_lot_L40, if_neg (nI_ge (by omega) (by omega)), k10, e1, Option.bind_some]
    dsimp only
    rw [e2, Option.bind_some, nI_1]
    dsimp only
    rw [es, Option.bind_some]
    exact e3
theorem lot_b (a b d : Nat) : ∀ n, sm (fun e => hpS σ a b e d) n ≤ n * 60000000000 := by
  intro n
  induction n with
  | zero => exact Nat.le_refl _
  | succ n ih =>
    show sm _ n + hpS σ a b n d ≤ _
    have := hpS_le σ a b n d
    rw [Nat.succ_mul]
    omega
theorem lot_dv (a b d : Nat) (h1 : 1 ≤ sE σ) (h6 : sE σ ≤ 6) : ¬ (nI (sE σ)).toInt64 = 0 ∧ jI (sm (fun e => hpS σ a b e d) (sE σ)) / (nI (sE σ)).toInt64 = jI (sm (fun e => hpS σ a b e d) (sE σ) / sE σ : Nat) := by
  have hb := lot_b (σ := σ) a b d (sE σ)
  have hb2 : sE σ * 60000000000 ≤ 6 * 60000000000 := Nat.mul_le_mul_right _ h6
  have hq : sm (fun e => hpS σ a b e d) (sE σ) / sE σ ≤ sm (fun e => hpS σ a b e d) (sE σ) := Nat.div_le_self _ _
  have e3 : ((sm (fun e => hpS σ a b e d) (sE σ) : Nat) : Int).tdiv ((sE σ : Nat) : Int) = ((sm (fun e => hpS σ a b e d) (sE σ) / sE σ : Nat) : Int) := by
    rw [Int.tdiv_eq_ediv_of_nonneg (by omega), Int.natCast_ediv]
  have h0 : (0 : Int) ≤ ((sm (fun e => hpS σ a b e d) (sE σ) / sE σ : Nat) : Int) := Int.natCast_nonneg _
  rw [← iI_n, iI_w (by unfold i3; omega)]
  refine ⟨fun w => by have := (jI_eq (b := 0) (by unfold i6; omega) (by unfold i6; omega)).mp w; omega, ?_⟩
  rw [jI_div (by unfold i6; omega) (by unfold i6; omega) (by rw [e3]; unfold i6; omega), e3]
theorem X_lot (X : XI h σ B) (two t : Int32) : ∃ h', fX12_lot h 16 two t = some (aLot σ two t, h') ∧ XOk h h' σ B := by
  have C := X.2.2.1
  have hs := C.1
  have hP := XI_P X
  unfold fX12_lot aLot
  rw [if_pos (iO_16 hs), gR_16 hs, rf_16_3 hs, Option.bind_some, X_eggs X, Option.bind_some]
  dsimp only
  rw [gR_16 hs, rf_16_3 hs, Option.bind_some, X_isPair hs C.2.1 two, Option.bind_some]
  dsimp only
  rw [g01]
  by_cases c1 : G2 (sP σ) two
  · rw [if_pos c1, X_isEnd h t, Option.bind_some]
    dsimp only
    rw [g01]
    by_cases c2 : GI (nI 0) (nI 1) t
    · rw [if_pos c2, if_pos (show G2 (sP σ) two ∧ GI (nI 0) (nI 1) t from ⟨c1, c2⟩)]
      obtain ⟨a, b, ha, hb, hab, rfl⟩ := G2_n hP.1 c1
      obtain ⟨d, d1, d2, rfl⟩ := GI_n (by omega) (by omega) c2
      have hE1 := XI_E X (by omega)
      obtain ⟨h', e1, O1⟩ := X_lot_L ha hb d2 (sE σ) 0 h eg_F (by omega) (by rw [eg_F_eq]; omega) X
      have e1' : fX12_lot_L40 eg_F h 16 (nI (10 * a + b)) (nI d) (nI (sE σ)) 0 0 = _ := e1
      obtain ⟨z1, z2⟩ := lot_dv (σ := σ) a b d hE1 hP.2
      refine ⟨h', ?_, O1⟩
      rw [if_pos (show (0 : Int32) < nI (sE σ) from nI_lt (a := 0) (by omega) (by omega)), e1', Option.bind_some, (dAB (a := a) (b := b) (by omega) (by omega)).1, (dAB (a := a) (b := b) (by omega) (by omega)).2, dN_n (by omega)]
      dsimp only
      rw [if_neg z1, z2]
    · rw [if_neg c2, if_neg (fun z => c2 z.2)]; exact ⟨h, rfl, XOk_rfl X⟩
  · rw [if_neg c1, if_neg (fun z => c1 z.1)]; exact ⟨h, rfl, XOk_rfl X⟩
theorem M_lot_L {a b d : Nat} (ha : a < sP σ) (hb : b < sP σ) (hd : d ≤ 1) : ∀ j i h F, i + j = sE σ → j < F → RI h σ → ∃ h', fX13_lot_L32 F h 54 (nI (10 * a + b)) (nI d) (jI (sm (fun e => hpS σ a b e d) i)) (nI i) = some (54, jI (sm (fun e => hpS σ a b e d) (sE σ)), h') ∧ ROk h h' σ := by
  intro j
  induction j with
  | zero =>
    intro i h F hi hF R
    obtain ⟨F, rfl⟩ : ∃ F', F = F' + 1 := ⟨F - 1, by omega⟩
    have hs := R.1
    have hE := (RI_P R).2
    obtain rfl : i = sE σ := by omega
    refine ⟨h, ?_, R, rfl, fun _ _ _ => ⟨rfl, rfl, rfl⟩⟩
    rw [fX13_lot_L32, gI_54 hs, Option.bind_some, R.2.2.2.1.2.2.2.2, if_pos (nI_le (Nat.le_refl _) (by omega))]
  | succ j ih =>
    intro i h F hi hF R
    obtain ⟨F, rfl⟩ : ∃ F', F = F' + 1 := ⟨F - 1, by omega⟩
    have hs := R.1
    have hE := (RI_P R).2
    obtain ⟨h1, e1, O1⟩ := M_hp R ha hb (e := i) (by omega) hd
    obtain ⟨h2, e3, O2⟩ := ih (i + 1) h1 F (by omega) (by omega) O1.1
    refine ⟨h2, ?_, ROk_tr O1 O2⟩
    have es : jI (sm (fun e => hpS σ a b e d) i) + jI (hpS σ a b i d) = jI (sm (fun e => hpS σ a b e d) (i + 1)) := by
      rw [jI_add]
      rfl
    rw [fX13_lot_L32, gI_54 hs, Option.bind_some, R.2.2.2.1.2.2.2.2, if_neg (nI_ge (by omega) (by omega)), k10, e1, Option.bind_some, nI_1]
    dsimp only
    rw [es, Option.bind_some]
    exact e3
theorem M_lot (R : RI h σ) (two t : Int32) : ∃ h', fX13_lot h 54 two t = some (aLot σ two t, h') ∧ ROk h h' σ := by
  obtain ⟨R0, Q0⟩ := R_0 R
  have hs := R.1
  have s0 := R0.1
  have hP := RI_P R
  unfold fX13_lot aLot
  rw [if_pos (iO_54 hs), pI_54 hs, Option.bind_some, M_isTwo s0 R0.2.2.2.1 two, Option.bind_some]
  dsimp only
  rw [g01]
  by_cases c1 : G2 (sP σ) two
  · rw [if_pos c1, M_GI (lo := 0) (hi := 1) _ t (by omega) (by omega) 0 1 rfl rfl, Option.bind_some]
    dsimp only
    rw [g01]
    by_cases c2 : GI (nI 0) (nI 1) t
    · rw [if_pos c2, if_pos (show G2 (sP σ) two ∧ GI (nI 0) (nI 1) t from ⟨c1, c2⟩)]
      obtain ⟨a, b, ha, hb, hab, rfl⟩ := G2_n hP.1 c1
      obtain ⟨d, d1, d2, rfl⟩ := GI_n (by omega) (by omega) c2
      have hE1 : 1 ≤ sE σ := (R.2.1.2.1.2.2.2 (by omega)).2.1
      obtain ⟨h', e1, O1⟩ := M_lot_L ha hb d2 (sE σ) 0 (eg_sI h 54 0 0) eg_F (by omega) (by rw [eg_F_eq]; omega) R0
      have e1' : fX13_lot_L32 eg_F (eg_sI h 54 0 0) 54 (nI (10 * a + b)) (nI d) 0 0 = _ := e1
      obtain ⟨z1, z2⟩ := lot_dv (σ := σ) a b d hE1 hP.2
      refine ⟨h', ?_, ROk_tr (ROk_scr R Q0) O1⟩
      rw [e1', Option.bind_some, (dAB (a := a) (b := b) (by omega) (by omega)).1, (dAB (a := a) (b := b) (by omega) (by omega)).2, dN_n (by omega)]
      dsimp only
      rw [gI_54 O1.1.1, Option.bind_some, O1.1.2.2.2.1.2.2.2.2, if_neg z1, z2]
    · rw [if_neg c2, if_neg (fun z => c2 z.2)]; exact ⟨_, rfl, ROk_scr R Q0⟩
  · rw [if_neg c1, if_neg (fun z => c1 z.1)]; exact ⟨_, rfl, ROk_scr R Q0⟩
theorem X_sure (X : XI h σ B) {a b e d y : Nat} (ha : a < sP σ) (hb : b < sP σ) (he : e < sE σ) (hd : d ≤ 1) (hy : y ≤ 60) : ∃ h', fX12_isSure h 16 (nI (10 * a + b)) (nI (10 * e + d)) (nI y) = some (if sureB σ a b e d y = true then 1 else 0, h') ∧ XOk h h' σ B := by
  have C := X.2.2.1
  have hs := C.1
  have hP := XI_P X
  have hU := XI_U X (by omega)
  obtain ⟨h', e1, G1', C1⟩ := X_of C hU ha hb he hd (y := y) hy hU.1.2.2.1
  have T := tOf_ok (d := d) hU hU.1.2.2.1 ha hb he
  have hb1 := bst_lt (lw := sL σ) T y
  have hg1 := bgd_le (lw := sL σ) T y
  have hS := (hU.2.1 a ha).1
  have e0 : fX7_told h 23 0 = some (nI (sU σ 0), h) := X_told hs C.2.1 (x := 0) (by omega)
  refine ⟨h', ?_, XOk_scr X (Sc_x G1') C1⟩
  unfold fX12_isSure sureB
  rw [if_pos (iO_16 hs), gR_16 hs, rf_16_16 hs, Option.bind_some, gR_16 hs, rf_16_3 hs, Option.bind_some, e0, Option.bind_some]
  dsimp only
  rw [e1, Option.bind_some]
  dsimp only
  rw [X_goodIn h' hb1 hg1, Option.bind_some]
  dsimp only
  rw [gR_16 C1.1, rf_16_3 C1.1, Option.bind_some, (i10 a b (by omega) (by omega)).1, X_slips C1.1 C1.2.1 hU ha, Option.bind_some]
  dsimp only
  by_cases c : bgd (sL σ) (tOf (sU σ) (sU σ 0) a b e d) y = 2 * sU σ (4 + 4 * a) + 1
  · rw [if_pos (by rw [c]), if_pos (by simp [c])]
  · rw [if_neg (fun z => c ((nI_eq (by omega) (by omega)).mp z)), if_neg (by simp [c])]
theorem X_safe_L {a b e d : Nat} (ha : a < sP σ) (hb : b < sP σ) (he : e < sE σ) (hd : d ≤ 1) : ∀ n h F, n ≤ 60 → n < F → XI h σ B → ∃ h' x, fX12_safe_L14 F h 16 (nI (10 * a + b)) (nI (10 * e + d)) (nI n) = some x ∧ (match x with
    | .inl h7 => (-1, h7)
    | .inr z => z) = ((if sfF (sureB σ a b e d) n = 0 then -1 else nI (sfF (sureB σ a b e d) n)), h') ∧ XOk h h' σ B := by
  intro n
  induction n with
  | zero =>
    intro h F hn hF X
    obtain ⟨F, rfl⟩ : ∃ F', F = F' + 1 := ⟨F - 1, by omega⟩
    exact ⟨h, .inl h, by rw [fX12_safe_L14, if_pos (by decide)], rfl, XOk_rfl X⟩
  | succ n ih =>
    intro h F hn hF X
    obtain ⟨F, rfl⟩ : ∃ F', F = F' + 1 := ⟨F - 1, by omega⟩
    obtain ⟨h1, e1, O1⟩ := X_sure X ha hb he hd (y := n + 1) (by omega)
    rw [fX12_safe_L14, if_neg (show ¬ nI (n + 1) < (1 : Int32) from nI_nlt (b := 1) (by omega) (by omega)), e1, Option.bind_some]
    dsimp only
    rw [g01]
    unfold sfF
    by_cases c : sureB σ a b e d (n + 1) = true
    · rw [if_pos c, if_pos c]
      refine ⟨h1, _, rfl, ?_, O1⟩
      rw [if_neg (by omega)]
    · rw [if_neg c, if_neg c, nI_p1]
      obtain ⟨h2, x, e2, e3, O2⟩ := ih h1 F (by omega) (by omega) O1.1
      exact ⟨h2, x, e2, e3, XOk_tr O1 O2⟩
theorem X_safe (X : XI h σ B) (two c : Int32) : ∃ h', fX12_safe h 16 two c = some (aSafe σ two c, h') ∧ XOk h h' σ B := by
  have C := X.2.2.1
  have hs := C.1
  have hP := XI_P X
  unfold fX12_safe aSafe
  rw [if_pos (iO_16 hs), X_isCourse hs C.2.1 two c, Option.bind_some]
  dsimp only
  rw [g01]
  by_cases c1 : G2 (sP σ) two ∧ GE (sE σ) c
  · rw [if_pos c1, if_pos c1]
    obtain ⟨a, b, ha, hb, hab, rfl⟩ := G2_n hP.1 c1.1
    obtain ⟨e, d, he, hd, rfl⟩ := GE_n hP.2 c1.2
    obtain ⟨h', x, e1, e2, O1⟩ := X_safe_L ha hb he hd 60 h eg_F (by omega) (by rw [eg_F_eq]; omega) X
    have e1' : fX12_safe_L14 eg_F h 16 (nI (10 * a + b)) (nI (10 * e + d)) 60 = some x := e1
    refine ⟨h', ?_, O1⟩
    rw [e1', Option.bind_some, (dAB (a := a) (b := b) (by omega) (by omega)).1, (dAB (a := a) (b := b) (by omega) (by omega)).2, (dAB (a := e) (b := d) (by omega) (by omega)).1, (dAB (a := e) (b := d) (by omega) (by omega)).2, ← e2]
    cases x <;> rfl
  · rw [if_neg c1, if_neg c1]; exact ⟨h, rfl, XOk_rfl X⟩
theorem M_allgood (R : RI h σ) {a b e d y : Nat} (ha : a < sP σ) (hb : b < sP σ) (he : e < sE σ) (hd : d ≤ 1) (hy : y ≤ 60) : ∃ h', fX13_layBest h 54 (nI a) (nI b) (nI (10 * e + d)) (nI y) = some h' ∧ eg_I h' 54 38 = nI (bgd (sL σ) (tOf (sU σ) (sU σ 0) a b e d) y) ∧ eg_aI h' 100 61 ((4 : Int32) * nI a) = some (nI (sU σ (4 + 4 * a))) ∧ ((nI (bgd (sL σ) (tOf (sU σ) (sU σ 0) a b e d) y) = 2 * nI (sU σ (4 + 4 * a)) + 1) ↔ sureB σ a b e d y = true) ∧ ROk h h' σ := by
  have O := RI_RO R (by omega)
  have hU := O.2.1
  obtain ⟨h', e1, E1, _, _, b3⟩ := M_best O ha hb he hd (y := y) hy
  have T := tOf_ok (d := d) hU hU.1.2.2.1 ha hb he
  have hg1 := bgd_le (lw := sL σ) T y
  have hS := (hU.2.1 a ha).1
  refine ⟨h', e1, b3, by rw [nI_k4, R_per (RO_B O E1) (by omega)], ?_, ROk_scr R (SB_x E1)⟩
  unfold sureB
  rw [nI_k2, nI_1, nI_eq (by omega) (by omega), decide_eq_true_eq]
theorem M_safe_L {a b e d : Nat} (ha : a < sP σ) (hb : b < sP σ) (he : e < sE σ) (hd : d ≤ 1) : ∀ n h F, n ≤ 60 → n < F → RI h σ → ∃ h' x, fX13_safe_L26 F h 54 (nI (10 * a + b)) (nI (10 * e + d)) (nI n) = some x ∧ (match x with
    | .inl h7 => (-1, h7)
    | .inr z => z) = ((if sfF (sureB σ a b e d) n = 0 then -1 else nI (sfF (sureB σ a b e d) n)), h') ∧ ROk h h' σ := by
  intro n
  induction n with
  | zero =>
    intro h F hn hF R
    obtain ⟨F, rfl⟩ : ∃ F', F = F' + 1 := ⟨F - 1, by omega⟩
    exact ⟨h, .inl h, by rw [fX13_safe_L26, if_pos (by decide)], rfl, R, rfl, fun _ _ _ => ⟨rfl, rfl, rfl⟩⟩
  | succ n ih =>
    intro h F hn hF R
    obtain ⟨F, rfl⟩ : ∃ F', F = F' + 1 := ⟨F - 1, by omega⟩
    have hP := RI_P R
    obtain ⟨h1, e1, b3, pe, iff, O1⟩ := M_allgood R ha hb he hd (y := n + 1) (by omega)
    have s1 := O1.1.1
    rw [fX13_safe_L26, if_neg (show ¬ nI (n + 1) ≤ (0 : Int32) from nI_ge (a := 0) (by omega) (by omega)), (i10 a b (by omega) (by omega)).1, (i10 a b (by omega) (by omega)).2, e1, Option.bind_some, gI_54 s1, b3, Option.bind_some, gR_54 s1, rf_54_20 s1, Option.bind_some, pe, Option.bind_some]
    unfold sfF
    by_cases c : sureB σ a b e d (n + 1) = true
    · rw [if_pos (iff.mpr c), if_pos c]
      refine ⟨h1, _, rfl, ?_, O1⟩
      rw [if_neg (by omega)]
    · rw [if_neg (fun z => c (iff.mp z)), if_neg c, nI_p1]
      obtain ⟨h2, x, e2, e3, O2⟩ := ih h1 F (by omega) (by omega) O1.1
      exact ⟨h2, x, e2, e3, ROk_tr O1 O2⟩
theorem M_safe (R : RI h σ) (two c : Int32) : ∃ h', fX13_safe h 54 two c = some (aSafe σ two c, h') ∧ ROk h h' σ := by
  obtain ⟨R0, Q0⟩ := R_0 R
  have hs := R.1
  have s0 := R0.1
  have hP := RI_P R
  unfold fX13_safe aSafe
  rw [if_pos (iO_54 hs), pI_54 hs, Option.bind_some, M_isTwo s0 R0.2.2.2.1 two, Option.bind_some]
  dsimp only
  rw [g01]
  by_cases c1 : G2 (sP σ) two
  · rw [if_pos c1, M_isFrom s0 R0.2.2.2.1 c, Option.bind_some]
    dsimp only
    rw [g01]
    by_cases c2 : GE (sE σ) c
    · rw [if_pos c2, if_pos (show G2 (sP σ) two ∧ GE (sE σ) c from ⟨c1, c2⟩)]
      obtain ⟨a, b, ha, hb, hab, rfl⟩ := G2_n hP.1 c1
      obtain ⟨e, d, he, hd, rfl⟩ := GE_n hP.2 c2
      obtain ⟨h', x, e1, e2, O1⟩ := M_safe_L ha hb he hd 60 (eg_sI h 54 0 0) eg_F (by omega) (by rw [eg_F_eq]; omega) R0
      have e1' : fX13_safe_L26 eg_F (eg_sI h 54 0 0) 54 (nI (10 * a + b)) (nI (10 * e + d)) 60 = some x := e1
      refine ⟨h', ?_, ROk_tr (ROk_scr R Q0) O1⟩
      rw [e1', Option.bind_some, (dAB (a := a) (b := b) (by omega) (by omega)).1, (dAB (a := a) (b := b) (by omega) (by omega)).2, (dAB (a := e) (b := d) (by omega) (by omega)).1, (dAB (a := e) (b := d) (by omega) (by omega)).2, ← e2]
      cases x <;> rfl
    · rw [if_neg c2, if_neg (fun z => c2 z.2)]; exact ⟨_, rfl, ROk_scr R Q0⟩
  · rw [if_neg c1, if_neg (fun z => c1 z.1)]; exact ⟨_, rfl, ROk_scr R Q0⟩
end LO
