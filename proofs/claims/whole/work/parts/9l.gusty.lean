section GU
variable {h : eg_H} {σ : eg_S} {B : Nat × Nat}
theorem gus_b (a b e d : Nat) : ∀ n, sm (hpW σ a b e d) n ≤ n * 60000000000 := by
  intro n
  induction n with
  | zero => exact Nat.le_refl _
  | succ n ih =>
    show sm _ n + hpW σ a b e d n ≤ _
    have := hpW_le σ a b e d n
    rw [Nat.succ_mul]
    omega
theorem gus_dv (a b e d : Nat) {g : Nat} (hg : g ≤ 9) : ¬ (nI (g + 1)).toInt64 = 0 ∧ jI (sm (hpW σ a b e d) (g + 1)) / (nI (g + 1)).toInt64 = jI (sm (hpW σ a b e d) (g + 1) / (g + 1) : Nat) := by
  have hb := gus_b (σ := σ) a b e d (g + 1)
  have hb2 : (g + 1) * 60000000000 ≤ 10 * 60000000000 := Nat.mul_le_mul_right _ (by omega)
  have hq : sm (hpW σ a b e d) (g + 1) / (g + 1) ≤ sm (hpW σ a b e d) (g + 1) := Nat.div_le_self _ _
  have h0 : (0 : Int) ≤ ((sm (hpW σ a b e d) (g + 1) / (g + 1) : Nat) : Int) := Int.natCast_nonneg _
  have e3 : ((sm (hpW σ a b e d) (g + 1) : Nat) : Int).tdiv ((g + 1 : Nat) : Int) = ((sm (hpW σ a b e d) (g + 1) / (g + 1) : Nat) : Int) := by
    rw [Int.tdiv_eq_ediv_of_nonneg (by omega), Int.natCast_ediv]
  rw [← iI_n, iI_w (by unfold i3; omega)]
  refine ⟨fun w => by have := (jI_eq (b := 0) (by unfold i6; omega) (by unfold i6; omega)).mp w; omega, ?_⟩
  rw [jI_div (by unfold i6; omega) (by unfold i6; omega) (by rw [e3]; unfold i6; omega), e3]
theorem X_gusty_L {a b e d g : Nat} (ha : a < sP σ) (hb : b < sP σ) (he : e < sE σ) (hd : d ≤ 1) (hg : g ≤ 9) : ∀ j i h F, i + j = g + 1 → j < F → XI h σ B → ∃ h', fX12_gusty_L29 F h 16 (nI (10 * a + b)) (nI (10 * e + d)) (nI g) (jI (sm (hpW σ a b e d) i)) (nI i) = some (nI g, jI (sm (hpW σ a b e d) (g + 1)), h') ∧ XOk h h' σ B := by
  intro j
  induction j with
  | zero =>
    intro i h F hi hF X
    obtain ⟨F, rfl⟩ : ∃ F', F = F' + 1 := ⟨F - 1, by omega⟩
    obtain rfl : i = g + 1 := by omega
    exact ⟨h, by rw [fX12_gusty_L29, if_pos (nI_lt (by omega) (by omega))], XOk_rfl X⟩
  | succ j ih =>
    intro i h F hi hF X
    obtain ⟨F, rfl⟩ : ∃ F', F = F' + 1 := ⟨F - 1, by omega⟩
    obtain ⟨h1, e1, O1⟩ := X_hopesIn X ha hb he hd (w := i) (by omega)
    obtain ⟨h2, e3, O2⟩ := ih (i + 1) h1 F (by omega) (by omega) O1.1
    refine ⟨h2, ?_, XOk_tr O1 O2⟩
    have es : jI (sm (hpW σ a b e d) i) + jI (hpW σ a b e d i) = jI (sm (hpW σ a b e d) (i + 1)) := by
      rw [jI_add]
      rfl
    rw [fX12_gusty_L29, if_neg (nI_nlt (by omega) (by omega)), e1, Option.bind_some, nI_1]
    dsimp only
    rw [es, Option.bind_some]
    exact e3
theorem X_gusty (X : XI h σ B) (two c g : Int32) : ∃ h', fX12_gusty h 16 two c g = some (aGusty σ two c g, h') ∧ XOk h h' σ B := by
  have C := X.2.2.1
  have hs := C.1
  have hP := XI_P X
  unfold fX12_gusty aGusty
  rw [if_pos (iO_16 hs), X_isCourse hs C.2.1 two c, Option.bind_some]
  dsimp only
  rw [g01]
  by_cases c1 : G2 (sP σ) two ∧ GE (sE σ) c
  · rw [if_pos c1]
    by_cases c3 : GI (nI 0) (nI 9) g
    · rw [if_neg (show ¬ g < 0 from c3.1), if_pos (show g ≤ (9 : Int32) from Int32.not_lt.mp c3.2), if_pos (show (G2 (sP σ) two ∧ GE (sE σ) c) ∧ GI (nI 0) (nI 9) g from ⟨c1, c3⟩)]
      obtain ⟨a, b, ha, hb, hab, rfl⟩ := G2_n hP.1 c1.1
      obtain ⟨e, d, he, hd, rfl⟩ := GE_n hP.2 c1.2
      obtain ⟨n, n1, n2, rfl⟩ := GI_n (by omega) (by omega) c3
      obtain ⟨h', e1, O1⟩ := X_gusty_L ha hb he hd n2 (n + 1) 0 h eg_F (by omega) (by rw [eg_F_eq]; omega) X
      have e1' : fX12_gusty_L29 eg_F h 16 (nI (10 * a + b)) (nI (10 * e + d)) (nI n) 0 0 = _ := e1
      obtain ⟨z1, z2⟩ := gus_dv (σ := σ) a b e d n2
      refine ⟨h', ?_, O1⟩
      rw [e1', Option.bind_some, (dAB (a := a) (b := b) (by omega) (by omega)).1, (dAB (a := a) (b := b) (by omega) (by omega)).2, (dAB (a := e) (b := d) (by omega) (by omega)).1, (dAB (a := e) (b := d) (by omega) (by omega)).2, dN_n (by omega)]
      dsimp only
      rw [nI_1, if_neg z1, z2]
    · rw [if_neg (show ¬ ((G2 (sP σ) two ∧ GE (sE σ) c) ∧ GI (nI 0) (nI 9) g) from fun z => c3 z.2)]
      by_cases c4 : g < 0
      · rw [if_pos c4]; exact ⟨h, rfl, XOk_rfl X⟩
      · rw [if_neg c4, if_neg (show ¬ g ≤ (9 : Int32) from fun z => c3 ⟨c4, Int32.not_lt.mpr z⟩)]; exact ⟨h, rfl, XOk_rfl X⟩
  · rw [if_neg c1, if_neg (fun z => c1 z.1)]; exact ⟨h, rfl, XOk_rfl X⟩
theorem M_gusty_L {a b e d g : Nat} {v : Int32} (O : RO h (sU σ) (sP σ) (sE σ) (sL σ)) (ha : a < sP σ) (hb : b < sP σ) (he : e < sE σ) (hd : d ≤ 1) (hg : g ≤ 9) : ∀ j i m x F, i + j = g + 1 → j < F → eg_eq SP (eg_sI h 59 0 x) m → ∃ m' y, fX13_gusty_L51 F m 54 (nI (10 * a + b)) (nI (10 * e + d)) (nI g) v (jI (sm (hpW σ a b e d) i)) (nI i) = some (54, nI g, v, jI (sm (hpW σ a b e d) (g + 1)), m') ∧ eg_eq SP (eg_sI h 59 0 y) m' := by
  intro j
  induction j with
  | zero =>
    intro i m x F hi hF Q
    obtain ⟨F, rfl⟩ : ∃ F', F = F' + 1 := ⟨F - 1, by omega⟩
    obtain rfl : i = g + 1 := by omega
    exact ⟨m, x, by rw [fX13_gusty_L51, if_pos (nI_lt (by omega) (by omega))], Q⟩
  | succ j ih =>
    intro i m x F hi hF Q
    obtain ⟨F, rfl⟩ : ∃ F', F = F' + 1 := ⟨F - 1, by omega⟩
    obtain ⟨g1, e0, e1, Q1⟩ := M_hopeW O Q ha hb he hd (w := i) (by omega)
    obtain ⟨g2, y, e3, Q2⟩ := ih (i + 1) g1 (nI i) F (by omega) (by omega) Q1
    refine ⟨g2, y, ?_, Q2⟩
    have sg : eg_stt m := eq_stt Q O.1 (by decide)
    have es : jI (sm (hpW σ a b e d) i) + jI (hpW σ a b e d i) = jI (sm (hpW σ a b e d) (i + 1)) := by
      rw [jI_add]
      rfl
    rw [gR_54 sg, rf_54_18 sg, Option.bind_some] at e0
    rw [fX13_gusty_L51, if_neg (nI_nlt (by omega) (by omega)), gR_54 sg, rf_54_18 sg, Option.bind_some, e0, Option.bind_some, e1, Option.bind_some, nI_1]
    dsimp only
    rw [es, Option.bind_some]
    exact e3
theorem M_gusty (R : RI h σ) (two c g : Int32) : ∃ h', fX13_gusty h 54 two c g = some (aGusty σ two c g, h') ∧ ROk h h' σ := by
  obtain ⟨R0, Q0⟩ := R_0 R
  have hs := R.1
  have s0 := R0.1
  have hP := RI_P R
  unfold fX13_gusty aGusty
  rw [if_pos (iO_54 hs), pI_54 hs, Option.bind_some, M_isTwo s0 R0.2.2.2.1 two, Option.bind_some]
  dsimp only
  rw [g01]
  by_cases c1 : G2 (sP σ) two
  · rw [if_pos c1, M_isFrom s0 R0.2.2.2.1 c, Option.bind_some]
    dsimp only
    rw [g01]
    by_cases c2 : GE (sE σ) c
    · rw [if_pos c2, M_GI (lo := 0) (hi := 9) _ g (by omega) (by omega) 0 9 rfl rfl, Option.bind_some]
      dsimp only
      rw [g01]
      by_cases c3 : GI (nI 0) (nI 9) g
      · rw [if_pos c3, if_pos (show (G2 (sP σ) two ∧ GE (sE σ) c) ∧ GI (nI 0) (nI 9) g from ⟨⟨c1, c2⟩, c3⟩)]
        obtain ⟨a, b, ha, hb, hab, rfl⟩ := G2_n hP.1 c1
        obtain ⟨e, d, he, hd, rfl⟩ := GE_n hP.2 c2
        obtain ⟨n, n1, n2, rfl⟩ := GI_n (by omega) (by omega) c3
        have O := RI_RO R0 (by omega)
        let h0 := eg_sI h 54 0 0
        have e0 : eg_aI h0 100 59 0 = some (nI (sU σ 0)) := R_mea O (x := 0) (by omega)
        have v0 : eg_I h0 59 0 = nI (sU σ 0) := O.2.2.1.1 0 (by omega)
        obtain ⟨m, y, e1, Q1⟩ := M_gusty_L (v := nI (sU σ 0)) O ha hb he hd n2 (n + 1) 0 h0 (eg_I h0 59 0) eg_F (by omega) (by rw [eg_F_eq]; omega) (by rw [sI_same]; exact eq_rfl)
        have e1' : fX13_gusty_L51 eg_F h0 54 (nI (10 * a + b)) (nI (10 * e + d)) (nI n) (nI (sU σ 0)) 0 0 = _ := e1
        have Qb := eq_back Q1
        have sg : eg_stt m := eq_stt Q1 s0 (by decide)
        obtain ⟨z1, z2⟩ := gus_dv (σ := σ) a b e d n2
        refine ⟨eg_sI m 59 0 (eg_I h0 59 0), ?_, ROk_scr R (eq_tr Q0 (SP_x Qb))⟩
        show ((eg_gR h0 13 18 54).bind _) = _
        rw [gR_54 s0, rf_54_18 s0, Option.bind_some, e0, Option.bind_some, e1', Option.bind_some, (dAB (a := a) (b := b) (by omega) (by omega)).1, (dAB (a := a) (b := b) (by omega) (by omega)).2, (dAB (a := e) (b := d) (by omega) (by omega)).1, (dAB (a := e) (b := d) (by omega) (by omega)).2, dN_n (by omega)]
        dsimp only
        rw [gR_54 sg, rf_54_18 sg, Option.bind_some, wI_59 sg (by decide) (by decide), Option.bind_some, v0, nI_1, if_neg z1, z2]
        rfl
      · rw [if_neg c3, if_neg (fun z => c3 z.2)]; exact ⟨_, rfl, ROk_scr R Q0⟩
    · rw [if_neg c2, if_neg (fun z => c2 z.1.2)]; exact ⟨_, rfl, ROk_scr R Q0⟩
  · rw [if_neg c1, if_neg (fun z => c1 z.1.1)]; exact ⟨_, rfl, ROk_scr R Q0⟩
end GU
