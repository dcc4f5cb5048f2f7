def upU (U : Nat → Nat) (i v : Nat) : Nat → Nat := fun x => if x = i then v else U x
theorem eq_wr {S : List (Nat × Option Nat)} {h g : eg_H} {p i : Nat} {x : Int32} (y : Int32) (Q : eg_eq S (eg_sI h p i x) g) : eg_eq S (eg_sI h p i y) (eg_sI g p i y) := ⟨Q.1, fun q j hc => by
  obtain ⟨a1, a2, a3⟩ := Q.2 q j hc
  refine ⟨?_, a2, a3⟩
  rw [I_sI, I_sI]
  by_cases c : q = p ∧ j = i
  · rw [if_pos c, if_pos c]
  · rw [if_neg c, if_neg c, a1, I_sI, if_neg c]⟩
theorem sI_same (h : eg_H) (p i : Nat) : eg_sI h p i (eg_I h p i) = h := fin_ext rfl (fun q j => by
  show (if q = p ∧ j = i then eg_I h p i else h.2.1 q j) = h.2.1 q j
  by_cases c : q = p ∧ j = i
  · rw [if_pos c, c.1, c.2]; rfl
  · rw [if_neg c]) rfl
theorem eq_back {S : List (Nat × Option Nat)} {h g : eg_H} {p i : Nat} {x : Int32} (Q : eg_eq S (eg_sI h p i x) g) : eg_eq S h (eg_sI g p i (eg_I h p i)) := by
  have := eq_wr (eg_I h p i) Q
  rw [sI_same] at this
  exact this
theorem tOf_w {U : Nat → Nat} {w wd p r e d : Nat} : tOf (upU U 0 w) wd p r e d = tOf U wd p r e d := by
  have hu : ∀ x, 0 < x → upU U 0 w x = U x := fun x hx => if_neg (by omega)
  unfold tOf blw limU
  rw [hu 1 (by omega), hu (4 + 4 * p) (by omega), hu (7 + 4 * p) (by omega), hu (5 + 4 * r) (by omega), hu (6 + 4 * r) (by omega), hu (29 + 2 * e) (by omega), hu (28 + 2 * e) (by omega)]
theorem pt_w {U : Nat → Nat} {lw : eg_LW} {w wd a b e d st : Nat} : ∀ k, ptF (upU U 0 w) lw wd a b e d st k = ptF U lw wd a b e d st k := by
  have hu : ∀ x, 0 < x → upU U 0 w x = U x := fun x hx => if_neg (by omega)
  intro k
  induction k with
  | zero => rfl
  | succ k ih =>
    have ey : yK (upU U 0 w) st (k + 1) = yK U st (k + 1) := by
      unfold yK
      rw [hu 3 (by omega)]
    have et : tK (upU U 0 w) wd a b e d (k + 1) = tK U wd a b e d (k + 1) := by
      unfold tK
      exact tOf_w
    show (if 60 < yK (upU U 0 w) st (k + 1) ∨ ptF (upU U 0 w) lw wd a b e d st k = 0 then 0 else ptF (upU U 0 w) lw wd a b e d st k * bgd lw (tK (upU U 0 w) wd a b e d (k + 1)) (yK (upU U 0 w) st (k + 1)) / (2 * upU U 0 w (4 + 4 * fOd (k + 1) a b) + 1)) = _
    rw [ey, et, ih, hu (4 + 4 * fOd (k + 1) a b) (by omega)]
    rfl
theorem Uok_w {U : Nat → Nat} {P E w : Nat} (h : Uok U P E) (hw : w ≤ 9) : Uok (upU U 0 w) P E := by
  have hu : ∀ x, 0 < x → upU U 0 w x = U x := fun x hx => if_neg (by omega)
  obtain ⟨⟨a1, a2, a3, a4, a5, a6, a7, a8⟩, b, c⟩ := h
  refine ⟨⟨a1, a2, hw, ?_, ?_, ?_, ?_, ?_⟩, fun p hp => ?_, fun e he => ?_⟩
  · rw [hu 1 (by omega)]; exact a4
  · rw [hu 2 (by omega)]; exact a5
  · rw [hu 2 (by omega)]; exact a6
  · rw [hu 3 (by omega)]; exact a7
  · rw [hu 3 (by omega)]; exact a8
  · rw [hu (4 + 4 * p) (by omega), hu (5 + 4 * p) (by omega), hu (6 + 4 * p) (by omega), hu (7 + 4 * p) (by omega)]; exact b p hp
  · rw [hu (28 + 2 * e) (by omega), hu (29 + 2 * e) (by omega)]; exact c e he
def hpW (σ : eg_S) (a b e d w : Nat) : Nat := hpF (ptF (sU σ) (sL σ) w a b e d (sU σ 2)) 60
theorem hpW_le (σ : eg_S) (a b e d w : Nat) : hpW σ a b e d w ≤ 60000000000 := by
  have := hp_le (f := ptF (sU σ) (sL σ) w a b e d (sU σ 2)) (M := 1000000000) (fun i => pt_le i) 60
  unfold hpW
  omega
def aCalm (σ : eg_S) (two c w : Int32) : Int64 := if (G2 (sP σ) two ∧ GE (sE σ) c) ∧ GI (nI 0) (nI 1) w then (if w = 0 then jI (bi (hpW σ (dA two) (dB two) (dA c) (dB c)) 10) else jI (hpW σ (dA two) (dB two) (dA c) (dB c) (bi (hpW σ (dA two) (dB two) (dA c) (dB c)) 10))) else -1
def aGusty (σ : eg_S) (two c g : Int32) : Int64 := if (G2 (sP σ) two ∧ GE (sE σ) c) ∧ GI (nI 0) (nI 9) g then jI (sm (hpW σ (dA two) (dB two) (dA c) (dB c)) (dN g + 1) / (dN g + 1) : Nat) else -1
section CA
variable {h : eg_H} {σ : eg_S} {B : Nat × Nat}
theorem X_hopesIn (X : XI h σ B) {a b e d w : Nat} (ha : a < sP σ) (hb : b < sP σ) (he : e < sE σ) (hd : d ≤ 1) (hw : w ≤ 9) : ∃ h', fX12_hopesIn h 16 (nI w) (nI (10 * a + b)) (nI (10 * e + d)) = some (jI (hpW σ a b e d w), h') ∧ XOk h h' σ B := by
  have hU := XI_U X (by omega)
  have C := X.2.2.1
  have hs := C.1
  have hc : isC 41 := Or.inl rfl
  obtain ⟨h', e1, G1, C1, K1⟩ := X_crs hc hU C ha hb he hd (wd := w) (st := sU σ 2) hw (by have := hU.1.2.2.2.2.2.1; omega)
  have s1 := C1.1
  refine ⟨h', ?_, XOk_scr X (SC_x hc G1) C1⟩
  have e2 : fX7_told h 23 2 = some (nI (sU σ 2), h) := X_told hs C.2.1 (x := 2) (by omega)
  have hR : ∀ g, eg_stt g → eg_aR g 112 40 0 = some 41 := fun g hg => by
    unfold eg_aR
    rw [if_pos ⟨by omega, by rw [kd_40 hg], by decide, by rw [kd_40 hg]; decide⟩]
    exact rf_40_0 hg
  have eh : fX2_hopes h' 41 = some (jI (hpW σ a b e d w), h') := by
    unfold fX2_hopes
    rw [if_pos (iO_41 s1), gL_41 s1, Option.bind_some, K1.2.2.2.2]
    rfl
  unfold fX12_hopesIn
  rw [if_pos (iO_16 hs), gR_16 hs, rf_16_17 hs, Option.bind_some, hR h hs, Option.bind_some, gR_16 hs, rf_16_16 hs, Option.bind_some, gR_16 hs, rf_16_3 hs, Option.bind_some, e2, Option.bind_some]
  dsimp only
  rw [e1, Option.bind_some, gR_16 s1, rf_16_17 s1, Option.bind_some, hR h' s1, Option.bind_some, eh, Option.bind_some]
theorem X_calm_L {a b e d : Nat} {w : Int32} (ha : a < sP σ) (hb : b < sP σ) (he : e < sE σ) (hd : d ≤ 1) : ∀ j i h F, i + j = 10 → j < F → XI h σ B → ∃ h', fX12_calm_L31 F h 16 (nI (10 * a + b)) (nI (10 * e + d)) w (mo (hpW σ a b e d) i) (wI (hpW σ a b e d) 0 i) (nI i) = some (w, mo (hpW σ a b e d) 10, wI (hpW σ a b e d) 0 10, h') ∧ XOk h h' σ B := by
  have hG : ∀ k, hpW σ a b e d k ≤ 1000000000000000 := fun k => Nat.le_trans (hpW_le σ a b e d k) (by omega)
  intro j
  induction j with
  | zero =>
    intro i h F hi hF X
    obtain ⟨F, rfl⟩ : ∃ F', F = F' + 1 := ⟨F - 1, by omega⟩
    obtain rfl : i = 10 := by omega
    exact ⟨h, by rw [fX12_calm_L31, if_pos (by decide)], XOk_rfl X⟩
  | succ j ih =>
    intro i h F hi hF X
    obtain ⟨F, rfl⟩ : ∃ F', F = F' + 1 := ⟨F - 1, by omega⟩
    obtain ⟨h1, e1, O1⟩ := X_hopesIn X ha hb he hd (w := i) (by omega)
    obtain ⟨h2, e3, O2⟩ := ih (i + 1) h1 F (by omega) (by omega) O1.1
    refine ⟨h2, ?_, XOk_tr O1 O2⟩
    rw [mo_s hG, wI_s hG] at e3
    rw [fX12_calm_L31, if_neg (show ¬ (9 : Int32) < nI i from nI_nlt (a := 9) (by omega) (by omega)), e1, Option.bind_some, nI_1]
    dsimp only
    by_cases c : jI (hpW σ a b e d i) ≤ mo (hpW σ a b e d) i
    · rw [if_pos c, if_pos c] at e3
      rw [if_pos c]
      exact e3
    · rw [if_neg c, if_neg c] at e3
      rw [if_neg c]
      exact e3
theorem X_calm (X : XI h σ B) (two c w : Int32) : ∃ h', fX12_calm h 16 two c w = some (aCalm σ two c w, h') ∧ XOk h h' σ B := by
  have C := X.2.2.1
  have hs := C.1
  have hP := XI_P X
  unfold fX12_calm aCalm
  rw [if_pos (iO_16 hs), X_isCourse hs C.2.1 two c, Option.bind_some]
  dsimp only
  rw [g01]
  by_cases c1 : G2 (sP σ) two ∧ GE (sE σ) c
  · rw [if_pos c1, X_isEither h w, Option.bind_some]
    dsimp only
    rw [g01]
    by_cases c3 : GI (nI 0) (nI 1) w
    · rw [if_pos c3, if_pos (show (G2 (sP σ) two ∧ GE (sE σ) c) ∧ GI (nI 0) (nI 1) w from ⟨c1, c3⟩)]
      obtain ⟨a, b, ha, hb, hab, rfl⟩ := G2_n hP.1 c1.1
      obtain ⟨e, d, he, hd, rfl⟩ := GE_n hP.2 c1.2
      obtain ⟨h', e1, O1⟩ := X_calm_L (w := w) ha hb he hd 10 0 h eg_F (by omega) (by rw [eg_F_eq]; omega) X
      have e1' : fX12_calm_L31 eg_F h 16 (nI (10 * a + b)) (nI (10 * e + d)) w (-1) 0 0 = _ := e1
      refine ⟨h', ?_, O1⟩
      have hbi := bi_lt (hpW σ a b e d) 10 (by omega)
      rw [e1', Option.bind_some, (dAB (a := a) (b := b) (by omega) (by omega)).1, (dAB (a := a) (b := b) (by omega) (by omega)).2, (dAB (a := e) (b := d) (by omega) (by omega)).1, (dAB (a := e) (b := d) (by omega) (by omega)).2]
      dsimp only
      have em : mo (hpW σ a b e d) 10 = jI (hpW σ a b e d (bi (hpW σ a b e d) 10)) := if_neg (by omega)
      have ew : wI (hpW σ a b e d) 0 10 = nI (bi (hpW σ a b e d) 10) := if_neg (by omega)
      rw [em, ew]
      by_cases w0 : w = 0
      · rw [if_pos w0, if_pos w0, ← iI_n, iI_w (by unfold i3; omega)]
      · rw [if_neg w0, if_neg w0]
    · rw [if_neg c3, if_neg (fun z => c3 z.2)]; exact ⟨h, rfl, XOk_rfl X⟩
  · rw [if_neg c1, if_neg (fun z => c1 z.1)]; exact ⟨h, rfl, XOk_rfl X⟩
theorem M_hopeO {U : Nat → Nat} {P E : Nat} {lw : eg_LW} (O : RO h U P E lw) {a b e d : Nat} (ha : a < P) (hb : b < P) (he : e < E) (hd : d ≤ 1) : ∃ h', fX13_hopeOf h 54 (nI (10 * a + b)) (nI (10 * e + d)) = some (jI (hpF (ptF U lw (U 0) a b e d (U 2)) 60), h') ∧ eg_eq SP h h' := by
  have hs := O.1
  have hU := O.2.1
  obtain ⟨h', e1, E1, K1⟩ := M_pair O ha hb he hd (st := U 2) (n := 60) (by have := hU.1.2.2.2.2.2.1; omega) (by omega)
  have s1 := eq_stt E1 hs (by decide)
  refine ⟨h', ?_, E1⟩
  have e2 : eg_aI h 100 59 2 = some (nI (U 2)) := R_mea O (x := 2) (by omega)
  have e1' : fX13_goPair h 54 (nI (10 * a + b)) (nI (10 * e + d)) (nI (U 2)) 60 = _ := e1
  have hp := pt_le (U := U) (lw := lw) (wd := U 0) (a := a) (b := b) (e := e) (d := d) (st := U 2) 60
  unfold fX13_hopeOf
  rw [if_pos (iO_54 hs), gR_54 hs, rf_54_18 hs, Option.bind_some, e2, Option.bind_some, e1', Option.bind_some]
  show (if 0 ≤ nI (ptF U lw (U 0) a b e d (U 2) 60) then _ else _) = _
  rw [if_pos (show (0 : Int32) ≤ nI _ from nI_le (a := 0) (by omega) (by omega)), gL_54 s1, Option.bind_some, K1.2.2]
theorem RO_w {U : Nat → Nat} {P E w : Nat} {lw : eg_LW} (O : RO h U P E lw) (hw : w ≤ 9) : RO (eg_sI h 59 0 (nI w)) (upU U 0 w) P E lw := by
  obtain ⟨o1, o2, ⟨v1, v2, v3, v4, v5⟩, o4⟩ := O
  have hu : ∀ x, 0 < x → upU U 0 w x = U x := fun x hx => if_neg (by omega)
  refine ⟨o1, Uok_w o2 hw, ⟨fun x hx => ?_, fun x hx => ?_, fun x hx => ?_, ?_, ?_⟩, ?_⟩
  · rw [I_sI]
    by_cases c : x = 0
    · subst c
      rw [if_pos ⟨rfl, rfl⟩]
      rfl
    · rw [if_neg (fun z => c z.2), hu x (by omega)]; exact v1 x hx
  · rw [I_sI, if_neg (by omega), hu (4 + x) (by omega)]; exact v2 x hx
  · rw [I_sI, if_neg (by omega), hu (28 + x) (by omega)]; exact v3 x hx
  · rw [I_sI, if_neg (by omega)]; exact v4
  · rw [I_sI, if_neg (by omega)]; exact v5
  · cases lw with
    | none => show eg_I (eg_sI h 59 0 (nI w)) 54 34 = -1; rw [I_sI, if_neg (by omega)]; exact o4
    | some f =>
      obtain ⟨j, n, t, u, a1, a2, a3, a4, a5, a6, a7, a8⟩ := o4
      refine ⟨j, n, t, u, a1, a2, ?_, ?_, a5, fun i hi => ?_, a7, a8⟩
      · rw [I_sI, if_neg (by omega)]; exact a3
      · rw [I_sI, if_neg (by omega)]; exact a4
      · rw [I_sI, if_neg (by omega)]; exact a6 i hi
theorem M_hopeW {a b e d w : Nat} {g : eg_H} {x : Int32} (O : RO h (sU σ) (sP σ) (sE σ) (sL σ)) (Q : eg_eq SP (eg_sI h 59 0 x) g) (ha : a < sP σ) (hb : b < sP σ) (he : e < sE σ) (hd : d ≤ 1) (hw : w ≤ 9) : ∃ g', ((eg_gR g 13 18 54).bind fun p2 => eg_wI g 100 p2 0 (nI w)) = some (eg_sI g 59 0 (nI w)) ∧ fX13_hopeOf (eg_sI g 59 0 (nI w)) 54 (nI (10 * a + b)) (nI (10 * e + d)) = some (jI (hpW σ a b e d w), g') ∧ eg_eq SP (eg_sI h 59 0 (nI w)) g' := by
  have Q1 := eq_wr (nI w) Q
  have O1 : RO (eg_sI g 59 0 (nI w)) (upU (sU σ) 0 w) (sP σ) (sE σ) (sL σ) := RO_P (RO_w O hw) Q1
  obtain ⟨g', e1, E1⟩ := M_hopeO O1 ha hb he hd
  have sg : eg_stt g := eq_stt Q O.1 (by decide)
  refine ⟨g', ?_, ?_, eq_tr Q1 E1⟩
  · rw [gR_54 sg, rf_54_18 sg, Option.bind_some, wI_59 sg (by decide) (by decide)]
    rfl
  · rw [e1]
    have e0 : upU (sU σ) 0 w 0 = w := if_pos rfl
    have e2 : upU (sU σ) 0 w 2 = sU σ 2 := if_neg (by omega)
    rw [e0, e2]
    have : ptF (upU (sU σ) 0 w) (sL σ) w a b e d (sU σ 2) = ptF (sU σ) (sL σ) w a b e d (sU σ 2) := funext (fun k => pt_w k)
    rw [this]
    rfl
theorem M_calm_L {a b e d : Nat} {w v : Int32} (O : RO h (sU σ) (sP σ) (sE σ) (sL σ)) (ha : a < sP σ) (hb : b < sP σ) (he : e < sE σ) (hd : d ≤ 1) : ∀ j i g x F, i + j = 10 → j < F → eg_eq SP (eg_sI h 59 0 x) g → ∃ g' y, fX13_calm_L56 F g 54 (nI (10 * a + b)) (nI (10 * e + d)) w v (wJ (hpW σ a b e d) (-1) i) (mo (hpW σ a b e d) i) (nI i) = some (54, w, v, wJ (hpW σ a b e d) (-1) 10, mo (hpW σ a b e d) 10, g') ∧ eg_eq SP (eg_sI h 59 0 y) g' := by
  have hG : ∀ k, hpW σ a b e d k ≤ 1000000000000000 := fun k => Nat.le_trans (hpW_le σ a b e d k) (by omega)
  intro j
  induction j with
  | zero =>
    intro i g x F hi hF Q
    obtain ⟨F, rfl⟩ : ∃ F', F = F' + 1 := ⟨F - 1, by omega⟩
    obtain rfl : i = 10 := by omega
    exact ⟨g, x, by rw [fX13_calm_L56, if_pos (by decide)], Q⟩
  | succ j ih =>
    intro i g x F hi hF Q
    obtain ⟨F, rfl⟩ : ∃ F', F = F' + 1 := ⟨F - 1, by omega⟩
    obtain ⟨g1, e0, e1, Q1⟩ := M_hopeW O Q ha hb he hd (w := i) (by omega)
    obtain ⟨g2, y, e3, Q2⟩ := ih (i + 1) g1 (nI i) F (by omega) (by omega) Q1
    refine ⟨g2, y, ?_, Q2⟩
    have sg : eg_stt g := eq_stt Q O.1 (by decide)
    rw [mo_s hG, wJ_s hG] at e3
    rw [gR_54 sg, rf_54_18 sg, Option.bind_some] at e0
    rw [fX13_calm_L56, if_neg (show ¬ (10 : Int32) ≤ nI i from nI_ge (b := 10) (by omega) (by omega)), gR_54 sg, rf_54_18 sg, Option.bind_some, e0, Option.bind_some, e1, Option.bind_some, nI_1]
    dsimp only
    by_cases c : jI (hpW σ a b e d i) ≤ mo (hpW σ a b e d) i
    · rw [if_pos c, if_pos c] at e3
      rw [if_neg (Int64.not_lt.mpr c)]
      exact e3
    · rw [if_neg c, if_neg c] at e3
      rw [if_pos (Int64.not_le.mp c), Option.bind_some, ← iI_n i, iI_w (by unfold i3; omega)]
      exact e3
theorem M_calm (R : RI h σ) (two c w : Int32) : ∃ h', fX13_calm h 54 two c w = some (aCalm σ two c w, h') ∧ ROk h h' σ := by
  obtain ⟨R0, Q0⟩ := R_0 R
  have hs := R.1
  have s0 := R0.1
  have hP := RI_P R
  unfold fX13_calm aCalm
  rw [if_pos (iO_54 hs), pI_54 hs, Option.bind_some, M_isTwo s0 R0.2.2.2.1 two, Option.bind_some]
  dsimp only
  rw [g01]
  by_cases c1 : G2 (sP σ) two
  · rw [if_pos c1, M_isFrom s0 R0.2.2.2.1 c, Option.bind_some]
    dsimp only
    rw [g01]
    by_cases c2 : GE (sE σ) c
    · rw [if_pos c2, M_GI (lo := 0) (hi := 1) _ w (by omega) (by omega) 0 1 rfl rfl, Option.bind_some]
      dsimp only
      rw [g01]
      by_cases c3 : GI (nI 0) (nI 1) w
      · rw [if_pos c3, if_pos (show (G2 (sP σ) two ∧ GE (sE σ) c) ∧ GI (nI 0) (nI 1) w from ⟨⟨c1, c2⟩, c3⟩)]
        obtain ⟨a, b, ha, hb, hab, rfl⟩ := G2_n hP.1 c1
        obtain ⟨e, d, he, hd, rfl⟩ := GE_n hP.2 c2
        have O := RI_RO R0 (by omega)
        let h0 := eg_sI h 54 0 0
        have e0 : eg_aI h0 100 59 0 = some (nI (sU σ 0)) := R_mea O (x := 0) (by omega)
        have v0 : eg_I h0 59 0 = nI (sU σ 0) := O.2.2.1.1 0 (by omega)
        obtain ⟨g, y, e1, Q1⟩ := M_calm_L (w := w) (v := nI (sU σ 0)) O ha hb he hd 10 0 h0 (eg_I h0 59 0) eg_F (by omega) (by rw [eg_F_eq]; omega) (by rw [sI_same]; exact eq_rfl)
        have e1' : fX13_calm_L56 eg_F h0 54 (nI (10 * a + b)) (nI (10 * e + d)) w (nI (sU σ 0)) (-1) (-1) 0 = _ := e1
        have Qb := eq_back Q1
        have sg : eg_stt g := eq_stt Q1 s0 (by decide)
        refine ⟨eg_sI g 59 0 (eg_I h0 59 0), ?_, ROk_scr R (eq_tr Q0 (SP_x Qb))⟩
        show ((eg_gR h0 13 18 54).bind _) = _
        rw [gR_54 s0, rf_54_18 s0, Option.bind_some, e0, Option.bind_some, e1', Option.bind_some, (dAB (a := a) (b := b) (by omega) (by omega)).1, (dAB (a := a) (b := b) (by omega) (by omega)).2, (dAB (a := e) (b := d) (by omega) (by omega)).1, (dAB (a := e) (b := d) (by omega) (by omega)).2]
        dsimp only
        rw [gR_54 sg, rf_54_18 sg, Option.bind_some, wI_59 sg (by decide) (by decide), Option.bind_some, v0]
        have em : mo (hpW σ a b e d) 10 = jI (hpW σ a b e d (bi (hpW σ a b e d) 10)) := if_neg (by omega)
        have ew : wJ (hpW σ a b e d) (-1) 10 = jI (bi (hpW σ a b e d) 10) := if_neg (by omega)
        rw [em, ew]
        by_cases w0 : w = 0
        · rw [if_pos w0, if_pos w0]
          rfl
        · rw [if_neg w0, if_neg w0]
          rfl
      · rw [if_neg c3, if_neg (fun z => c3 z.2)]; exact ⟨_, rfl, ROk_scr R Q0⟩
    · rw [if_neg c2, if_neg (fun z => c2 z.1.2)]; exact ⟨_, rfl, ROk_scr R Q0⟩
  · rw [if_neg c1, if_neg (fun z => c1 z.1.1)]; exact ⟨_, rfl, ROk_scr R Q0⟩
end CA
