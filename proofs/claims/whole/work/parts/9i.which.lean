theorem gc_tr {h h1 h2 : eg_H} (a : eg_gc h h1) (b : eg_gc h1 h2) : eg_gc h h2 := fun p i x y => ⟨(b p i x y).1.trans (a p i x y).1, (b p i x y).2.1.trans (a p i x y).2.1, (b p i x y).2.2.trans (a p i x y).2.2⟩
theorem rf_tr {h h1 h2 : eg_H} (a : eg_rf h h1) (b : eg_rf h1 h2) : eg_rf h h2 := ⟨b.1.trans a.1, fun p i x => ⟨(b.2 p i x).1.trans (a.2 p i x).1, (b.2 p i x).2.1.trans (a.2 p i x).2.1, (b.2 p i x).2.2.trans (a.2 p i x).2.2⟩⟩
theorem XOk_tr {h h1 h2 : eg_H} {σ : eg_S} {B : Nat × Nat} (a : XOk h h1 σ B) (b : XOk h1 h2 σ B) : XOk h h2 σ B := ⟨b.1, gc_tr a.2 b.2⟩
theorem ROk_tr {h h1 h2 : eg_H} {σ : eg_S} (a : ROk h h1 σ) (b : ROk h1 h2 σ) : ROk h h2 σ := ⟨b.1, rf_tr a.2 b.2⟩
def hpS (σ : eg_S) (a b e d : Nat) : Nat := hpF (ptS σ a b e d) 60
theorem hpS_le (σ : eg_S) (a b e d : Nat) : hpS σ a b e d ≤ 60000000000 := by
  have := hp_le (f := ptS σ a b e d) (M := 1000000000) (fun i => pt_le i) 60
  unfold hpS
  omega
def mo (G : Nat → Nat) (i : Nat) : Int64 := if i = 0 then -1 else jI (G (bi G i))
def wI (G : Nat → Nat) (w : Int32) (i : Nat) : Int32 := if i = 0 then w else nI (bi G i)
def wJ (G : Nat → Nat) (w : Int64) (i : Nat) : Int64 := if i = 0 then w else jI (bi G i)
section MX
variable {G : Nat → Nat}
theorem mo_le (hG : ∀ k, G k ≤ 1000000000000000) (i : Nat) : (jI (G i) ≤ mo G i) ↔ ¬ (i = 0 ∨ G (bi G i) < G i) := by
  have h1 := hG i
  have h2 := hG (bi G i)
  unfold mo
  by_cases c : i = 0
  · rw [if_pos c, show (-1 : Int64) = jI (-1) by decide, jI_le (by unfold i6; omega) (by unfold i6; omega)]
    omega
  · rw [if_neg c, jI_le (by unfold i6; omega) (by unfold i6; omega)]
    omega
theorem bi_up (i : Nat) : bi G (i + 1) = if i = 0 ∨ G (bi G i) < G i then i else bi G i := by
  show (if G (bi G i) < G i then i else bi G i) = _
  by_cases c : i = 0
  · subst c
    rw [if_pos (Or.inl rfl)]
    show (if _ then 0 else 0) = 0
    split <;> rfl
  · by_cases c2 : G (bi G i) < G i
    · rw [if_pos c2, if_pos (Or.inr c2)]
    · rw [if_neg c2, if_neg (by omega)]
theorem mo_s (hG : ∀ k, G k ≤ 1000000000000000) (i : Nat) : mo G (i + 1) = if jI (G i) ≤ mo G i then mo G i else jI (G i) := by
  have e : mo G (i + 1) = jI (G (bi G (i + 1))) := if_neg (by omega)
  rw [e, bi_up]
  by_cases c : i = 0 ∨ G (bi G i) < G i
  · rw [if_pos c, if_neg (fun z => (mo_le hG i).mp z c)]
  · rw [if_neg c, if_pos ((mo_le hG i).mpr c)]
    exact (if_neg (by omega)).symm
theorem wI_s (hG : ∀ k, G k ≤ 1000000000000000) (w : Int32) (i : Nat) : wI G w (i + 1) = if jI (G i) ≤ mo G i then wI G w i else nI i := by
  have e : wI G w (i + 1) = nI (bi G (i + 1)) := if_neg (by omega)
  rw [e, bi_up]
  by_cases c : i = 0 ∨ G (bi G i) < G i
  · rw [if_pos c, if_neg (fun z => (mo_le hG i).mp z c)]
  · rw [if_neg c, if_pos ((mo_le hG i).mpr c)]
    exact (if_neg (by omega)).symm
theorem wJ_s (hG : ∀ k, G k ≤ 1000000000000000) (w : Int64) (i : Nat) : wJ G w (i + 1) = if jI (G i) ≤ mo G i then wJ G w i else jI i := by
  have e : wJ G w (i + 1) = jI (bi G (i + 1)) := if_neg (by omega)
  rw [e, bi_up]
  by_cases c : i = 0 ∨ G (bi G i) < G i
  · rw [if_pos c, if_neg (fun z => (mo_le hG i).mp z c)]
  · rw [if_neg c, if_pos ((mo_le hG i).mpr c)]
    exact (if_neg (by omega)).symm
end MX
def aWhich (σ : eg_S) (two t w : Int32) : Int64 := if (G2 (sP σ) two ∧ GI (nI 0) (nI 1) t) ∧ GI (nI 0) (nI 1) w then (if w = 0 then jI (bi (fun e => hpS σ (dA two) (dB two) e (dN t)) (sE σ)) else jI (hpS σ (dA two) (dB two) (bi (fun e => hpS σ (dA two) (dB two) e (dN t)) (sE σ)) (dN t))) else -1
def aLot (σ : eg_S) (two t : Int32) : Int64 := if G2 (sP σ) two ∧ GI (nI 0) (nI 1) t then jI (sm (fun e => hpS σ (dA two) (dB two) e (dN t)) (sE σ) / sE σ : Nat) else -1
section WH
variable {h : eg_H} {σ : eg_S} {B : Nat × Nat}
theorem X_hp (X : XI h σ B) {a b e d : Nat} (ha : a < sP σ) (hb : b < sP σ) (he : e < sE σ) (hd : d ≤ 1) : ∃ h', fX12_goAlong h 16 0 (nI (10 * a + b)) (nI (10 * e + d)) = some (41, h') ∧ fX2_hopes h' 41 = some (jI (hpS σ a b e d), h') ∧ XOk h h' σ B := by
  obtain ⟨h', e1, G1', X1, K1⟩ := X_along X (w := 0) (by omega) ha hb he hd
  have s1 := X1.2.2.1.1
  refine ⟨h', e1, ?_, X1, gr_cl (SC_x (Or.inl rfl) G1')⟩
  unfold fX2_hopes
  rw [if_pos (iO_41 s1), gL_41 s1, Option.bind_some, K1.2.2.2.2]
  rfl
theorem k10 (e d : Nat) : (10 : Int32) * nI e + nI d = nI (10 * e + d) := by
  rw [← iI_n, ← iI_n, ← iI_n, show (10 : Int32) = iI 10 from rfl, iI_mul, iI_add]
  rfl
theorem XI_E (X : XI h σ B) (hP : 0 < sP σ) : 1 ≤ sE σ := (X.1.2.1.2.2.2 hP).2.1
theorem X_eggs (X : XI h σ B) : fX7_eggs h 23 = some (nI (sE σ), h) := by
  have C := X.2.2.1
  unfold fX7_eggs
  rw [if_pos (iO_23 C.1), gI_23 C.1, Option.bind_some, C.2.1.2.1]
theorem X_which_L {a b d : Nat} {w : Int32} (ha : a < sP σ) (hb : b < sP σ) (hd : d ≤ 1) : ∀ j i h F, i + j = sE σ → j < F → XI h σ B → ∃ h', fX12_which_L40 F h 16 (nI (10 * a + b)) (nI d) w (mo (fun e => hpS σ a b e d) i) (wI (fun e => hpS σ a b e d) 0 i) (nI i) = some (w, mo (fun e => hpS σ a b e d) (sE σ), wI (fun e => hpS σ a b e d) 0 (sE σ), h') ∧ XOk h h' σ B := by
  have hG : ∀ k, (fun e => hpS σ a b e d) k ≤ 1000000000000000 := fun k => Nat.le_trans (hpS_le σ a b k d) (by omega)
  intro j
  induction j with
  | zero =>
    intro i h F hi hF X
    obtain ⟨F, rfl⟩ : ∃ F', F = F' + 1 := ⟨F - 1, by omega⟩
    have hs := X.2.2.1.1
    have hE := (XI_P X).2
    obtain rfl : i = sE σ := by omega
    refine ⟨h, ?_, XOk_rfl X⟩
    rw [fX12_which_L40, gR_16 hs, rf_16_3 hs, Option.bind_some, X_eggs X, Option.bind_some]
    dsimp only
    rw [if_pos (nI_le (Nat.le_refl _) (by omega))]
  | succ j ih =>
    intro i h F hi hF X
    obtain ⟨F, rfl⟩ : ∃ F', F = F' + 1 := ⟨F - 1, by omega⟩
    have hs := X.2.2.1.1
    have hE := (XI_P X).2
    obtain ⟨h1, e1, e2, O1⟩ := X_hp X ha hb (e := i) (by omega) hd
    obtain ⟨h2, e3, O2⟩ := ih (i + 1) h1 F (by omega) (by omega) O1.1
    refine ⟨h2, ?_, XOk_tr O1 O2⟩
    rw [mo_s hG, wI_s hG] at e3
    rw [fX12_which_L40, gR_16 hs, rf_16_3 hs, Option.bind_some, X_eggs X, Option.bind_some]
    dsimp only
    rw [if_neg (nI_ge (by omega) (by omega)), k10, e1, Option.bind_some]
    dsimp only
    rw [e2, Option.bind_some, nI_1]
    dsimp only
    by_cases c : jI (hpS σ a b i d) ≤ mo (fun e => hpS σ a b e d) i
    · rw [if_pos c, if_pos c] at e3
      rw [if_pos c]
      exact e3
    · rw [if_neg c, if_neg c] at e3
      rw [if_neg c]
      exact e3
theorem X_which (X : XI h σ B) (two t w : Int32) : ∃ h', fX12_which h 16 two t w = some (aWhich σ two t w, h') ∧ XOk h h' σ B := by
  have C := X.2.2.1
  have hs := C.1
  have hP := XI_P X
  unfold fX12_which aWhich
  rw [if_pos (iO_16 hs), gR_16 hs, rf_16_3 hs, Option.bind_some, X_isPair hs C.2.1 two, Option.bind_some]
  dsimp only
  rw [g01]
  by_cases c1 : G2 (sP σ) two
  · rw [if_pos c1, X_isEnd h t, Option.bind_some]
    dsimp only
    rw [g01]
    by_cases c2 : GI (nI 0) (nI 1) t
    · rw [if_pos c2, X_isEither h w, Option.bind_some]
      dsimp only
      rw [g01]
      by_cases c3 : GI (nI 0) (nI 1) w
      · rw [if_pos c3, if_pos (show (G2 (sP σ) two ∧ GI (nI 0) (nI 1) t) ∧ GI (nI 0) (nI 1) w from ⟨⟨c1, c2⟩, c3⟩)]
        obtain ⟨a, b, ha, hb, hab, rfl⟩ := G2_n hP.1 c1
        obtain ⟨d, d1, d2, rfl⟩ := GI_n (by omega) (by omega) c2
        have hE1 := XI_E X (by omega)
        obtain ⟨h', e1, O1⟩ := X_which_L (w := w) ha hb d2 (sE σ) 0 h eg_F (by omega) (by rw [eg_F_eq]; omega) X
        have e1' : fX12_which_L40 eg_F h 16 (nI (10 * a + b)) (nI d) w (-1) 0 0 = _ := e1
        refine ⟨h', ?_, O1⟩
        have hbi := bi_lt (fun e => hpS σ a b e d) (sE σ) (by omega)
        rw [e1', Option.bind_some, (dAB (a := a) (b := b) (by omega) (by omega)).1, (dAB (a := a) (b := b) (by omega) (by omega)).2, dN_n (by omega)]
        dsimp only
        have em : mo (fun e => hpS σ a b e d) (sE σ) = jI (hpS σ a b (bi (fun e => hpS σ a b e d) (sE σ)) d) := if_neg (by omega)
        have ew : wI (fun e => hpS σ a b e d) 0 (sE σ) = nI (bi (fun e => hpS σ a b e d) (sE σ)) := if_neg (by omega)
        rw [em, ew]
        by_cases w0 : w = 0
        · rw [if_pos w0, if_pos w0, ← iI_n, iI_w (by unfold i3; omega)]
        · rw [if_neg w0, if_neg w0]
      · rw [if_neg c3, if_neg (fun z => c3 z.2)]; exact ⟨h, rfl, XOk_rfl X⟩
    · rw [if_neg c2, if_neg (fun z => c2 z.1.2)]; exact ⟨h, rfl, XOk_rfl X⟩
  · rw [if_neg c1, if_neg (fun z => c1 z.1.1)]; exact ⟨h, rfl, XOk_rfl X⟩
theorem M_hp (R : RI h σ) {a b e d : Nat} (ha : a < sP σ) (hb : b < sP σ) (he : e < sE σ) (hd : d ≤ 1) : ∃ h', fX13_hopeOf h 54 (nI (10 * a + b)) (nI (10 * e + d)) = some (jI (hpS σ a b e d), h') ∧ ROk h h' σ := by
  obtain ⟨h', e1, E1, _⟩ := M_hopeOf R ha hb he hd
  exact ⟨h', e1, ROk_scr R (SP_x E1)⟩
theorem M_which_L {a b d : Nat} {w : Int32} (ha : a < sP σ) (hb : b < sP σ) (hd : d ≤ 1) : ∀ j i h F, i + j = sE σ → j < F → RI h σ → ∃ h', fX13_which_L50 F h 54 (nI (10 * a + b)) (nI d) w (wJ (fun e => hpS σ a b e d) (-1) i) (mo (fun e => hpS σ a b e d) i) (nI i) = some (w, wJ (fun e => hpS σ a b e d) (-1) (sE σ), mo (fun e => hpS σ a b e d) (sE σ), h') ∧ ROk h h' σ := by
  have hG : ∀ k, (fun e => hpS σ a b e d) k ≤ 1000000000000000 := fun k => Nat.le_trans (hpS_le σ a b k d) (by omega)
  intro j
  induction j with
  | zero =>
    intro i h F hi hF R
    obtain ⟨F, rfl⟩ : ∃ F', F = F' + 1 := ⟨F - 1, by omega⟩
    have hs := R.1
    have hE := (RI_P R).2
    obtain rfl : i = sE σ := by omega
    refine ⟨h, ?_, R, rfl, fun _ _ _ => ⟨rfl, rfl, rfl⟩⟩
    rw [fX13_which_L50, gI_54 hs, Option.bind_some, R.2.2.2.1.2.2.2.2, if_pos (nI_le (Nat.le_refl _) (by omega))]
  | succ j ih =>
    intro i h F hi hF R
    obtain ⟨F, rfl⟩ : ∃ F', F = F' + 1 := ⟨F - 1, by omega⟩
    have hs := R.1
    have hE := (RI_P R).2
    obtain ⟨h1, e1, O1⟩ := M_hp R ha hb (e := i) (by omega) hd
    obtain ⟨h2, e3, O2⟩ := ih (i + 1) h1 F (by omega) (by omega) O1.1
    refine ⟨h2, ?_, ROk_tr O1 O2⟩
    rw [mo_s hG, wJ_s hG] at e3
    rw [fX13_which_L50, gI_54 hs, Option.bind_some, R.2.2.2.1.2.2.2.2, if_neg (nI_ge (by omega) (by omega)), k10, e1, Option.bind_some, nI_1]
    dsimp only
    by_cases c : jI (hpS σ a b i d) ≤ mo (fun e => hpS σ a b e d) i
    · rw [if_pos c, if_pos c] at e3
      rw [if_neg (Int64.not_lt.mpr c)]
      exact e3
    · rw [if_neg c, if_neg c] at e3
      rw [if_pos (Int64.not_le.mp c), Option.bind_some, ← iI_n i, iI_w (by unfold i3; omega)]
      exact e3
theorem M_which (R : RI h σ) (two t w : Int32) : ∃ h', fX13_which h 54 two t w = some (aWhich σ two t w, h') ∧ ROk h h' σ := by
  obtain ⟨R0, Q0⟩ := R_0 R
  have hs := R.1
  have s0 := R0.1
  have hP := RI_P R
  unfold fX13_which aWhich
  rw [if_pos (iO_54 hs), pI_54 hs, Option.bind_some, M_isTwo s0 R0.2.2.2.1 two, Option.bind_some]
  dsimp only
  rw [g01]
  by_cases c1 : G2 (sP σ) two
  · rw [if_pos c1, M_GI (lo := 0) (hi := 1) _ t (by omega) (by omega) 0 1 rfl rfl, Option.bind_some]
    dsimp only
    rw [g01]
    by_cases c2 : GI (nI 0) (nI 1) t
    · rw [if_pos c2, M_GI (lo := 0) (hi := 1) _ w (by omega) (by omega) 0 1 rfl rfl, Option.bind_some]
      dsimp only
      rw [g01]
      by_cases c3 : GI (nI 0) (nI 1) w
      · rw [if_pos c3, if_pos (show (G2 (sP σ) two ∧ GI (nI 0) (nI 1) t) ∧ GI (nI 0) (nI 1) w from ⟨⟨c1, c2⟩, c3⟩)]
        obtain ⟨a, b, ha, hb, hab, rfl⟩ := G2_n hP.1 c1
        obtain ⟨d, d1, d2, rfl⟩ := GI_n (by omega) (by omega) c2
        have hE1 : 1 ≤ sE σ := (R.2.1.2.1.2.2.2 (by omega)).2.1
        obtain ⟨h', e1, O1⟩ := M_which_L (w := w) ha hb d2 (sE σ) 0 (eg_sI h 54 0 0) eg_F (by omega) (by rw [eg_F_eq]; omega) R0
        have e1' : fX13_which_L50 eg_F (eg_sI h 54 0 0) 54 (nI (10 * a + b)) (nI d) w (-1) (-1) 0 = _ := e1
        refine ⟨h', ?_, ROk_tr (ROk_scr R Q0) O1⟩
        rw [e1', Option.bind_some, (dAB (a := a) (b := b) (by omega) (by omega)).1, (dAB (a := a) (b := b) (by omega) (by omega)).2, dN_n (by omega)]
        dsimp only
        have em : mo (fun e => hpS σ a b e d) (sE σ) = jI (hpS σ a b (bi (fun e => hpS σ a b e d) (sE σ)) d) := if_neg (by omega)
        have ew : wJ (fun e => hpS σ a b e d) (-1) (sE σ) = jI (bi (fun e => hpS σ a b e d) (sE σ)) := if_neg (by omega)
        rw [em, ew]
        by_cases w0 : w = 0
        · rw [if_pos w0, if_pos w0]
        · rw [if_neg w0, if_neg w0]
      · rw [if_neg c3, if_neg (fun z => c3 z.2)]; exact ⟨_, rfl, ROk_scr R Q0⟩
    · rw [if_neg c2, if_neg (fun z => c2 z.1.2)]; exact ⟨_, rfl, ROk_scr R Q0⟩
  · rw [if_neg c1, if_neg (fun z => c1 z.1.1)]; exact ⟨_, rfl, ROk_scr R Q0⟩
end WH
