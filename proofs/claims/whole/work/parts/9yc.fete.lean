def thF (c : Nat → Int64 → Bool) (left : Nat) : Nat → Nat → Nat × Int64 → Nat × Int64
  | 0, _, s => s
  | j + 1, i, s => if left.testBit i = true then (if c i s.2 = true then thF c left j (i + 1) (s.1 ||| 2 ^ i, nx s.2) else thF c left j (i + 1) (s.1, nx s.2)) else thF c left j (i + 1) s
def ctF (σ : eg_S) (w : Nat → Nat) (k y : Nat) : Nat → Int64 → Bool := fun i x => cgt (sL σ) (tK (sU σ) (sU σ 0) (lwT w (sP σ) i) (w (lwT w (sP σ) i)) (i % sE σ) 0 k) y x
def ftF (σ : eg_S) (w : Nat → Nat) (cnt : Nat) : Nat → Nat → Nat → Nat → Int64 → Nat × Nat × Nat
  | 0, left, last, r, _ => (left, last, r)
  | j + 1, left, last, r, x => if pc left ≤ 1 ∨ 60 < sU σ 3 + r * sU σ 2 then (left, last, r) else ftF σ w cnt j (thF (ctF σ w (r + 1) (sU σ 3 + r * sU σ 2)) left cnt 0 (0, x)).1 left (r + 1) (thF (ctF σ w (r + 1) (sU σ 3 + r * sU σ 2)) left cnt 0 (0, x)).2
def lbF (w : Nat → Nat) (P m : Nat) : Nat → Nat
  | 0 => 0
  | i + 1 => lbF w P m i ||| (if m.testBit i = true then 2 ^ lwT w P i else 0)
def feR (σ : eg_S) (x : Int32) (sd : Int64) : Nat × Nat × Nat := ftF σ (wd (dN x) (sP σ)) (cnW (wd (dN x) (sP σ)) (sP σ)) 60 (2 ^ cnW (wd (dN x) (sP σ)) (sP σ) - 1) (2 ^ cnW (wd (dN x) (sP σ)) (sP σ) - 1) 0 sd
def aFete (σ : eg_S) (x : Int32) (sd : Int64) (w : Int32) : Int32 := if gPr (sP σ) x ∧ GI (nI 0) (nI 1) w then (if w = 0 then nI (lbF (wd (dN x) (sP σ)) (sP σ) (if (feR σ x sd).1 = 0 then (feR σ x sd).2.1 else (feR σ x sd).1) (cnW (wd (dN x) (sP σ)) (sP σ))) else nI (feR σ x sd).2.2) else -1
theorem th_lt {c : Nat → Int64 → Bool} {left : Nat} : ∀ j i s, i + j ≤ 3 → s.1 < 2 ^ i → (thF c left j i s).1 < 2 ^ (i + j) := by
  intro j
  induction j with
  | zero => intro i s _ h; exact h
  | succ j ih =>
    intro i s hi h
    have h2 : 2 ^ i ≤ 2 ^ (i + 1) := Nat.pow_le_pow_right (by omega) (by omega)
    have h3 : s.1 ||| 2 ^ i < 2 ^ (i + 1) := Nat.or_lt_two_pow (by omega) (Nat.pow_lt_pow_right (by omega) (by omega))
    unfold thF
    rw [show i + (j + 1) = i + 1 + j by omega]
    split
    · split
      · exact ih (i + 1) _ (by omega) h3
      · exact ih (i + 1) _ (by omega) (Nat.lt_of_lt_of_le h h2)
    · exact ih (i + 1) _ (by omega) (Nat.lt_of_lt_of_le h h2)
section FE
variable {h : eg_H} {σ : eg_S} {B : Nat × Nat}
theorem X_ta_L {w : Nat → Nat} {left k y : Nat} (hw : ∀ i, i < sP σ → w i < sP σ) (hc3 : cnW w (sP σ) ≤ 3) (hPp : 0 < sP σ) (hl8 : left < 8) (hk : k ≤ 1000) (hy : y ≤ 60) : ∀ j i h s F, i + j = cnW w (sP σ) → j < F → XI h σ B → XPr h (sP σ) w → eg_L h 36 9 = s.2 → ∃ h', fX12_throwAll_L6 F h 16 (nI left) (nI (cnW w (sP σ))) (nI k) (nI y) (nI s.1) (nI i) = some (nI (thF (ctF σ w k y) left j i s).1, h') ∧ XOk h h' σ B ∧ XPr h' (sP σ) w ∧ eg_L h' 36 9 = (thF (ctF σ w k y) left j i s).2 := by
  intro j
  induction j with
  | zero =>
    intro i h s F hi hF X K hx
    obtain ⟨F, rfl⟩ : ∃ F', F = F' + 1 := ⟨F - 1, by omega⟩
    obtain rfl : i = cnW w (sP σ) := by omega
    exact ⟨h, by rw [fX12_throwAll_L6, if_pos (nI_le (Nat.le_refl _) (by omega))]; rfl, XOk_rfl X, K, hx⟩
  | succ j ih =>
    intro i h s F hi hF X K hx
    obtain ⟨F, rfl⟩ : ∃ F', F = F' + 1 := ⟨F - 1, by omega⟩
    have hs := X.2.2.1.1
    have hP := XI_P X
    have hE1 := XI_E X hPp
    have hl := lw_in (w := w) (sP σ) i (by omega)
    have hwl := hw _ hl.1
    have hm : i % sE σ < sE σ := Nat.mod_lt _ (by omega)
    have bt := bt_1 (m := left) (s := i) (by omega) (by omega)
    rw [fX12_throwAll_L6, if_neg (nI_ge (by omega) (by omega)), gR_16 hs, rf_16_18 hs, Option.bind_some, X_pairOf hs hP.1 K (by omega), Option.bind_some]
    dsimp only
    rw [gR_16 hs, rf_16_3 hs, Option.bind_some, X_eggs X, Option.bind_some]
    dsimp only
    rw [if_neg (nI_ne0 (by omega) (by omega)), n_md (by omega) (by omega), nI_k10, Option.bind_some, nI_1]
    unfold thF
    by_cases c : left.testBit i = true
    · obtain ⟨h1, e1, O1, l1, G1'⟩ := X_draw X hx hl.1 hwl hm (d := 0) (by omega) hk hy
      have e1' : fX12_isCaughtByDraw h 16 (nI (10 * lwT w (sP σ) i + w (lwT w (sP σ) i))) (nI (10 * (i % sE σ))) (nI k) (nI y) = some (if ctF σ w k y i s.2 = true then 1 else 0, h1) := e1
      have K' : XPr h1 (sP σ) w := ⟨fun q hq => by rw [(G1'.2.1 49 q (by omega) rfl).1]; exact K.1 q hq, fun q hq => by rw [(G1'.2.1 50 q (by omega) rfl).1]; exact K.2 q hq⟩
      rw [if_pos (bt.mpr c), if_pos c, e1', Option.bind_some]
      dsimp only
      rw [g01]
      by_cases c2 : ctF σ w k y i s.2 = true
      · rw [if_pos c2, if_pos c2, one_shl i (by omega), nI_or, Option.bind_some]
        obtain ⟨h2, e2, O2, K2, l2⟩ := ih (i + 1) h1 (s.1 ||| 2 ^ i, nx s.2) F (by omega) (by omega) O1.1 K' l1
        exact ⟨h2, e2, XOk_tr O1 O2, K2, l2⟩
      · rw [if_neg c2, if_neg c2]
        obtain ⟨h2, e2, O2, K2, l2⟩ := ih (i + 1) h1 (s.1, nx s.2) F (by omega) (by omega) O1.1 K' l1
        exact ⟨h2, e2, XOk_tr O1 O2, K2, l2⟩
    · rw [if_neg (fun z => c (bt.mp z)), if_neg c]
      exact ih (i + 1) h s F (by omega) (by omega) X K hx
def exF (z : (Nat × Int32 × Int32 × Int32 × Int32 × eg_H) ⊕ (Nat × Int32 × Int32 × Int32 × Int32 × eg_H)) : Nat × Int32 × Int32 × Int32 × Int32 × eg_H := match z with
  | .inl z => z
  | .inr z => z
theorem X_fete_L {w : Nat → Nat} {wh : Int32} (hw : ∀ i, i < sP σ → w i < sP σ) (hc3 : cnW w (sP σ) ≤ 3) (hPp : 0 < sP σ) : ∀ j left last r h x F, r + j = 60 → j < F → left < 8 → last < 8 → XI h σ B → XPr h (sP σ) w → eg_L h 36 9 = x → ∃ h' z, fX12_fete_L68 F h 16 wh (nI (cnW w (sP σ))) (nI left) (nI last) (nI r) (nI (r + 1)) = some z ∧ exF z = (16, wh, nI (ftF σ w (cnW w (sP σ)) j left last r x).1, nI (ftF σ w (cnW w (sP σ)) j left last r x).2.1, nI (ftF σ w (cnW w (sP σ)) j left last r x).2.2, h') ∧ XOk h h' σ B ∧ XPr h' (sP σ) w := by
  intro j
  induction j with
  | zero =>
    intro left last r h x F hr hF hl1 hl2 X K hx
    obtain ⟨F, rfl⟩ : ∃ F', F = F' + 1 := ⟨F - 1, by omega⟩
    obtain rfl : r = 60 := by omega
    exact ⟨h, .inl (16, wh, nI left, nI last, nI 60, h), by rw [fX12_fete_L68, if_pos (by decide)], rfl, XOk_rfl X, K⟩
  | succ j ih =>
    intro left last r h x F hr hF hl1 hl2 X K hx
    obtain ⟨F, rfl⟩ : ∃ F', F = F' + 1 := ⟨F - 1, by omega⟩
    have C := X.2.2.1
    have hs := C.1
    have hU := XI_U X hPp
    have e2 : fX7_told h 23 2 = some (nI (sU σ 2), h) := X_told hs C.2.1 (x := 2) (by omega)
    have hm : r * sU σ 2 ≤ 60 * 9 := Nat.mul_le_mul (by omega) hU.1.2.2.2.2.2.1
    have h3 := hU.1.2.2.2.2.2.2.2
    have hpc : pc left ≤ 11 := sm_le (fun i _ => by split <;> omega)
    rw [fX12_fete_L68, if_neg (show ¬ (60 : Int32) < nI (r + 1) from nI_nlt (a := 60) (by omega) (by omega)), X_bc h (by omega), Option.bind_some]
    dsimp only
    unfold ftF
    by_cases c1 : pc left ≤ 1
    · rw [if_pos (show nI (pc left) ≤ (1 : Int32) from nI_le (b := 1) c1 (by omega)), if_pos (Or.inl c1)]
      exact ⟨h, _, rfl, rfl, XOk_rfl X, K⟩
    rw [if_neg (show ¬ nI (pc left) ≤ (1 : Int32) from nI_ge (a := 1) (by omega) (by omega)), gR_16 hs, rf_16_3 hs, Option.bind_some, Option.bind_some, e2, Option.bind_some]
    dsimp only
    rw [X_yards hs C.2.1 (by omega), Option.bind_some, show r + 1 - 1 = r by omega]
    dsimp only
    by_cases c2 : 60 < sU σ 3 + r * sU σ 2
    · rw [if_neg (show ¬ nI (sU σ 3 + r * sU σ 2) ≤ (60 : Int32) from nI_ge (a := 60) c2 (by omega)), if_pos (Or.inr c2)]
      exact ⟨h, _, rfl, rfl, XOk_rfl X, K⟩
    rw [if_pos (show nI (sU σ 3 + r * sU σ 2) ≤ (60 : Int32) from nI_le (b := 60) (by omega) (by omega)), if_neg (fun z => z.elim c1 c2)]
    obtain ⟨h1, e1, O1, K1, l1⟩ := X_ta_L (k := r + 1) (y := sU σ 3 + r * sU σ 2) hw hc3 hPp hl1 (by omega) (by omega) (cnW w (sP σ)) 0 h (0, x) eg_F (by omega) (by rw [eg_F_eq]; omega) X K hx
    have e1' : fX12_throwAll_L6 eg_F h 16 (nI left) (nI (cnW w (sP σ))) (nI (r + 1)) (nI (sU σ 3 + r * sU σ 2)) 0 0 = _ := e1
    have hlt := th_lt (c := ctF σ w (r + 1) (sU σ 3 + r * sU σ 2)) (left := left) (cnW w (sP σ)) 0 (0, x) (by omega) (by show 0 < 2 ^ 0; decide)
    have hlt2 : (thF (ctF σ w (r + 1) (sU σ 3 + r * sU σ 2)) left (cnW w (sP σ)) 0 (0, x)).1 < 8 := Nat.lt_of_lt_of_le hlt (Nat.le_trans (Nat.pow_le_pow_right (by omega) (show 0 + cnW w (sP σ) ≤ 3 by omega)) (by decide))
    obtain ⟨h2, z, q1, q2, O2, K2⟩ := ih (thF (ctF σ w (r + 1) (sU σ 3 + r * sU σ 2)) left (cnW w (sP σ)) 0 (0, x)).1 left (r + 1) h1 (thF (ctF σ w (r + 1) (sU σ 3 + r * sU σ 2)) left (cnW w (sP σ)) 0 (0, x)).2 F (by omega) (by omega) hlt2 hl1 O1.1 K1 l1
    refine ⟨h2, z, ?_, q2, XOk_tr O1 O2, K2⟩
    unfold fX12_throwAll
    rw [if_pos (iO_16 hs), e1', Option.bind_some, Option.bind_some]
    dsimp only
    rw [nI_1]
    exact q1
theorem ft_lt {w : Nat → Nat} {cnt : Nat} (hc3 : cnt ≤ 3) : ∀ j left last r x, left < 2 ^ cnt → last < 2 ^ cnt → (ftF σ w cnt j left last r x).1 < 2 ^ cnt ∧ (ftF σ w cnt j left last r x).2.1 < 2 ^ cnt ∧ (ftF σ w cnt j left last r x).2.2 ≤ r + j := by
  intro j
  induction j with
  | zero => intro left last r x h1 h2; exact ⟨h1, h2, Nat.le_refl _⟩
  | succ j ih =>
    intro left last r x h1 h2
    unfold ftF
    split
    · exact ⟨h1, h2, by show r ≤ r + (j + 1); omega⟩
    · have hlt := th_lt (c := ctF σ w (r + 1) (sU σ 3 + r * sU σ 2)) (left := left) cnt 0 (0, x) (by omega) (by show 0 < 2 ^ 0; decide)
      rw [Nat.zero_add] at hlt
      have := ih _ left (r + 1) (thF (ctF σ w (r + 1) (sU σ 3 + r * sU σ 2)) left cnt 0 (0, x)).2 hlt h1
      exact ⟨this.1, this.2.1, by omega⟩
theorem X_li_L {P m : Nat} {w : Nat → Nat} (hs : eg_stt h) (hP : P ≤ 6) (K : XPr h P w) (hc3 : cnW w P ≤ 3) (hm : m < 2 ^ cnW w P) : ∀ j i F, i + j = 6 → j < F → fX9_lowersIn_L4 F h 47 (nI m) (nI (lbF w P m (min i (cnW w P)))) (nI i) = some (nI (lbF w P m (cnW w P)), h) := by
  have hm8 : m < 8 := Nat.lt_of_lt_of_le hm (Nat.le_trans (Nat.pow_le_pow_right (by omega) hc3) (by decide))
  intro j
  induction j with
  | zero =>
    intro i F hi hF
    obtain ⟨F, rfl⟩ : ∃ F', F = F' + 1 := ⟨F - 1, by omega⟩
    obtain rfl : i = 6 := by omega
    rw [fX9_lowersIn_L4, gR_47 hs, rf_47_2 hs, Option.bind_some, al_50 hs, Option.bind_some, if_pos (by decide), show min 6 (cnW w P) = cnW w P by omega]
  | succ j ih =>
    intro i F hi hF
    obtain ⟨F, rfl⟩ : ∃ F', F = F' + 1 := ⟨F - 1, by omega⟩
    have e3 := ih (i + 1) F (by omega) (by omega)
    have bt := bt_1 (m := m) (s := i) (by omega) (by omega)
    have hcl : (nI i).toNatClampNeg = i := nI_clamp (by omega)
    rw [fX9_lowersIn_L4, gR_47 hs, rf_47_2 hs, Option.bind_some, al_50 hs, Option.bind_some, if_neg (nI_ge (by omega) (by omega)), nI_1]
    by_cases c : m.testBit i = true
    · have hic : i < cnW w P := by
        rcases Nat.lt_or_ge i (cnW w P) with z | z
        · exact z
        · have : m < 2 ^ i := Nat.lt_of_lt_of_le hm (Nat.pow_le_pow_right (by omega) z)
          rw [Nat.testBit_lt_two_pow this] at c
          cases c
      have hl := lw_in (w := w) P i hic
      rw [show min (i + 1) (cnW w P) = i + 1 by omega, lbF, if_pos c] at e3
      rw [if_pos (bt.mpr c), Option.bind_some, aI_50 hs (nI_pos (by omega)) (by rw [hcl]; omega), hcl, Option.bind_some, K.2 i hic, one_shl _ (by omega), nI_or, Option.bind_some, show min i (cnW w P) = i by omega]
      exact e3
    · rw [if_neg (fun z => c (bt.mp z))]
      by_cases hic : i < cnW w P
      · rw [show min (i + 1) (cnW w P) = i + 1 by omega, lbF, if_neg c, Nat.or_zero] at e3
        rw [show min i (cnW w P) = i by omega]
        exact e3
      · rw [show min (i + 1) (cnW w P) = cnW w P by omega] at e3
        rw [show min i (cnW w P) = cnW w P by omega]
        exact e3
theorem sh_c : ∀ c, c ≤ 3 → ((1 : Int32) <<< (nI c &&& 31)) - 1 = nI (2 ^ c - 1) := by decide +kernel
theorem X_fete (X : XI h σ B) (x : Int32) (sd : Int64) (wh : Int32) : ∃ h', fX12_fete h 16 x sd wh = some (aFete σ x sd wh, h') ∧ XOk h h' σ B := by
  have C := X.2.2.1
  have hs := C.1
  have hP := XI_P X
  obtain ⟨h1, e1, E1, K1⟩ := X_readPairs hs hP.1 x
  have O1 := Spr_x X E1
  have s1 := O1.1.2.2.1.1
  unfold fX12_fete aFete
  rw [if_pos (iO_16 hs), gR_16 hs, rf_16_18 hs, Option.bind_some, gR_16 hs, rf_16_3 hs, Option.bind_some, X_persons X, Option.bind_some]
  dsimp only
  rw [e1, Option.bind_some]
  dsimp only
  by_cases c1 : gPr (sP σ) x
  rotate_left
  · rw [if_neg c1, if_pos rfl, if_neg (fun g => c1 g.1)]
    exact ⟨h1, rfl, O1⟩
  have hPp := c1.1.1
  have hw : ∀ i, i < sP σ → wd (dN x) (sP σ) i < sP σ := fun i hi => wd_lt c1.1.2 hi
  have K : XPr h1 (sP σ) (wd (dN x) (sP σ)) := K1 c1
  have hc0 := cn_pos hPp c1.2
  have hc3 := cn_3 hP.1 hw c1.2
  have hE1 := XI_E X hPp
  rw [if_pos c1, if_neg (nI_ne0 (by omega) (by omega)), gR_16 s1, rf_16_3 s1, Option.bind_some, X_eggs O1.1, Option.bind_some]
  dsimp only
  rw [if_neg (show ¬ nI (sE σ) ≤ 0 from nI_ge (a := 0) (by omega) (by omega)), X_isEither h1 wh, Option.bind_some]
  dsimp only
  rw [g01]
  by_cases c2 : GI (nI 0) (nI 1) wh
  rotate_left
  · rw [if_neg c2, if_neg (fun g => c2 g.2)]; exact ⟨h1, rfl, O1⟩
  rw [if_pos c2, if_pos (show gPr (sP σ) x ∧ GI (nI 0) (nI 1) wh from ⟨c1, c2⟩), gR_16 s1, rf_16_15 s1, Option.bind_some]
  have E2 : eg_eq [(36, some 9)] h1 (eg_sL h1 36 9 sd) := eq_sL eq_rfl rfl
  have O2 : XOk h1 (eg_sL h1 36 9 sd) σ B := XOk_low O1.1 E2 (by decide) (by decide) ⟨rfl, rfl, rfl, rfl, fun _ => ⟨rfl, rfl⟩⟩ (by decide)
  have p8 : 2 ^ cnW (wd (dN x) (sP σ)) (sP σ) ≤ 8 := Nat.le_trans (Nat.pow_le_pow_right (by omega) hc3) (by decide)
  have p1 : 0 < 2 ^ cnW (wd (dN x) (sP σ)) (sP σ) := Nat.pow_pos (by omega)
  obtain ⟨h3, z, e3, e4, O3, K3⟩ := X_fete_L (wh := wh) hw hc3 hPp 60 (2 ^ cnW (wd (dN x) (sP σ)) (sP σ) - 1) (2 ^ cnW (wd (dN x) (sP σ)) (sP σ) - 1) 0 (eg_sL h1 36 9 sd) sd eg_F (by omega) (by rw [eg_F_eq]; omega) (by omega) (by omega) O2.1 K (by rw [L_sL, if_pos ⟨rfl, rfl⟩])
  have e3' : fX12_fete_L68 eg_F (eg_sL h1 36 9 sd) 16 wh (nI (cnW (wd (dN x) (sP σ)) (sP σ))) (nI (2 ^ cnW (wd (dN x) (sP σ)) (sP σ) - 1)) (nI (2 ^ cnW (wd (dN x) (sP σ)) (sP σ) - 1)) 0 1 = some z := e3
  have hft := ft_lt (σ := σ) (w := wd (dN x) (sP σ)) hc3 60 (2 ^ cnW (wd (dN x) (sP σ)) (sP σ) - 1) (2 ^ cnW (wd (dN x) (sP σ)) (sP σ) - 1) 0 sd (by omega) (by omega)
  have s3 := O3.1.2.2.1.1
  have hj : fX12_fete_j141 h3 16 wh (nI (feR σ x sd).1) (nI (feR σ x sd).2.1) (nI (feR σ x sd).2.2) = some (if wh = 0 then nI (lbF (wd (dN x) (sP σ)) (sP σ) (if (feR σ x sd).1 = 0 then (feR σ x sd).2.1 else (feR σ x sd).1) (cnW (wd (dN x) (sP σ)) (sP σ))) else nI (feR σ x sd).2.2, h3) := by
    unfold fX12_fete_j141
    have hf1 : (feR σ x sd).1 < 2 ^ cnW (wd (dN x) (sP σ)) (sP σ) := hft.1
    have hf2 : (feR σ x sd).2.1 < 2 ^ cnW (wd (dN x) (sP σ)) (sP σ) := hft.2.1
    rcases lt_1 c2.1 c2.2 with rfl | rfl
    · rw [if_neg (show ¬ (0 : Int32) = 1 by decide), gR_16 s3, rf_16_18 s3, Option.bind_some, if_pos rfl]
      have li : ∀ m, m < 2 ^ cnW (wd (dN x) (sP σ)) (sP σ) → fX9_lowersIn h3 47 (nI m) = some (nI (lbF (wd (dN x) (sP σ)) (sP σ) m (cnW (wd (dN x) (sP σ)) (sP σ))), h3) := by
        intro m hm
        have e := X_li_L s3 hP.1 K3 hc3 hm 6 0 eg_F (by omega) (by rw [eg_F_eq]; omega)
        rw [Nat.zero_min] at e
        have e' : fX9_lowersIn_L4 eg_F h3 47 (nI m) 0 0 = _ := e
        unfold fX9_lowersIn
        rw [if_pos (iO_47 s3), e', Option.bind_some]
      by_cases c0 : (feR σ x sd).1 = 0
      · rw [if_pos (by rw [c0]; rfl), if_pos c0, li _ hf2, Option.bind_some]
      · rw [if_neg (nI_ne0 (by omega) (by omega)), if_neg c0, li _ hf1, Option.bind_some]
    · rw [if_pos rfl, if_neg (show ¬ (1 : Int32) = 0 by decide)]
  refine ⟨h3, ?_, XOk_tr O1 (XOk_tr O2 O3)⟩
  unfold fX11_startDraws
  rw [if_pos (iO_36 s1), pL_36 s1, Option.bind_some, Option.bind_some, sh_c _ hc3, Option.bind_some, e3', Option.bind_some]
  cases z with
  | inl z =>
    have e4 : z = (16, wh, nI (feR σ x sd).1, nI (feR σ x sd).2.1, nI (feR σ x sd).2.2, h3) := e4
    subst e4
    exact hj
  | inr z =>
    have e4 : z = (16, wh, nI (feR σ x sd).1, nI (feR σ x sd).2.1, nI (feR σ x sd).2.2, h3) := e4
    subst e4
    exact hj
end FE
