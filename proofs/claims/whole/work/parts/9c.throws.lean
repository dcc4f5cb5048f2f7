theorem g01 {α : Type} (p : Prop) [Decidable p] (x y : α) : (if (if p then (1 : Int32) else 0) = 0 then x else y) = if p then y else x := by
  by_cases c : p
  · rw [if_pos c, if_pos c, if_neg (by decide)]
  · rw [if_neg c, if_neg c, if_pos rfl]
abbrev GH (m : Nat) (x : Int32) : Prop := ¬ x < 0 ∧ ¬ (10 : Int32) < x % 100 ∧ ¬ nI m < x / 100
theorem n100 {n : Nat} (hn : n < 2 ^ 31) : nI n / 100 = nI (n / 100) ∧ nI n % 100 = nI (n % 100) := by
  have h1 : ((n : Nat) : Int).tdiv 100 = ((n / 100 : Nat) : Int) := by rw [Int.tdiv_eq_ediv_of_nonneg (by omega)]; omega
  have h2 : ((n : Nat) : Int).tmod 100 = ((n % 100 : Nat) : Int) := by rw [Int.tmod_eq_emod_of_nonneg (by omega)]; omega
  constructor
  · rw [← iI_n, ← iI_n, show (100 : Int32) = iI 100 from rfl, iI_div (by unfold i3; omega) (by unfold i3; omega) (by rw [h1]; unfold i3; omega), h1]
  · rw [← iI_n, ← iI_n, show (100 : Int32) = iI 100 from rfl, iI_mod (by unfold i3; omega) (by unfold i3; omega), h2]
theorem GH_n {m : Nat} {x : Int32} (hm : m ≤ 9) (h : GH m x) : ∃ n, n < 2 ^ 31 ∧ n / 100 ≤ m ∧ n % 100 ≤ 10 ∧ x = nI n := by
  obtain ⟨h1, h2, h3⟩ := h
  obtain ⟨n, hn, rfl⟩ := pos_n h1
  rw [(n100 hn).1] at h3
  rw [(n100 hn).2] at h2
  refine ⟨n, hn, ?_, ?_, rfl⟩
  · rcases Nat.lt_or_ge m (n / 100) with z | z
    · exact absurd (nI_lt z (by omega)) h3
    · exact z
  · rcases Nat.lt_or_ge 10 (n % 100) with z | z
    · exact absurd (show (10 : Int32) < nI (n % 100) from nI_lt (a := 10) z (by omega)) h2
    · exact z
def tS2 (σ : eg_S) (two c : Int32) : eg_TT := tOf (sU σ) (sU σ 0) (dA two) (dB two) (dA c) (dB c)
def aBest (σ : eg_S) (two c y w : Int32) : Int32 := if ((G2 (sP σ) two ∧ GE (sE σ) c) ∧ GI (nI 1) (nI 60) y) ∧ GI (nI 0) (nI 2) w then (if w = 0 then nI (bst (sL σ) (tS2 σ two c) (dN y) / 11) else if w = 1 then iI ((bst (sL σ) (tS2 σ two c) (dN y) % 11 : Nat) - 5) else nI (bgd (sL σ) (tS2 σ two c) (dN y))) else -1000000
def aGood (σ : eg_S) (two c y w : Int32) : Int32 := if ((G2 (sP σ) two ∧ GE (sE σ) c) ∧ GI (nI 1) (nI 60) y) ∧ GH (sU σ (7 + 4 * dA two)) w then nI (gd (sL σ) (tS2 σ two c) (dN y) (dN w / 100) ((dN w % 100 : Nat) - 5)) else -1
section TH
variable {h : eg_H} {σ : eg_S} {B : Nat × Nat}
theorem tS2_eq {a b e d : Nat} (ha : a ≤ 9) (hb : b ≤ 9) (he : e ≤ 9) (hd : d ≤ 9) : tS2 σ (nI (10 * a + b)) (nI (10 * e + d)) = tOf (sU σ) (sU σ 0) a b e d := by
  unfold tS2
  rw [(dAB (by omega) hb).1, (dAB (by omega) hb).2, (dAB (a := e) (by omega) hd).1, (dAB (a := e) (by omega) hd).2]
theorem X_best (X : XI h σ B) (two c y w : Int32) : ∃ h', fX12_best h 16 two c y w = some (aBest σ two c y w, h') ∧ XOk h h' σ B := by
  have C := X.2.2.1
  have hs := C.1
  have hP := XI_P X
  unfold fX12_best aBest
  rw [if_pos (iO_16 hs), X_isThrow hs C.2.1 two c y, Option.bind_some]
  dsimp only
  rw [g01]
  by_cases c1 : (G2 (sP σ) two ∧ GE (sE σ) c) ∧ GI (nI 1) (nI 60) y
  · rw [if_pos c1]
    by_cases c2 : GI (nI 0) (nI 2) w
    · rw [if_neg (show ¬ w < 0 from c2.1), if_pos (show w ≤ 2 from Int32.not_lt.mp c2.2), if_pos (show ((G2 (sP σ) two ∧ GE (sE σ) c) ∧ GI (nI 1) (nI 60) y) ∧ GI (nI 0) (nI 2) w from ⟨c1, c2⟩)]
      obtain ⟨a, b, ha, hb, hab, rfl⟩ := G2_n hP.1 c1.1.1
      obtain ⟨e, d, he, hd, rfl⟩ := GE_n hP.2 c1.1.2
      obtain ⟨n, n1, n2, rfl⟩ := GI_n (by omega) (by omega) c1.2
      have hU := XI_U X (by omega)
      obtain ⟨h', e1, G1', C1⟩ := X_of C hU ha hb he hd (y := n) n2 hU.1.2.2.1
      have T := tOf_ok (d := d) hU hU.1.2.2.1 ha hb he
      have hb1 := bst_lt (lw := sL σ) T n
      have hg1 := bgd_le (lw := sL σ) T n
      have e0 : fX7_told h 23 0 = some (nI (sU σ 0), h) := X_told hs C.2.1 (x := 0) (by omega)
      refine ⟨h', ?_, XOk_scr X (Sc_x G1') C1⟩
      rw [gR_16 hs, rf_16_16 hs, Option.bind_some, gR_16 hs, rf_16_3 hs, Option.bind_some, e0, Option.bind_some]
      dsimp only
      rw [e1, Option.bind_some, tS2_eq (by omega) (by omega) (by omega) (by omega), dN_n (by omega)]
      dsimp only
      by_cases w0 : w = 0
      · rw [if_pos w0, if_pos w0, X_bowIn h' hb1 hg1, Option.bind_some]
      · rw [if_neg w0, if_neg w0]
        by_cases w1 : w = 1
        · rw [if_pos w1, if_pos w1, X_aimIn h' hb1 hg1, Option.bind_some]
        · rw [if_neg w1, if_neg w1, X_goodIn h' hb1 hg1, Option.bind_some]
    · have hn : ¬ (((G2 (sP σ) two ∧ GE (sE σ) c) ∧ GI (nI 1) (nI 60) y) ∧ GI (nI 0) (nI 2) w) := fun z => c2 z.2
      rw [if_neg hn]
      by_cases c3 : w < 0
      · rw [if_pos c3]; exact ⟨h, rfl, XOk_rfl X⟩
      · rw [if_neg c3, if_neg (show ¬ w ≤ (2 : Int32) from fun z => c2 ⟨c3, Int32.not_lt.mpr z⟩)]; exact ⟨h, rfl, XOk_rfl X⟩
  · rw [if_neg c1, if_neg (fun z => c1 z.1)]
    exact ⟨h, rfl, XOk_rfl X⟩
theorem RI_P (R : RI h σ) : sP σ ≤ 6 ∧ sE σ ≤ 6 := ⟨R.2.1.2.1.1, R.2.1.2.1.2.1⟩
theorem M_bestC (R : RI h σ) (two c y w : Int32) : ∃ h', fX13_best h 54 two c y w = some (aBest σ two c y w, h') ∧ ROk h h' σ := by
  obtain ⟨R0, Q0⟩ := R_0 R
  have hs := R.1
  have s0 := R0.1
  have hP := RI_P R
  unfold fX13_best aBest
  rw [if_pos (iO_54 hs), pI_54 hs, Option.bind_some, M_isTwo s0 R0.2.2.2.1 two, Option.bind_some]
  dsimp only
  rw [g01]
  by_cases c1 : G2 (sP σ) two
  · rw [if_pos c1, M_isFrom s0 R0.2.2.2.1 c, Option.bind_some]
    dsimp only
    rw [g01]
    by_cases c2 : GE (sE σ) c
    · rw [if_pos c2, M_GI (lo := 1) (hi := 60) _ y (by omega) (by omega) 1 60 rfl rfl, Option.bind_some]
      dsimp only
      rw [g01]
      by_cases c3 : GI (nI 1) (nI 60) y
      · rw [if_pos c3, M_GI (lo := 0) (hi := 2) _ w (by omega) (by omega) 0 2 rfl rfl, Option.bind_some]
        dsimp only
        rw [g01]
        by_cases c4 : GI (nI 0) (nI 2) w
        · rw [if_pos c4, if_pos (show ((G2 (sP σ) two ∧ GE (sE σ) c) ∧ GI (nI 1) (nI 60) y) ∧ GI (nI 0) (nI 2) w from ⟨⟨⟨c1, c2⟩, c3⟩, c4⟩)]
          obtain ⟨a, b, ha, hb, hab, rfl⟩ := G2_n hP.1 c1
          obtain ⟨e, d, he, hd, rfl⟩ := GE_n hP.2 c2
          obtain ⟨n, n1, n2, rfl⟩ := GI_n (by omega) (by omega) c3
          have O := RI_RO R0 (by omega)
          obtain ⟨h', e1, E1, b1, b2, b3⟩ := M_best O ha hb he hd (y := n) n2
          have s1 := eq_stt E1 s0 (by decide)
          refine ⟨h', ?_, ROk_scr R (eq_tr Q0 (SB_x E1))⟩
          rw [(i10 a b (by omega) (by omega)).1, (i10 a b (by omega) (by omega)).2, e1, Option.bind_some, tS2_eq (by omega) (by omega) (by omega) (by omega), dN_n (by omega)]
          by_cases w0 : w = 0
          · rw [if_pos w0, if_pos w0, gI_54 s1, Option.bind_some, b1]
          · rw [if_neg w0, if_neg w0]
            by_cases w1 : w = 1
            · rw [if_pos w1, if_pos w1, gI_54 s1, Option.bind_some, b2]
            · rw [if_neg w1, if_neg w1, gI_54 s1, Option.bind_some, b3]
        · rw [if_neg c4, if_neg (fun z => c4 z.2)]; exact ⟨_, rfl, ROk_scr R Q0⟩
      · rw [if_neg c3, if_neg (fun z => c3 z.1.2)]; exact ⟨_, rfl, ROk_scr R Q0⟩
    · rw [if_neg c2, if_neg (fun z => c2 z.1.1.2)]; exact ⟨_, rfl, ROk_scr R Q0⟩
  · rw [if_neg c1, if_neg (fun z => c1 z.1.1.1)]; exact ⟨_, rfl, ROk_scr R Q0⟩
theorem X_isHow {U : Nat → Nat} {P E : Nat} (hs : eg_stt h) (V : XV h U P E) (hU : Uok U P E) {a b : Nat} (ha : a < P) (hb : b ≤ 9) (x : Int32) : fX12_isHow h 16 (nI (10 * a + b)) x = some (if GH (U (7 + 4 * a)) x then 1 else 0, h) := by
  have hP := hU.1.1
  have e3 : fX7_ofPerson h 23 (nI a) 3 = some (nI (U (7 + 4 * a)), h) := by
    have := X_ofPerson hs V hU ha (j := 3) (by omega)
    rw [show 4 + 4 * a + 3 = 7 + 4 * a by omega] at this; exact this
  unfold fX12_isHow
  rw [if_pos (iO_16 hs)]
  by_cases c1 : x < 0
  · rw [if_pos c1, if_neg (fun w => w.1 c1)]
  · rw [if_neg c1]
    by_cases c2 : (10 : Int32) < x % 100
    · rw [if_pos c2, if_neg (fun w => w.2.1 c2)]
    · rw [if_neg c2, gR_16 hs, rf_16_3 hs, Option.bind_some, (i10 a b (by omega) hb).1, e3, Option.bind_some]
      dsimp only
      by_cases c3 : nI (U (7 + 4 * a)) < x / 100
      · rw [if_pos c3, if_neg (fun w => w.2.2 c3)]
      · rw [if_neg c3, if_pos ⟨c1, c2, c3⟩]
theorem M_isHow {U : Nat → Nat} {P E : Nat} {lw : eg_LW} (O : RO h U P E lw) {a b : Nat} (ha : a < P) (hb : b ≤ 9) (x : Int32) : fX13_isHow h 54 (nI (10 * a + b)) x = some (if GH (U (7 + 4 * a)) x then 1 else 0, h) := by
  have hP := O.2.1.1.1
  have hs := O.1
  unfold fX13_isHow
  rw [if_pos (iO_54 hs)]
  by_cases c1 : x < 0
  · rw [if_pos c1, if_neg (fun w => w.1 c1)]
  · rw [if_neg c1, gR_54 hs, rf_54_20 hs, Option.bind_some, (i10 a b (by omega) hb).1, show (4 : Int32) * nI a + 3 = nI (4 * a + 3) by rw [nI_k4, show (3 : Int32) = nI 3 from rfl, nI_add], R_per O (by omega), Option.bind_some, show 4 + (4 * a + 3) = 7 + 4 * a by omega]
    by_cases c3 : nI (U (7 + 4 * a)) < x / 100
    · rw [if_pos c3, if_neg (fun w => w.2.2 c3)]
    · rw [if_neg c3]
      by_cases c2 : (10 : Int32) < x % 100
      · rw [if_pos c2, if_neg (fun w => w.2.1 c2)]
      · rw [if_neg c2, if_pos ⟨c1, c2, c3⟩]
theorem aim_i {n : Nat} (hn : n < 2 ^ 31) : nI n % 100 - 5 = iI ((n % 100 : Nat) - 5) := by
  rw [(n100 hn).2, ← iI_n, show (5 : Int32) = iI 5 from rfl, iI_sub]
theorem X_goodH {T : eg_TT} {q : Option Nat} {lw : eg_LW} {y n : Nat} (O : XO h T q lw) (hy : y ≤ 60) (hn : n < 2 ^ 31) (hb : n / 100 ≤ 9) (hi : n % 100 ≤ 10) : ∃ h', fX12_goodOf h 16 (nI y) (nI n) = some (nI (gd lw T y (n / 100) ((n % 100 : Nat) - 5)), h') ∧ eg_eq (Sq q) h h' := by
  obtain ⟨h', e1, E1⟩ := X_wholes O hy hb
  refine ⟨h', ?_, E1⟩
  have hs := O.1
  unfold fX12_goodOf
  rw [if_pos (iO_16 hs), (n100 hn).1, Option.bind_some, gR_16 hs, rf_16_15 hs, Option.bind_some, Option.bind_some, e1, Option.bind_some]
  dsimp only
  rw [aim_i hn, X_goodOf (XO_eq O E1) hb (by omega), Option.bind_some]
theorem X_good (X : XI h σ B) (two c y w : Int32) : ∃ h', fX12_good h 16 two c y w = some (aGood σ two c y w, h') ∧ XOk h h' σ B := by
  have C := X.2.2.1
  have hs := C.1
  have hP := XI_P X
  unfold fX12_good aGood
  rw [if_pos (iO_16 hs), X_isThrow hs C.2.1 two c y, Option.bind_some]
  dsimp only
  rw [g01]
  by_cases c1 : (G2 (sP σ) two ∧ GE (sE σ) c) ∧ GI (nI 1) (nI 60) y
  · rw [if_pos c1]
    obtain ⟨a, b, ha, hb, hab, rfl⟩ := G2_n hP.1 c1.1.1
    obtain ⟨e, d, he, hd, rfl⟩ := GE_n hP.2 c1.1.2
    obtain ⟨n, n1, n2, rfl⟩ := GI_n (by omega) (by omega) c1.2
    have hU := XI_U X (by omega)
    rw [X_isHow hs C.2.1 hU ha (by omega), Option.bind_some, (dAB (a := a) (b := b) (by omega) (by omega)).1]
    dsimp only
    rw [g01]
    by_cases c2 : GH (sU σ (7 + 4 * a)) w
    · rw [if_pos c2, if_pos ⟨c1, c2⟩]
      obtain ⟨m, m1, m2, m3, rfl⟩ := GH_n (hU.2.1 a ha).2.2.2 c2
      have hH := (hU.2.1 a ha).2.2.2
      obtain ⟨h1, e1, E1, T1⟩ := X_take hs C.2.1 hU (wd := sU σ 0) ha hb he hd
      have C1 : XC h1 (sU σ) (sP σ) (sE σ) (sL σ) (eg_P h 36 2) (σ.1 11) B := XC_low C E1 (by decide) (by decide) ⟨rfl, rfl, rfl, rfl, fun _ => ⟨rfl, rfl⟩⟩
      have O1 : XO h1 (tOf (sU σ) (sU σ 0) a b e d) (eg_P h 36 2) (sL σ) := ⟨C1.1, tOf_ok hU hU.1.2.2.1 ha hb he, C1.2.2.1, T1, C1.2.2.2.1⟩
      obtain ⟨h2, e2, E2⟩ := X_goodH (y := n) O1 n2 m1 (by omega) m3
      have e0 : fX7_told h 23 0 = some (nI (sU σ 0), h) := X_told hs C.2.1 (x := 0) (by omega)
      refine ⟨h2, ?_, XOk_scr X (gr_tr (gr_sub (by decide) (gr_eq E1 (by decide))) (gr_sub (by decide) (gr_Sq C1.2.2.2.1 E2))) (XC_law C1 E2)⟩
      rw [gR_16 hs, rf_16_15 hs, Option.bind_some, gR_16 hs, rf_16_3 hs, Option.bind_some, e0, Option.bind_some]
      dsimp only
      rw [e1, Option.bind_some, e2, Option.bind_some, tS2_eq (by omega) (by omega) (by omega) (by omega), dN_n (by omega), dN_n m1]
    · rw [if_neg c2, if_neg (fun z => c2 z.2)]
      exact ⟨h, rfl, XOk_rfl X⟩
  · rw [if_neg c1, if_neg (fun z => c1 z.1)]
    exact ⟨h, rfl, XOk_rfl X⟩
theorem M_goodH {U : Nat → Nat} {P E : Nat} {lw : eg_LW} (O : RO h U P E lw) {a b e d y n : Nat} (ha : a < P) (hb : b < P) (he : e < E) (hd : d ≤ 1) (hy : y ≤ 60) (hn : n < 2 ^ 31) (hw : n / 100 ≤ 9) (hi : n % 100 ≤ 10) : ∃ h', fX13_goodOf h 54 (nI (10 * a + b)) (nI (10 * e + d)) (nI y) (nI n) = some (nI (gd lw (tOf U (U 0) a b e d) y (n / 100) ((n % 100 : Nat) - 5)), h') ∧ eg_eq SH h h' := by
  have hP := O.2.1.1.1
  have hE := O.2.1.1.2.1
  obtain ⟨h', e1, E1, H1⟩ := M_holds (p := a) O hb he hd hy (b := n / 100) hw
  refine ⟨h', ?_, E1⟩
  unfold fX13_goodOf
  rw [if_pos (iO_54 O.1), (i10 a b (by omega) (by omega)).1, (i10 a b (by omega) (by omega)).2, (n100 hn).1, e1, Option.bind_some, (i10 e d (by omega) (by omega)).2, aim_i hn, M_goodBy (RO_H O E1) ha hb he hd hw (by omega) H1, Option.bind_some]
theorem M_good (R : RI h σ) (two c y w : Int32) : ∃ h', fX13_good h 54 two c y w = some (aGood σ two c y w, h') ∧ ROk h h' σ := by
  obtain ⟨R0, Q0⟩ := R_0 R
  have hs := R.1
  have s0 := R0.1
  have hP := RI_P R
  unfold fX13_good aGood
  rw [if_pos (iO_54 hs), pI_54 hs, Option.bind_some, M_isTwo s0 R0.2.2.2.1 two, Option.bind_some]
  dsimp only
  rw [g01]
  by_cases c1 : G2 (sP σ) two
  · rw [if_pos c1, M_isFrom s0 R0.2.2.2.1 c, Option.bind_some]
    dsimp only
    rw [g01]
    by_cases c2 : GE (sE σ) c
    · rw [if_pos c2, M_GI (lo := 1) (hi := 60) _ y (by omega) (by omega) 1 60 rfl rfl, Option.bind_some]
      dsimp only
      rw [g01]
      by_cases c3 : GI (nI 1) (nI 60) y
      · rw [if_pos c3]
        have c0 := c1
        obtain ⟨a, b, ha, hb, hab, rfl⟩ := G2_n hP.1 c1
        have O := RI_RO R0 (by omega)
        rw [M_isHow O ha (by omega), Option.bind_some, (dAB (a := a) (b := b) (by omega) (by omega)).1]
        dsimp only
        rw [g01]
        by_cases c4 : GH (sU σ (7 + 4 * a)) w
        · rw [if_pos c4, if_pos ⟨⟨⟨c0, c2⟩, c3⟩, c4⟩]
          obtain ⟨e, d, he, hd, rfl⟩ := GE_n hP.2 c2
          obtain ⟨n, n1, n2, rfl⟩ := GI_n (by omega) (by omega) c3
          obtain ⟨m, m1, m2, m3, rfl⟩ := GH_n (O.2.1.2.1 a ha).2.2.2 c4
          have hH := (O.2.1.2.1 a ha).2.2.2
          obtain ⟨h', e1, E1⟩ := M_goodH O ha hb he hd n2 m1 (by omega) m3
          refine ⟨h', ?_, ROk_scr R (eq_tr Q0 (SH_x E1))⟩
          rw [e1, Option.bind_some, tS2_eq (by omega) (by omega) (by omega) (by omega), dN_n (by omega), dN_n m1]
        · rw [if_neg c4, if_neg (fun z => c4 z.2)]; exact ⟨_, rfl, ROk_scr R Q0⟩
      · rw [if_neg c3, if_neg (fun z => c3 z.1.2)]; exact ⟨_, rfl, ROk_scr R Q0⟩
    · rw [if_neg c2, if_neg (fun z => c2 z.1.1.2)]; exact ⟨_, rfl, ROk_scr R Q0⟩
  · rw [if_neg c1, if_neg (fun z => c1 z.1.1.1)]; exact ⟨_, rfl, ROk_scr R Q0⟩
end TH
