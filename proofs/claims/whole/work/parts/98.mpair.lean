def SP : List (Nat × Option Nat) := [(54, some 5), (54, some 8), (54, some 9), (54, some 10), (54, some 11), (54, some 12), (54, some 13), (54, some 14), (54, some 17), (58, none), (68, none), (54, some 36), (54, some 37), (54, some 38), (54, some 40), (54, some 41), (69, none)]
theorem SB_P {h h' : eg_H} (E : eg_eq SB h h') : eg_eq SP h h' := eq_mono E (fun p i hc => by
  unfold SP eg_cov at hc
  unfold SB eg_cov
  simp only [List.any_cons, List.any_nil, Bool.or_eq_false_iff] at hc ⊢
  obtain ⟨z1, z2, z3, z4, z5, z6, z7, z8, z9, z10, z11, z12, z13, z14, _⟩ := hc
  exact ⟨z1, z2, z3, z4, z5, z6, z7, z8, z9, z10, z11, z12, z13, z14, trivial⟩)
def PNk (h : eg_H) (f : Nat → Nat) (k : Nat) : Prop := (∀ j, j ≤ 61 → eg_I h 69 j = if j ≤ k then nI (f j) else 0) ∧ eg_I h 54 40 = nI (frF f k) ∧ eg_L h 54 41 = jI (hpF f k)
section MP
variable {U : Nat → Nat} {P E : Nat} {lw : eg_LW}
theorem ccP : (eg_cov SP 54 24 = false ∧ eg_cov SP 54 26 = false ∧ eg_cov SP 54 34 = false) ∧ ∀ i, eg_cov SP 59 i = false ∧ eg_cov SP 61 i = false ∧ eg_cov SP 63 i = false ∧ eg_cov SP 56 i = false ∧ eg_cov SP 57 i = false := ⟨⟨rfl, rfl, rfl⟩, fun _ => ⟨rfl, rfl, rfl, rfl, rfl⟩⟩
theorem RO_P {h h' : eg_H} (O : RO h U P E lw) (Q : eg_eq SP h h') : RO h' U P E lw := RO_eq O Q (by decide) ccP
theorem PNk_eq {h h' : eg_H} {f : Nat → Nat} {k : Nat} (K : PNk h f k) (Q : eg_eq SB h h') : PNk h' f k := ⟨fun j hj => by rw [(Q.2 69 j rfl).1]; exact K.1 j hj, by rw [(Q.2 54 40 rfl).1]; exact K.2.1, by rw [(Q.2 54 41 rfl).2.1]; exact K.2.2⟩
theorem fr_le (f : Nat → Nat) (n : Nat) : frF f n ≤ n := sm_le (fun i _ => by split <;> omega)
theorem PN_stay {h : eg_H} {f : Nat → Nat} {k n : Nat} (K : PNk h f k) (hk : k ≤ n) (hz : ∀ i, k < i → f i = 0) : PNk h f n := by
  refine ⟨fun j hj => ?_, ?_, ?_⟩
  · rw [K.1 j hj]
    by_cases c : j ≤ k
    · rw [if_pos c, if_pos (by omega)]
    · rw [if_neg c]
      by_cases c2 : j ≤ n
      · rw [if_pos c2, hz j (by omega)]; rfl
      · rw [if_neg c2]
  · rw [fr_stay hz hk]; exact K.2.1
  · rw [hp_stay hz hk]; exact K.2.2
theorem M_102 {rec : eg_H → Nat → Int32 → Int32 → Int32 → Int32 → Int32 → Int32 → Option ((Int32 × eg_H) ⊕ (eg_H))} {h : eg_H} {a b e d k : Nat} (ha : a ≤ 9) (hb : b ≤ 9) (he : e ≤ 9) (hd : d ≤ 1) (l3 l4 l5 l7 : Int32) (l6 : Int32) :
    fX13_goPair_j102 rec h 54 (nI (10 * a + b)) (nI (10 * e + d)) l3 l4 l5 l6 l7 (if k % 2 = 1 then 1 else 0) = fX13_goPair_j168 rec h 54 (nI (10 * a + b)) (nI (10 * e + d)) l3 l4 l5 l6 l7 (nI (fOd k a b)) 54 (nI (fOd k a b)) (nI (fOd k b a)) (nI (10 * e + fOd k d (1 - d))) := by
  unfold fX13_goPair_j102 fX13_goPair_j120 fX13_goPair_j138 fOd
  by_cases c : k % 2 = 1
  · simp only [if_pos c, if_neg (show ¬ (1 : Int32) = 0 by decide)]
    rw [(i10 a b ha hb).1, (i10 a b ha hb).2]
  · simp only [if_neg c, if_pos (show (0 : Int32) = 0 from rfl)]
    rw [(i10 a b ha hb).1, (i10 a b ha hb).2, (i10 e d he (by omega)).1, (i10 e d he (by omega)).2]
    have e9 : nI e * 10 + 1 - nI d = nI (10 * e + (1 - d)) := by
      rw [← iI_n, ← iI_n, ← iI_n, show (10 : Int32) = iI 10 from rfl, show (1 : Int32) = iI 1 from rfl, iI_mul, iI_add, iI_sub]
      congr 1
      omega
    rw [e9]
    simp only [reduceIte]
def oPr (x : (Int32 × eg_H) ⊕ (eg_H)) : Int32 × eg_H := match x with
  | .inl z => z
  | .inr h => (0, h)
theorem M_pair_L {a b e d st n : Nat} (hU : Uok U P E) (ha : a < P) (hb : b < P) (he : e < E) (hd : d ≤ 1) (hst : st ≤ 60) (hn : n ≤ 60) : ∀ j k h F, k + j = n → j < F → RO h U P E lw → PNk h (ptF U lw (U 0) a b e d st) k → ∃ h' x, fX13_goPair_L53 F h 54 (nI (10 * a + b)) (nI (10 * e + d)) (nI st) (nI n) (nI (ptF U lw (U 0) a b e d st k)) (nI (k + 1)) = some x ∧ oPr x = (nI (ptF U lw (U 0) a b e d st n), h') ∧ eg_eq SP h h' ∧ PNk h' (ptF U lw (U 0) a b e d st) n := by
  have hP := hU.1.1
  have hE := hU.1.2.1
  have hw := hU.1.2.2.1
  have h3 := hU.1.2.2.2.2.2.2.2
  intro j
  induction j with
  | zero =>
    intro k h F hk hF O K
    obtain ⟨F, rfl⟩ : ∃ F', F = F' + 1 := ⟨F - 1, by omega⟩
    obtain rfl : k = n := by omega
    refine ⟨h, .inl (_, h), ?_, rfl, eq_rfl, K⟩
    rw [fX13_goPair_L53, if_pos (nI_lt (by omega) (by omega))]
  | succ j ih =>
    intro k h F hk hF O K
    obtain ⟨F, rfl⟩ : ∃ F', F = F' + 1 := ⟨F - 1, by omega⟩
    have hs := O.1
    have hyb : k * st ≤ 60 * 60 := Nat.mul_le_mul (by omega) hst
    have hy : yK U st (k + 1) = U 3 + k * st := rfl
    have hyI : nI (U 3) + (nI (k + 1) - 1) * nI st = nI (yK U st (k + 1)) := by
      rw [nI_m1, ← iI_n, ← iI_n, ← iI_n, ← iI_n, iI_mul, iI_add, hy]
      congr 1
    have e3 : eg_aI h 100 59 3 = some (nI (U 3)) := R_mea O (x := 3) (by omega)
    have hle := pt_le (U := U) (lw := lw) (wd := U 0) (a := a) (b := b) (e := e) (d := d) (st := st) k
    have stop : ptF U lw (U 0) a b e d st (k + 1) = 0 → ∃ h' x, (some (.inr h) : Option ((Int32 × eg_H) ⊕ (eg_H))) = some x ∧ oPr x = (nI (ptF U lw (U 0) a b e d st n), h') ∧ eg_eq SP h h' ∧ PNk h' (ptF U lw (U 0) a b e d st) n := by
      intro c0
      have hz : ∀ i, k < i → ptF U lw (U 0) a b e d st i = 0 := fun i hi => by
        have := pt_0 c0 (i - (k + 1))
        rw [show k + 1 + (i - (k + 1)) = i by omega] at this
        exact this
      refine ⟨h, _, rfl, ?_, eq_rfl, PN_stay K (by omega) hz⟩
      rw [hz n (by omega)]
      rfl
    rw [fX13_goPair_L53, if_neg (nI_nlt (by omega) (by omega)), gR_54 hs, rf_54_18 hs, Option.bind_some, e3, Option.bind_some, hyI, Option.bind_some]
    by_cases cy : 60 < yK U st (k + 1)
    · rw [if_pos (show (60 : Int32) < nI (yK U st (k + 1)) from nI_lt (a := 60) cy (by omega))]
      exact stop (if_pos (Or.inl cy))
    · rw [if_neg (show ¬ (60 : Int32) < nI (yK U st (k + 1)) from nI_nlt (a := 60) (by omega) (by omega))]
      by_cases c0 : ptF U lw (U 0) a b e d st k = 0
      · rw [if_pos (show nI (ptF U lw (U 0) a b e d st k) = 0 by rw [c0]; rfl)]
        exact stop (if_pos (Or.inr c0))
      · rw [if_neg (nI_ne0 (by omega) (by omega))]
        have hmod : (if (nI (k + 1) % 2 : Int32) = 1 then fX13_goPair_j102 (fX13_goPair_L53 F) h 54 (nI (10 * a + b)) (nI (10 * e + d)) (nI st) (nI n) (nI (ptF U lw (U 0) a b e d st k)) (nI (k + 1)) (nI (yK U st (k + 1))) 1 else fX13_goPair_j102 (fX13_goPair_L53 F) h 54 (nI (10 * a + b)) (nI (10 * e + d)) (nI st) (nI n) (nI (ptF U lw (U 0) a b e d st k)) (nI (k + 1)) (nI (yK U st (k + 1))) 0) = fX13_goPair_j102 (fX13_goPair_L53 F) h 54 (nI (10 * a + b)) (nI (10 * e + d)) (nI st) (nI n) (nI (ptF U lw (U 0) a b e d st k)) (nI (k + 1)) (nI (yK U st (k + 1))) (if (k + 1) % 2 = 1 then 1 else 0) := by
          by_cases c : (k + 1) % 2 = 1
          · rw [if_pos ((md2 (k + 1) (by omega)).mpr c), if_pos c]
          · rw [if_neg (fun w => c ((md2 (k + 1) (by omega)).mp w)), if_neg c]
        rw [hmod, M_102 (by omega) (by omega) (by omega) hd]
        have A1 : fOd (k + 1) a b < P ∧ fOd (k + 1) b a < P := by unfold fOd; split <;> exact ⟨by assumption, by assumption⟩
        have D1 : fOd (k + 1) d (1 - d) ≤ 1 := by unfold fOd; split <;> omega
        obtain ⟨h1, e1, E1, _, _, b3⟩ := M_best O (p := fOd (k + 1) a b) (r := fOd (k + 1) b a) (e := e) (d := fOd (k + 1) d (1 - d)) (y := yK U st (k + 1)) A1.1 A1.2 he D1 (by omega)
        have O1 := RO_B O E1
        have K1 := PNk_eq K E1
        have T1 := tOf_ok (d := fOd (k + 1) d (1 - d)) hU hw A1.1 A1.2 he
        have hg1 : bgd lw (tK U (U 0) a b e d (k + 1)) (yK U st (k + 1)) ≤ 11 := bgd_le (lw := lw) T1 (yK U st (k + 1))
        have hS := (hU.2.1 _ A1.1).1
        have hpt : ptF U lw (U 0) a b e d st (k + 1) = ptF U lw (U 0) a b e d st k * bgd lw (tK U (U 0) a b e d (k + 1)) (yK U st (k + 1)) / (2 * U (4 + 4 * fOd (k + 1) a b) + 1) := if_neg (by omega)
        have hmul : ptF U lw (U 0) a b e d st k * bgd lw (tK U (U 0) a b e d (k + 1)) (yK U st (k + 1)) ≤ 1000000000 * 11 := Nat.mul_le_mul hle hg1
        have hle' := pt_le (U := U) (lw := lw) (wd := U 0) (a := a) (b := b) (e := e) (d := d) (st := st) (k + 1)
        have h2S : (2 : Int32) * nI (U (4 + 4 * fOd (k + 1) a b)) + 1 = nI (2 * U (4 + 4 * fOd (k + 1) a b) + 1) := by rw [nI_k2, nI_1]
        have hdv : (((nI (ptF U lw (U 0) a b e d st k)).toInt64 * (nI (bgd lw (tK U (U 0) a b e d (k + 1)) (yK U st (k + 1)))).toInt64) / (nI (2 * U (4 + 4 * fOd (k + 1) a b) + 1)).toInt64).toInt32 = nI (ptF U lw (U 0) a b e d st (k + 1)) := by
          rw [← iI_n, ← iI_n, ← iI_n, ← iI_n, iI_w (by unfold i3; omega), iI_w (by unfold i3; omega), iI_w (by unfold i3; omega), jI_mul, hpt]
          have e2 : ((ptF U lw (U 0) a b e d st k : Nat) : Int) * ((bgd lw (tK U (U 0) a b e d (k + 1)) (yK U st (k + 1)) : Nat) : Int) = ((ptF U lw (U 0) a b e d st k * bgd lw (tK U (U 0) a b e d (k + 1)) (yK U st (k + 1)) : Nat) : Int) := by rw [Int.natCast_mul]
          have e4 : ((ptF U lw (U 0) a b e d st k * bgd lw (tK U (U 0) a b e d (k + 1)) (yK U st (k + 1)) : Nat) : Int).tdiv ((2 * U (4 + 4 * fOd (k + 1) a b) + 1 : Nat) : Int) = ((ptF U lw (U 0) a b e d st k * bgd lw (tK U (U 0) a b e d (k + 1)) (yK U st (k + 1)) / (2 * U (4 + 4 * fOd (k + 1) a b) + 1) : Nat) : Int) := by
            rw [Int.tdiv_eq_ediv_of_nonneg (by omega), Int.natCast_ediv]
          rw [hpt] at hle'
          rw [e2, jI_div (by unfold i6; omega) (by unfold i6; omega) (by rw [e4]; unfold i6; omega), e4, jI_w (by unfold i3; omega)]
        have hne64 : ¬ (nI (2 * U (4 + 4 * fOd (k + 1) a b) + 1)).toInt64 = 0 := by
          rw [← iI_n, iI_w (by unfold i3; omega)]
          exact fun w => by have := (jI_eq (b := 0) (by unfold i6; omega) (by unfold i6; omega)).mp w; omega
        have hcl : (nI (k + 1)).toNatClampNeg = k + 1 := nI_clamp (by omega)
        let g1 := eg_sI h1 69 (k + 1) (nI (ptF U lw (U 0) a b e d st (k + 1)))
        let g2 := eg_sL g1 54 41 (jI (hpF (ptF U lw (U 0) a b e d st) (k + 1)))
        let g3 := eg_sI g2 54 40 (nI (frF (ptF U lw (U 0) a b e d st) (k + 1)))
        have Q3 : eg_eq SP h1 g3 := eq_sI (eq_sL (eq_sI eq_rfl rfl) rfl) rfl
        have K3 : PNk g3 (ptF U lw (U 0) a b e d st) (k + 1) := by
          refine ⟨fun i hi => ?_, ?_, ?_⟩
          · show eg_I (eg_sI g2 54 40 (nI (frF (ptF U lw (U 0) a b e d st) (k + 1)))) 69 i = _
            rw [I_sI, if_neg (by omega)]
            show eg_I (eg_sI h1 69 (k + 1) (nI (ptF U lw (U 0) a b e d st (k + 1)))) 69 i = _
            rw [I_sI]
            by_cases ci : i = k + 1
            · subst ci; rw [if_pos ⟨rfl, rfl⟩, if_pos (Nat.le_refl _)]
            · rw [if_neg (fun z => ci z.2), K1.1 i hi]
              by_cases c5 : i ≤ k
              · rw [if_pos c5, if_pos (by omega)]
              · rw [if_neg c5, if_neg (by omega)]
          · show eg_I (eg_sI g2 54 40 (nI (frF (ptF U lw (U 0) a b e d st) (k + 1)))) 54 40 = _
            rw [I_sI, if_pos ⟨rfl, rfl⟩]
          · show eg_L (eg_sL g1 54 41 (jI (hpF (ptF U lw (U 0) a b e d st) (k + 1)))) 54 41 = _
            rw [L_sL, if_pos ⟨rfl, rfl⟩]
        obtain ⟨h', x, e5, x5, E5, K5⟩ := ih (k + 1) g3 F (by omega) (by omega) (RO_P O1 Q3) K3
        refine ⟨h', x, ?_, x5, eq_tr (SB_P E1) (eq_tr Q3 E5), K5⟩
        have s1 := O1.1
        have hper : eg_aI h1 100 61 ((4 : Int32) * nI (fOd (k + 1) a b)) = some (nI (U (4 + 4 * fOd (k + 1) a b))) := by rw [nI_k4, R_per O1 (by omega)]
        unfold fX13_goPair_j168
        rw [e1, Option.bind_some, gI_54 s1, b3, Option.bind_some, gR_54 s1, rf_54_20 s1, Option.bind_some, hper, Option.bind_some, h2S, if_neg hne64]
        show ((some (((nI (ptF U lw (U 0) a b e d st k)).toInt64 * (nI (bgd lw (tK U (U 0) a b e d (k + 1)) (yK U st (k + 1)))).toInt64) / (nI (2 * U (4 + 4 * fOd (k + 1) a b) + 1)).toInt64).toInt32).bind _) = _
        rw [hdv, Option.bind_some, gR_54 s1, rf_54_39 s1, Option.bind_some, wI_69 s1 (nI_pos (by omega)) (by rw [hcl]; omega), hcl, Option.bind_some]
        show ((eg_gL g1 13 41 54).bind _) = _
        have s2 : eg_stt g1 := s1
        have s3 : eg_stt g2 := s1
        have eL : eg_L g1 54 41 = jI (hpF (ptF U lw (U 0) a b e d st) k) := K1.2.2
        have eh : jI (hpF (ptF U lw (U 0) a b e d st) k) + (nI (ptF U lw (U 0) a b e d st (k + 1))).toInt64 = jI (hpF (ptF U lw (U 0) a b e d st) (k + 1)) := by
          rw [← iI_n, iI_w (by unfold i3; omega), jI_add]
          congr 1
        rw [gL_54 s2, eL, Option.bind_some, eh, pL_54 s2, Option.bind_some]
        show ((eg_gI g2 13 40 54).bind _) = _
        have e40 : eg_I g2 54 40 = nI (frF (ptF U lw (U 0) a b e d st) k) := by
          show eg_I (eg_sI h1 69 (k + 1) (nI (ptF U lw (U 0) a b e d st (k + 1)))) 54 40 = _
          rw [I_sI, if_neg (by omega)]; exact K1.2.1
        rw [gI_54 s3, e40, Option.bind_some]
        have efr : frF (ptF U lw (U 0) a b e d st) (k + 1) = frF (ptF U lw (U 0) a b e d st) k + (if 0 < ptF U lw (U 0) a b e d st (k + 1) then 1 else 0) := rfl
        by_cases c1 : ptF U lw (U 0) a b e d st (k + 1) = 0
        · have efr0 : frF (ptF U lw (U 0) a b e d st) (k + 1) = frF (ptF U lw (U 0) a b e d st) k := by
            rw [efr, if_neg (by omega)]
            rfl
          rw [if_pos (show nI (ptF U lw (U 0) a b e d st (k + 1)) ≤ 0 by rw [c1]; decide), Int32.add_zero, pI_54 s3, Option.bind_some, ← efr0, nI_1]
          exact e5
        · rw [if_pos (by omega)] at efr
          rw [if_neg (show ¬ nI (ptF U lw (U 0) a b e d st (k + 1)) ≤ 0 from nI_ge (a := 0) (by omega) (by omega)), nI_1, pI_54 s3, Option.bind_some, ← efr, nI_1]
          exact e5
theorem M_pair_0 {a b : Nat} (l1 l2 l3 l4 l5 : Int32) : ∀ j i h F, i + j = 62 → j < F → eg_stt h → (∀ k, k < i → eg_I h 69 k = if k ≤ 0 then nI 1000000000 else 0) → ∃ h', fX13_goPair_L8 F h 54 l1 l2 l3 l4 l5 (nI i) = some (54, l1, l2, l3, l4, l5, h') ∧ eg_eq [(69, none)] h h' ∧ ∀ k, k < 62 → eg_I h' 69 k = if k ≤ 0 then nI 1000000000 else 0 := by
  intro j
  induction j with
  | zero =>
    intro i h F hi hF hs H
    obtain ⟨F, rfl⟩ : ∃ F', F = F' + 1 := ⟨F - 1, by omega⟩
    obtain rfl : i = 62 := by omega
    exact ⟨h, by rw [fX13_goPair_L8, if_pos (by decide)], eq_rfl, H⟩
  | succ j ih =>
    intro i h F hi hF hs H
    obtain ⟨F, rfl⟩ : ∃ F', F = F' + 1 := ⟨F - 1, by omega⟩
    have hcl : (nI i).toNatClampNeg = i := nI_clamp (by omega)
    have hw : ∀ x, eg_wI h 100 69 (nI i) x = some (eg_sI h 69 i x) := fun x => by
      rw [wI_69 hs (nI_pos (by omega)) (by rw [hcl]; omega), hcl]
    have go : ∀ x, x = (if i ≤ 0 then nI 1000000000 else 0) → ∃ h', fX13_goPair_L8 F (eg_sI h 69 i x) 54 l1 l2 l3 l4 l5 (nI i + 1) = some (54, l1, l2, l3, l4, l5, h') ∧ eg_eq [(69, none)] h h' ∧ ∀ k, k < 62 → eg_I h' 69 k = if k ≤ 0 then nI 1000000000 else 0 := by
      intro x hx
      obtain ⟨h', e, E, v⟩ := ih (i + 1) (eg_sI h 69 i x) F (by omega) (by omega) hs (fun k hk => by
        rw [I_sI]
        by_cases c : k = i
        · subst c; rw [if_pos ⟨rfl, rfl⟩, hx]
        · rw [if_neg (fun z => c z.2)]; exact H k (by omega))
      exact ⟨h', by rw [nI_1]; exact e, eq_tr (eq_sI eq_rfl rfl) E, v⟩
    rw [fX13_goPair_L8, if_neg (show ¬ (62 : Int32) ≤ nI i from nI_ge (b := 62) (by omega) (by omega)), gR_54 hs, rf_54_39 hs, Option.bind_some]
    by_cases c : i = 0
    · subst c
      rw [if_pos (show nI 0 = 0 from rfl), hw, Option.bind_some]
      exact go _ rfl
    · rw [if_neg (nI_ne0 (by omega) (by omega)), hw, Option.bind_some]
      exact go _ (by rw [if_neg (by omega)])
theorem M_pair {a b e d st n : Nat} {h : eg_H} (O : RO h U P E lw) (ha : a < P) (hb : b < P) (he : e < E) (hd : d ≤ 1) (hst : st ≤ 60) (hn : n ≤ 60) : ∃ h', fX13_goPair h 54 (nI (10 * a + b)) (nI (10 * e + d)) (nI st) (nI n) = some (nI (ptF U lw (U 0) a b e d st n), h') ∧ eg_eq SP h h' ∧ PNk h' (ptF U lw (U 0) a b e d st) n := by
  obtain ⟨h1, e1, E1, v1⟩ := M_pair_0 (a := a) (b := b) (nI (10 * a + b)) (nI (10 * e + d)) (nI st) (nI n) 1000000000 62 0 h eg_F (by omega) (by rw [eg_F_eq]; omega) O.1 (fun k hk => by omega)
  have e1' : fX13_goPair_L8 eg_F h 54 (nI (10 * a + b)) (nI (10 * e + d)) (nI st) (nI n) 1000000000 0 = some (54, nI (10 * a + b), nI (10 * e + d), nI st, nI n, 1000000000, h1) := e1
  have s1 : eg_stt h1 := eq_stt E1 O.1 (by decide)
  let g2 := eg_sL (eg_sI h1 54 40 0) 54 41 0
  have Q2 : eg_eq SP h g2 := eq_sL (eq_sI (eq_mono E1 (fun p i hc => by
    unfold SP eg_cov at hc
    unfold eg_cov
    simp only [List.any_cons, List.any_nil, Bool.or_eq_false_iff] at hc ⊢
    obtain ⟨_, _, _, _, _, _, _, _, _, _, _, _, _, _, _, _, z, _⟩ := hc
    exact ⟨z, trivial⟩)) rfl) rfl
  have K2 : PNk g2 (ptF U lw (U 0) a b e d st) 0 := by
    refine ⟨fun j hj => ?_, ?_, ?_⟩
    · show eg_I (eg_sI h1 54 40 0) 69 j = _
      rw [I_sI, if_neg (by omega), v1 j (by omega)]
      by_cases c : j ≤ 0
      · obtain rfl : j = 0 := by omega
        rfl
      · rw [if_neg c, if_neg c]
    · show eg_I (eg_sI h1 54 40 0) 54 40 = _
      rw [I_sI, if_pos ⟨rfl, rfl⟩]; rfl
    · show eg_L (eg_sL (eg_sI h1 54 40 0) 54 41 0) 54 41 = _
      rw [L_sL, if_pos ⟨rfl, rfl⟩]; rfl
  obtain ⟨h', x, e3, x3, E3, K3⟩ := M_pair_L O.2.1 ha hb he hd hst hn n 0 g2 eg_F (by omega) (by rw [eg_F_eq]; omega) (RO_P O Q2) K2
  have e3' : fX13_goPair_L53 eg_F g2 54 (nI (10 * a + b)) (nI (10 * e + d)) (nI st) (nI n) 1000000000 1 = some x := e3
  refine ⟨h', ?_, eq_tr Q2 E3, K3⟩
  unfold fX13_goPair
  rw [if_pos (iO_54 O.1), e1', Option.bind_some]
  show ((eg_pI h1 13 40 54 0).bind _) = _
  rw [pI_54 s1, Option.bind_some, pL_54 (show eg_stt (eg_sI h1 54 40 0) from s1), Option.bind_some]
  show ((fX13_goPair_L53 eg_F g2 54 (nI (10 * a + b)) (nI (10 * e + d)) (nI st) (nI n) 1000000000 1).bind _) = _
  rw [e3', Option.bind_some]
  cases x with
  | inl z =>
    have x3 : z = (nI (ptF U lw (U 0) a b e d st n), h') := x3
    rw [x3]
  | inr z =>
    have x3 : (0, z) = (nI (ptF U lw (U 0) a b e d st n), h') := x3
    exact congrArg some x3
end MP
