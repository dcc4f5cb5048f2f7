def SBf : List (Nat × Option Nat) := (54, some 55) :: SB
theorem SBf_x {h h' : eg_H} (E : eg_eq SBf h h') : eg_eq Rx h h' := cov_sub (by decide) E
theorem SB_f {h h' : eg_H} (E : eg_eq SB h h') : eg_eq SBf h h' := cov_sub (fun t ht => List.mem_cons_of_mem _ ht) E
abbrev fck (i l a : Nat) : Prop := (l.testBit i = true ∧ a &&& (l % 2 ^ i) = a) → (((l % 2 ^ i - a) ||| 2 ^ i = l % 2 ^ (i + 1) - a ∧ a &&& (l % 2 ^ (i + 1)) = a) ∧ l % 2 ^ (i + 1) - (a ||| 2 ^ i) = l % 2 ^ i - a) ∧ (a ||| 2 ^ i) &&& (l % 2 ^ (i + 1)) = a ||| 2 ^ i
theorem ft_1b : ((List.range 3).all fun i => (List.range 8).all fun l => (List.range 8).all fun a => decide (fck i l a)) = true := by decide +kernel
theorem ft_1 (i : Nat) (hi : i < 3) (l : Nat) (hl : l < 8) (a : Nat) (ha : a < 8) (h1 : l.testBit i = true) (h2 : a &&& (l % 2 ^ i) = a) : (l % 2 ^ i - a) ||| 2 ^ i = l % 2 ^ (i + 1) - a ∧ a &&& (l % 2 ^ (i + 1)) = a ∧ l % 2 ^ (i + 1) - (a ||| 2 ^ i) = l % 2 ^ i - a ∧ (a ||| 2 ^ i) &&& (l % 2 ^ (i + 1)) = a ||| 2 ^ i := by
  have q1 := List.all_eq_true.mp ft_1b i (List.mem_range.mpr hi)
  have q2 := List.all_eq_true.mp q1 l (List.mem_range.mpr hl)
  have q3 := List.all_eq_true.mp q2 a (List.mem_range.mpr ha)
  obtain ⟨⟨⟨z1, z2⟩, z3⟩, z4⟩ := (of_decide_eq_true q3 : fck i l a) ⟨h1, h2⟩
  exact ⟨z1, z2, z3, z4⟩
theorem ft_2 : ∀ i, i < 3 → ∀ l, l < 8 → ¬ l.testBit i = true → l % 2 ^ (i + 1) = l % 2 ^ i := by decide +kernel
theorem ft_3 : ∀ l, l < 8 → ∀ a, a < 8 → a &&& l = a → nI l &&& (nI (l - a) ^^^ (-1 : Int32)) = nI a := by decide +kernel
section FM2
variable {h : eg_H} {σ : eg_S} {B : Nat × Nat}
theorem M_well (R : RI h σ) {x : Int64} (hx : eg_L h 54 55 = x) {a b e k y : Nat} (ha : a < sP σ) (hb : b < sP σ) (he : e < sE σ) (hk : k ≤ 1000) (hy : y ≤ 60) : ∃ h', fX13_isThrownWell h 54 (nI (10 * a + b)) (nI e) (nI k) (nI y) = some (if cgt (sL σ) (tK (sU σ) (sU σ 0) a b e 0 k) y x = true then 1 else 0, h') ∧ eg_eq SBf h h' ∧ eg_L h' 54 55 = nx x := by
  have hs := R.1
  have hP := RI_P R
  have O := RI_RO R (by omega)
  have hU := O.2.1
  have fa : fOd k a b < sP σ := by unfold fOd; split <;> assumption
  have fb : fOd k b a < sP σ := by unfold fOd; split <;> assumption
  have fd : fOd k 0 (1 - 0) ≤ 1 := by unfold fOd; split <;> omega
  obtain ⟨h1, e1, E1, b1, b2, b3⟩ := M_best O fa fb he fd (y := y) hy
  have T := tOf_ok (d := fOd k 0 (1 - 0)) hU hU.1.2.2.1 fa fb he
  have hb1 := bst_lt (lw := sL σ) T y
  have O1 := RO_B O E1
  have s1 := O1.1
  have l1 : eg_L h1 54 55 = x := by rw [(E1.2 54 55 rfl).2.1]; exact hx
  have E2 : eg_eq [(54, some 55)] h1 (eg_sL h1 54 55 (nx x)) := eq_sL eq_rfl rfl
  have O2 : RO (eg_sL h1 54 55 (nx x)) (sU σ) (sP σ) (sE σ) (sL σ) := RO_eq O1 E2 (by decide) ⟨⟨rfl, rfl, rfl⟩, fun _ => ⟨rfl, rfl, rfl, rfl, rfl⟩⟩
  have s2 := O2.1
  have l2 : eg_L (eg_sL h1 54 55 (nx x)) 54 55 = nx x := by rw [L_sL, if_pos ⟨rfl, rfl⟩]
  have hbw : bst (sL σ) (tOf (sU σ) (sU σ 0) (fOd k a b) (fOd k b a) e (fOd k 0 (1 - 0))) y / 11 ≤ 9 := by omega
  obtain ⟨h3, e3, E3, H3⟩ := M_holds (p := fOd k a b) O2 fb he fd hy (b := bst (sL σ) (tOf (sU σ) (sU σ 0) (fOd k a b) (fOd k b a) e (fOd k 0 (1 - 0))) y / 11) hbw
  have O3 := RO_H O2 E3
  have s3 := O3.1
  have hS := (hU.2.1 _ fa).1
  obtain ⟨d1, d2⟩ := dr_e (nx x) hS
  have hdr : drN (nx x) (sU σ (4 + 4 * fOd k a b)) < 2 * sU σ (4 + 4 * fOd k a b) + 1 := Nat.mod_lt _ (by omega)
  have eo := M_off (k := drN (nx x) (sU σ (4 + 4 * fOd k a b))) (aim := ((bst (sL σ) (tOf (sU σ) (sU σ 0) (fOd k a b) (fOd k b a) e (fOd k 0 (1 - 0))) y % 11 : Nat) : Int) - 5) O3 fa fb he fd hbw
  have hwb := wb_b (w := tW (tOf (sU σ) (sU σ 0) (fOd k a b) (fOd k b a) e (fOd k 0 (1 - 0)))) (b := bst (sL σ) (tOf (sU σ) (sU σ 0) (fOd k a b) (fOd k b a) e (fOd k 0 (1 - 0))) y / 11) ⟨T.2.2.2.2.1, T.2.2.2.2.2.1⟩ hbw
  have hoff : i3 (lo (tOf (sU σ) (sU σ 0) (fOd k a b) (fOd k b a) e (fOd k 0 (1 - 0))) (bst (sL σ) (tOf (sU σ) (sU σ 0) (fOd k a b) (fOd k b a) e (fOd k 0 (1 - 0))) y / 11) (((bst (sL σ) (tOf (sU σ) (sU σ 0) (fOd k a b) (fOd k b a) e (fOd k 0 (1 - 0))) y % 11 : Nat) : Int) - 5) + (drN (nx x) (sU σ (4 + 4 * fOd k a b)) : Int)) := by
    have htd := td_b (b := 4) hwb
    have hS' : tS (tOf (sU σ) (sU σ 0) (fOd k a b) (fOd k b a) e (fOd k 0 (1 - 0))) ≤ 5 := T.1
    unfold lo i3
    omega
  have ec := M_caught (y := y) s3 T.2.2.2.1 H3 hoff
  have b36 : eg_I (eg_sL h1 54 55 (nx x)) 54 36 = _ := b1
  have b363 : eg_I h3 54 36 = nI (bst (sL σ) (tOf (sU σ) (sU σ 0) (fOd k a b) (fOd k b a) e (fOd k 0 (1 - 0))) y / 11) := by rw [(E3.2 54 36 rfl).1]; exact b1
  have b373 : eg_I h3 54 37 = iI (((bst (sL σ) (tOf (sU σ) (sU σ 0) (fOd k a b) (fOd k b a) e (fOd k 0 (1 - 0))) y % 11 : Nat) : Int) - 5) := by rw [(E3.2 54 37 rfl).1]; exact b2
  have l3 : eg_L h3 54 55 = nx x := by rw [(E3.2 54 55 rfl).2.1]; exact l2
  refine ⟨h3, ?_, eq_tr (SB_f E1) (eq_tr (eq_sL eq_rfl rfl) (SB_f (SH_B E3))), l3⟩
  have hj : fX13_isThrownWell_j64 h 54 (nI y) (nI (fOd k a b)) (nI (fOd k b a)) (nI (10 * e)) (nI (fOd k 0 (1 - 0))) = some (if cgt (sL σ) (tK (sU σ) (sU σ 0) a b e 0 k) y x = true then 1 else 0, h3) := by
    have e10 : nI (10 * e + fOd k 0 (1 - 0)) % 10 = nI (fOd k 0 (1 - 0)) := (i10 e _ (by omega) (by omega)).2
    unfold fX13_isThrownWell_j64
    rw [nI_add, Option.bind_some, e1, Option.bind_some, gL_54 s1, Option.bind_some, l1, show x * (6364136223846793005 : Int64) + (1442695040888963407 : Int64) = nx x from rfl, pL_54 s1, Option.bind_some]
    show ((eg_gL (eg_sL h1 54 55 (nx x)) 13 55 54).bind _) = _
    rw [gL_54 s2, Option.bind_some, l2]
    show ((eg_gR (eg_sL h1 54 55 (nx x)) 13 20 54).bind _) = _
    rw [gR_54 s2, rf_54_20 s2, Option.bind_some, nI_k4, R_per O2 (by omega), Option.bind_some, nI_k2, nI_1, if_neg d1, Option.bind_some, R_per O2 (by omega), Option.bind_some, d2, Option.bind_some]
    show ((eg_gI (eg_sL h1 54 55 (nx x)) 13 36 54).bind _) = _
    rw [gI_54 s2, Option.bind_some, b36, e3, Option.bind_some, gI_54 s3, Option.bind_some, b363, gI_54 s3, Option.bind_some, b373, e10, eo, Option.bind_some]
    dsimp only
    rw [ec, Option.bind_some]
    dsimp only
    show (if (if cgt (sL σ) (tK (sU σ) (sU σ 0) a b e 0 k) y x = true then (1 : Int32) else 0) = 0 ∨ (if cgt (sL σ) (tK (sU σ) (sU σ 0) a b e 0 k) y x = true then (1 : Int32) else 0) = 1 then some ((if cgt (sL σ) (tK (sU σ) (sU σ 0) a b e 0 k) y x = true then (1 : Int32) else 0), h3) else none) = _
    by_cases c : cgt (sL σ) (tK (sU σ) (sU σ 0) a b e 0 k) y x = true
    · rw [if_pos c, if_pos (Or.inr rfl)]
    · rw [if_neg c, if_pos (Or.inl rfl)]
  have en : nI k % 2 = nI (k % 2) := by rw [show (2 : Int32) = nI 2 from rfl, n_md (by omega) (by omega)]
  unfold fX13_isThrownWell
  rw [if_pos (iO_54 hs), en]
  unfold fX13_isThrownWell_j12 fX13_isThrownWell_j30 fX13_isThrownWell_j48
  rw [(i10 a b (by omega) (by omega)).1, (i10 a b (by omega) (by omega)).2, nI_k10]
  by_cases cp : k % 2 = 1
  · have f1 : fOd k a b = a := if_pos cp
    have f2 : fOd k b a = b := if_pos cp
    have f3 : fOd k 0 (1 - 0) = 0 := if_pos cp
    rw [f1, f2, f3] at hj
    rw [if_pos (show nI (k % 2) = 1 by rw [cp]; rfl), if_neg (show ¬ (1 : Int32) = 0 by decide), if_neg (show ¬ (1 : Int32) = 0 by decide), if_neg (show ¬ (1 : Int32) = 0 by decide)]
    exact hj
  · have f1 : fOd k a b = b := if_neg cp
    have f2 : fOd k b a = a := if_neg cp
    have f3 : fOd k 0 (1 - 0) = 1 := if_neg cp
    rw [f1, f2, f3] at hj
    rw [if_neg (ne_1 (by omega) cp), if_pos rfl, if_pos rfl, if_pos rfl]
    exact hj
theorem M_f83 {w : Nat → Nat} {wh : Int32} {left r : Nat} (hw : ∀ i, i < sP σ → w i < sP σ) (hc3 : cnW w (sP σ) ≤ 3) (hPp : 0 < sP σ) (hl8 : left < 8) (hlc : left < 2 ^ cnW w (sP σ)) (hr : r ≤ 60) (hy : sU σ 3 + r * sU σ 2 ≤ 60) : ∀ j i h s F, i + j = cnW w (sP σ) → j < F → s.1 < 2 ^ i → s.1 &&& (left % 2 ^ i) = s.1 → RI h σ → MPr h (sP σ) w → eg_L h 54 55 = s.2 → ∃ h', fX13_fete_L83 F h 54 wh (nI left) (nI (left % 2 ^ i - s.1)) (nI r) (nI i) = some (54, wh, nI left, nI (left - (thF (ctF σ w (r + 1) (sU σ 3 + r * sU σ 2)) left j i s).1), nI r, h') ∧ (thF (ctF σ w (r + 1) (sU σ 3 + r * sU σ 2)) left j i s).1 &&& left = (thF (ctF σ w (r + 1) (sU σ 3 + r * sU σ 2)) left j i s).1 ∧ ROk h h' σ ∧ MPr h' (sP σ) w ∧ eg_L h' 54 55 = (thF (ctF σ w (r + 1) (sU σ 3 + r * sU σ 2)) left j i s).2 := by
  intro j
  induction j with
  | zero =>
    intro i h s F hi hF hs1 hsub R K hx
    obtain ⟨F, rfl⟩ : ∃ F', F = F' + 1 := ⟨F - 1, by omega⟩
    have hs := R.1
    obtain rfl : i = cnW w (sP σ) := by omega
    have em : left % 2 ^ cnW w (sP σ) = left := Nat.mod_eq_of_lt hlc
    rw [em] at hsub ⊢
    refine ⟨h, ?_, hsub, ⟨R, rfl, fun _ _ _ => ⟨rfl, rfl, rfl⟩⟩, K, hx⟩
    rw [fX13_fete_L83, gI_54 hs, Option.bind_some, K.1.2, if_pos (nI_le (Nat.le_refl _) (by omega))]
    rfl
  | succ j ih =>
    intro i h s F hi hF hs1 hsub R K hx
    obtain ⟨F, rfl⟩ : ∃ F', F = F' + 1 := ⟨F - 1, by omega⟩
    have hs := R.1
    have hP := RI_P R
    have O := RI_RO R hPp
    have hU := O.2.1
    have hE1 : 1 ≤ sE σ := (R.2.1.2.1.2.2.2 hPp).2.1
    have hl := lw_in (w := w) (sP σ) i (by omega)
    have hwl := hw _ hl.1
    have hm : i % sE σ < sE σ := Nat.mod_lt _ (by omega)
    have h8 : s.1 < 8 := Nat.lt_of_lt_of_le hs1 (Nat.le_trans (Nat.pow_le_pow_right (by omega) (show i ≤ 3 by omega)) (by decide))
    have h2i : 2 ^ i ≤ 2 ^ (i + 1) := Nat.pow_le_pow_right (by omega) (by omega)
    have h3o : s.1 ||| 2 ^ i < 2 ^ (i + 1) := Nat.or_lt_two_pow (by omega) (Nat.pow_lt_pow_right (by omega) (by omega))
    have bt := bt_1 (m := left) (s := i) (by omega) (by omega)
    have hcl : (nI i).toNatClampNeg = i := nI_clamp (by omega)
    have hcl2 : (nI (lwT w (sP σ) i)).toNatClampNeg = lwT w (sP σ) i := nI_clamp (by omega)
    have a1 : eg_aI h 100 78 (nI i) = some (nI (lwT w (sP σ) i)) := by rw [aI_78 hs (nI_pos (by omega)) (by rw [hcl]; omega), hcl, K.2 i (by omega)]
    have a2 : eg_aI h 100 71 (nI (lwT w (sP σ) i)) = some (nI (w (lwT w (sP σ) i))) := by rw [aI_71 hs (nI_pos (by omega)) (by rw [hcl2]; omega), hcl2, K.1.1 _ hl.1]
    have eh : fX13_has h (nI left) (nI i) = some (if left.testBit i = true then 1 else 0, h) := by
      unfold fX13_has
      by_cases c : left.testBit i = true
      · rw [if_pos (bt.mpr c), if_pos c]
      · rw [if_neg (fun z => c (bt.mp z)), if_neg c]
    have e3 : eg_aI h 100 59 3 = some (nI (sU σ 3)) := R_mea O (x := 3) (by omega)
    have e2 : eg_aI h 100 59 2 = some (nI (sU σ 2)) := R_mea O (x := 2) (by omega)
    rw [fX13_fete_L83, gI_54 hs, Option.bind_some, K.1.2, if_neg (nI_ge (by omega) (by omega)), eh, Option.bind_some]
    dsimp only
    rw [g01, nI_1 i]
    unfold thF
    by_cases c : left.testBit i = true
    · obtain ⟨f1, f2, f3, f4⟩ := ft_1 i (by omega) left hl8 s.1 h8 c hsub
      obtain ⟨h1, q1, E1, l1⟩ := M_well R hx hl.1 hwl hm (k := r + 1) (y := sU σ 3 + r * sU σ 2) (by omega) hy
      have R1 := ROk_scr R (SBf_x E1)
      have K1 := MPr_eq K E1 ⟨rfl, fun _ => ⟨rfl, rfl⟩⟩
      have q1' : fX13_isThrownWell h 54 (nI (10 * lwT w (sP σ) i + w (lwT w (sP σ) i))) (nI (i % sE σ)) (nI (r + 1)) (nI (sU σ 3 + r * sU σ 2)) = some (if ctF σ w (r + 1) (sU σ 3 + r * sU σ 2) i s.2 = true then 1 else 0, h1) := q1
      rw [if_pos c, if_pos c, gR_54 hs, rf_54_53 hs, Option.bind_some, a1, Option.bind_some, gR_54 hs, rf_54_43 hs, Option.bind_some, Option.bind_some, a1, Option.bind_some, a2, Option.bind_some, gI_54 hs, Option.bind_some, R.2.2.2.1.2.2.2.2, if_neg (nI_ne0 (by omega) (by omega)), gR_54 hs, rf_54_18 hs, Option.bind_some, e3, Option.bind_some, Option.bind_some, e2, Option.bind_some, k10, n_md (by omega) (by omega), nI_1, n_ml, nI_add, q1', Option.bind_some]
      dsimp only
      rw [g01]
      by_cases c2 : ctF σ w (r + 1) (sU σ 3 + r * sU σ 2) i s.2 = true
      · rw [if_pos c2, if_pos c2, ← f3]
        obtain ⟨h2, z1, z2, z3, z4, z5⟩ := ih (i + 1) h1 (s.1 ||| 2 ^ i, nx s.2) F (by omega) (by omega) h3o f4 R1.1 K1 l1
        exact ⟨h2, z1, z2, ROk_tr R1 z3, z4, z5⟩
      · rw [if_neg c2, if_neg c2, one_shl i (by omega), nI_or, f1, Option.bind_some]
        obtain ⟨h2, z1, z2, z3, z4, z5⟩ := ih (i + 1) h1 (s.1, nx s.2) F (by omega) (by omega) (Nat.lt_of_lt_of_le hs1 h2i) f2 R1.1 K1 l1
        exact ⟨h2, z1, z2, ROk_tr R1 z3, z4, z5⟩
    · have f5 := ft_2 i (by omega) left hl8 c
      rw [if_neg c, if_neg c, ← f5]
      exact ih (i + 1) h s F (by omega) (by omega) (Nat.lt_of_lt_of_le hs1 h2i) (by rw [f5]; exact hsub) R K hx
def gnI (left last r : Nat) : Nat := if r = 0 then 0 else last - left
theorem M_fete_L {w : Nat → Nat} {wh : Int32} (hw : ∀ i, i < sP σ → w i < sP σ) (hc3 : cnW w (sP σ) ≤ 3) (hPp : 0 < sP σ) : ∀ j left last r h x F, r + j = 60 → j < F → left < 2 ^ cnW w (sP σ) → last < 2 ^ cnW w (sP σ) → RI h σ → MPr h (sP σ) w → eg_L h 54 55 = x → (r = 0 → ¬ left = 0) → ∃ h', fX13_fete_L47 F h 54 wh (nI left) (nI (gnI left last r)) (nI r) = some (54, wh, nI (ftF σ w (cnW w (sP σ)) j left last r x).1, nI (gnI (ftF σ w (cnW w (sP σ)) j left last r x).1 (ftF σ w (cnW w (sP σ)) j left last r x).2.1 (ftF σ w (cnW w (sP σ)) j left last r x).2.2), nI (ftF σ w (cnW w (sP σ)) j left last r x).2.2, h') ∧ ROk h h' σ ∧ MPr h' (sP σ) w ∧ ((ftF σ w (cnW w (sP σ)) j left last r x).2.2 = 0 → ¬ (ftF σ w (cnW w (sP σ)) j left last r x).1 = 0) := by
  have p8 : 2 ^ cnW w (sP σ) ≤ 8 := Nat.le_trans (Nat.pow_le_pow_right (by omega) hc3) (by decide)
  intro j
  induction j with
  | zero =>
    intro left last r h x F hr hF hl1 hl2 R K hx hz
    obtain ⟨F, rfl⟩ : ∃ F', F = F' + 1 := ⟨F - 1, by omega⟩
    have hs := R.1
    have O := RI_RO R hPp
    have hU := O.2.1
    obtain rfl : r = 60 := by omega
    have h2 := hU.1.2.2.2.2.1
    have h2' := hU.1.2.2.2.2.2.1
    have h3 := hU.1.2.2.2.2.2.2
    have e3 : eg_aI h 100 59 3 = some (nI (sU σ 3)) := R_mea O (x := 3) (by omega)
    have e2 : eg_aI h 100 59 2 = some (nI (sU σ 2)) := R_mea O (x := 2) (by omega)
    refine ⟨h, ?_, ⟨R, rfl, fun _ _ _ => ⟨rfl, rfl, rfl⟩⟩, K, hz⟩
    rw [fX13_fete_L47, X_bc h (by omega), Option.bind_some]
    dsimp only
    by_cases c1 : nI (pc left) ≤ 1
    · rw [if_pos c1]; rfl
    · rw [if_neg c1, gR_54 hs, rf_54_18 hs, Option.bind_some, e3, Option.bind_some, Option.bind_some, e2, Option.bind_some, n_ml, nI_add, if_pos (show (60 : Int32) < nI (sU σ 3 + 60 * sU σ 2) from nI_lt (a := 60) (by omega) (by omega))]
      rfl
  | succ j ih =>
    intro left last r h x F hr hF hl1 hl2 R K hx hz
    obtain ⟨F, rfl⟩ : ∃ F', F = F' + 1 := ⟨F - 1, by omega⟩
    have hs := R.1
    have O := RI_RO R hPp
    have hU := O.2.1
    have hm : r * sU σ 2 ≤ 60 * 9 := Nat.mul_le_mul (by omega) hU.1.2.2.2.2.2.1
    have h3 := hU.1.2.2.2.2.2.2.2
    have hpc : pc left ≤ 11 := sm_le (fun i _ => by split <;> omega)
    have e3 : eg_aI h 100 59 3 = some (nI (sU σ 3)) := R_mea O (x := 3) (by omega)
    have e2 : eg_aI h 100 59 2 = some (nI (sU σ 2)) := R_mea O (x := 2) (by omega)
    rw [fX13_fete_L47, X_bc h (by omega), Option.bind_some]
    dsimp only
    unfold ftF
    by_cases c1 : pc left ≤ 1
    · rw [if_pos (show nI (pc left) ≤ (1 : Int32) from nI_le (b := 1) c1 (by omega)), if_pos (Or.inl c1)]
      exact ⟨h, rfl, ⟨R, rfl, fun _ _ _ => ⟨rfl, rfl, rfl⟩⟩, K, hz⟩
    rw [if_neg (show ¬ nI (pc left) ≤ (1 : Int32) from nI_ge (a := 1) (by omega) (by omega)), gR_54 hs, rf_54_18 hs, Option.bind_some, e3, Option.bind_some, Option.bind_some, e2, Option.bind_some, n_ml, nI_add]
    by_cases c2 : 60 < sU σ 3 + r * sU σ 2
    · rw [if_pos (show (60 : Int32) < nI (sU σ 3 + r * sU σ 2) from nI_lt (a := 60) c2 (by omega)), if_pos (Or.inr c2)]
      exact ⟨h, rfl, ⟨R, rfl, fun _ _ _ => ⟨rfl, rfl, rfl⟩⟩, K, hz⟩
    rw [if_neg (show ¬ (60 : Int32) < nI (sU σ 3 + r * sU σ 2) from nI_nlt (a := 60) (by omega) (by omega)), if_neg (fun z => z.elim c1 c2)]
    obtain ⟨h1, q1, q2, O1, K1, l1⟩ := M_f83 (wh := wh) (left := left) (r := r) hw hc3 hPp (by omega) hl1 (by omega) (by omega) (cnW w (sP σ)) 0 h (0, x) eg_F (by omega) (by rw [eg_F_eq]; omega) (by show 0 < 2 ^ 0; decide) (Nat.zero_and _) R K hx
    have q0 : left % 2 ^ 0 - 0 = 0 := by rw [Nat.pow_zero, Nat.mod_one]
    rw [show ((0, x) : Nat × Int64).1 = 0 from rfl, q0] at q1
    have q1' : fX13_fete_L83 eg_F h 54 wh (nI left) 0 (nI r) 0 = _ := q1
    have hlt := th_lt (c := ctF σ w (r + 1) (sU σ 3 + r * sU σ 2)) (left := left) (cnW w (sP σ)) 0 (0, x) (by omega) (by show 0 < 2 ^ 0; decide)
    rw [Nat.zero_add] at hlt
    obtain ⟨h2, z1, O2, K2, z4⟩ := ih (thF (ctF σ w (r + 1) (sU σ 3 + r * sU σ 2)) left (cnW w (sP σ)) 0 (0, x)).1 left (r + 1) h1 (thF (ctF σ w (r + 1) (sU σ 3 + r * sU σ 2)) left (cnW w (sP σ)) 0 (0, x)).2 F (by omega) (by omega) hlt hl1 O1.1 K1 l1 (fun z => by omega)
    refine ⟨h2, ?_, ROk_tr O1 O2, K2, z4⟩
    have eg : gnI (thF (ctF σ w (r + 1) (sU σ 3 + r * sU σ 2)) left (cnW w (sP σ)) 0 (0, x)).1 left (r + 1) = left - (thF (ctF σ w (r + 1) (sU σ 3 + r * sU σ 2)) left (cnW w (sP σ)) 0 (0, x)).1 := if_neg (by omega)
    rw [eg] at z1
    rw [q1', Option.bind_some]
    dsimp only
    rw [ft_3 left (by omega) _ (by omega) q2, Option.bind_some, nI_1]
    exact z1
theorem M_li_L {w : Nat → Nat} {wh : Int32} {left gone r : Nat} (hP : sP σ ≤ 6) (hc3 : cnW w (sP σ) ≤ 3) (hs : eg_stt h) (K : MPr h (sP σ) w) (hl : left < 8) (hg : gone < 8) : ∀ j i F, i + j = cnW w (sP σ) → j < F → fX13_fete_L195 F h 54 wh (nI left) (nI gone) (nI r) (nI (lbF w (sP σ) (if left = 0 then gone else left) i)) (nI i) = some (wh, nI r, nI (lbF w (sP σ) (if left = 0 then gone else left) (cnW w (sP σ))), h) := by
  intro j
  induction j with
  | zero =>
    intro i F hi hF
    obtain ⟨F, rfl⟩ : ∃ F', F = F' + 1 := ⟨F - 1, by omega⟩
    obtain rfl : i = cnW w (sP σ) := by omega
    rw [fX13_fete_L195, gI_54 hs, Option.bind_some, K.1.2, if_pos (nI_le (Nat.le_refl _) (by omega))]
  | succ j ih =>
    intro i F hi hF
    obtain ⟨F, rfl⟩ : ∃ F', F = F' + 1 := ⟨F - 1, by omega⟩
    have e3 := ih (i + 1) F (by omega) (by omega)
    have hl2 := lw_in (w := w) (sP σ) i (by omega)
    have hcl : (nI i).toNatClampNeg = i := nI_clamp (by omega)
    have a1 : eg_aI h 100 78 (nI i) = some (nI (lwT w (sP σ) i)) := by rw [aI_78 hs (nI_pos (by omega)) (by rw [hcl]; omega), hcl, K.2 i (by omega)]
    have hj : ∀ m, m < 8 → m = (if left = 0 then gone else left) → fX13_fete_j216 (fX13_fete_L195 F) h 54 wh (nI left) (nI gone) (nI r) (nI (lbF w (sP σ) (if left = 0 then gone else left) i)) (nI i) (nI m) = some (wh, nI r, nI (lbF w (sP σ) (if left = 0 then gone else left) (cnW w (sP σ))), h) := by
      intro m hm8 hm
      have bt := bt_1 (m := m) (s := i) (by omega) (by omega)
      rw [lbF] at e3
      unfold fX13_fete_j216 fX13_has
      rw [← hm] at e3 ⊢
      by_cases c : m.testBit i = true
      · rw [if_pos c] at e3
        rw [if_pos (bt.mpr c), Option.bind_some]
        dsimp only
        rw [if_neg (show ¬ (1 : Int32) = 0 by decide), gR_54 hs, rf_54_53 hs, Option.bind_some, a1, Option.bind_some, one_shl _ (by omega), nI_or, Option.bind_some, nI_1]
        exact e3
      · rw [if_neg c, Nat.or_zero] at e3
        rw [if_neg (fun z => c (bt.mp z)), Option.bind_some]
        dsimp only
        rw [if_pos rfl, nI_1]
        exact e3
    rw [fX13_fete_L195, gI_54 hs, Option.bind_some, K.1.2, if_neg (nI_ge (by omega) (by omega))]
    by_cases c0 : left = 0
    · rw [if_pos (show nI left = 0 by rw [c0]; rfl)]
      exact hj gone hg (by rw [if_pos c0])
    · rw [if_neg (nI_ne0 (by omega) (by omega))]
      exact hj left hl (by rw [if_neg c0])
theorem M_fete (R : RI h σ) (x : Int32) (sd : Int64) (wh : Int32) : ∃ h', fX13_fete h 54 x sd wh = some (aFete σ x sd wh, h') ∧ ROk h h' σ := by
  obtain ⟨R0, Q0⟩ := R_0 R
  have hs := R.1
  have s0 := R0.1
  have hP := RI_P R
  obtain ⟨h1, e1, E1, K1⟩ := M_layPairs R0 x
  have O1 := ROk_scr R0 (Slp_x E1)
  have s1 := O1.1.1
  have O01 := ROk_tr (ROk_scr R Q0) O1
  unfold fX13_fete aFete
  rw [if_pos (iO_54 hs), pI_54 hs, Option.bind_some, e1, Option.bind_some]
  dsimp only
  rw [g01]
  by_cases c1 : gPr (sP σ) x
  rotate_left
  · rw [if_neg c1, if_neg (fun g => c1 g.1)]; exact ⟨h1, rfl, O01⟩
  rw [if_pos c1, M_GI (lo := 0) (hi := 1) _ wh (by omega) (by omega) 0 1 rfl rfl, Option.bind_some]
  dsimp only
  rw [g01]
  by_cases c2 : GI (nI 0) (nI 1) wh
  rotate_left
  · rw [if_neg c2, if_neg (fun g => c2 g.2)]; exact ⟨h1, rfl, O01⟩
  rw [if_pos c2, if_pos (show gPr (sP σ) x ∧ GI (nI 0) (nI 1) wh from ⟨c1, c2⟩)]
  have hPp := c1.1.1
  have hw : ∀ i, i < sP σ → wd (dN x) (sP σ) i < sP σ := fun i hi => wd_lt c1.1.2 hi
  have K : MPr h1 (sP σ) (wd (dN x) (sP σ)) := K1 c1
  have hc0 := cn_pos hPp c1.2
  have hc3 := cn_3 hP.1 hw c1.2
  have E2 : eg_eq [(54, some 55)] h1 (eg_sL h1 54 55 sd) := eq_sL eq_rfl rfl
  have O2 := ROk_scr O1.1 (cov_sub (S := [(54, some 55)]) (by decide) E2)
  have s2 := O2.1.1
  have K2 := MPr_eq K E2 ⟨rfl, fun _ => ⟨rfl, rfl⟩⟩
  have p8 : 2 ^ cnW (wd (dN x) (sP σ)) (sP σ) ≤ 8 := Nat.le_trans (Nat.pow_le_pow_right (by omega) hc3) (by decide)
  have p1 : 2 ^ 1 ≤ 2 ^ cnW (wd (dN x) (sP σ)) (sP σ) := Nat.pow_le_pow_right (by omega) hc0
  obtain ⟨h3, e3, O3, K3, nz⟩ := M_fete_L (wh := wh) hw hc3 hPp 60 (2 ^ cnW (wd (dN x) (sP σ)) (sP σ) - 1) (2 ^ cnW (wd (dN x) (sP σ)) (sP σ) - 1) 0 (eg_sL h1 54 55 sd) sd eg_F (by omega) (by rw [eg_F_eq]; omega) (by omega) (by omega) O2.1 K2 (by rw [L_sL, if_pos ⟨rfl, rfl⟩]) (fun _ => by omega)
  have e3' : fX13_fete_L47 eg_F (eg_sL h1 54 55 sd) 54 wh (nI (2 ^ cnW (wd (dN x) (sP σ)) (sP σ) - 1)) 0 0 = some (54, wh, nI (feR σ x sd).1, nI (gnI (feR σ x sd).1 (feR σ x sd).2.1 (feR σ x sd).2.2), nI (feR σ x sd).2.2, h3) := e3
  have hft := ft_lt (σ := σ) (w := wd (dN x) (sP σ)) hc3 60 (2 ^ cnW (wd (dN x) (sP σ)) (sP σ) - 1) (2 ^ cnW (wd (dN x) (sP σ)) (sP σ) - 1) 0 sd (by omega) (by omega)
  have hf1 : (feR σ x sd).1 < 2 ^ cnW (wd (dN x) (sP σ)) (sP σ) := hft.1
  have hf2 : (feR σ x sd).2.1 < 2 ^ cnW (wd (dN x) (sP σ)) (sP σ) := hft.2.1
  have nz' : (feR σ x sd).2.2 = 0 → ¬ (feR σ x sd).1 = 0 := nz
  have hgn : gnI (feR σ x sd).1 (feR σ x sd).2.1 (feR σ x sd).2.2 < 8 := by unfold gnI; split <;> omega
  have esel : (if (feR σ x sd).1 = 0 then gnI (feR σ x sd).1 (feR σ x sd).2.1 (feR σ x sd).2.2 else (feR σ x sd).1) = (if (feR σ x sd).1 = 0 then (feR σ x sd).2.1 else (feR σ x sd).1) := by
    by_cases c : (feR σ x sd).1 = 0
    · rw [if_pos c, if_pos c]
      unfold gnI
      rw [if_neg (fun z => nz' z c), c, Nat.sub_zero]
    · rw [if_neg c, if_neg c]
  have e4 := M_li_L (wh := wh) (left := (feR σ x sd).1) (gone := gnI (feR σ x sd).1 (feR σ x sd).2.1 (feR σ x sd).2.2) (r := (feR σ x sd).2.2) hP.1 hc3 O3.1.1 K3 (by omega) hgn (cnW (wd (dN x) (sP σ)) (sP σ)) 0 eg_F (by omega) (by rw [eg_F_eq]; omega)
  rw [esel] at e4
  have e4' : fX13_fete_L195 eg_F h3 54 wh (nI (feR σ x sd).1) (nI (gnI (feR σ x sd).1 (feR σ x sd).2.1 (feR σ x sd).2.2)) (nI (feR σ x sd).2.2) 0 0 = _ := e4
  have c54 : eg_I (eg_sL h1 54 55 sd) 54 54 = nI (cnW (wd (dN x) (sP σ)) (sP σ)) := K2.1.2
  refine ⟨h3, ?_, ROk_tr O01 (ROk_tr O2 O3)⟩
  rw [pL_54 s1, Option.bind_some]
  show ((eg_gI (eg_sL h1 54 55 sd) 13 54 54).bind _) = _
  rw [gI_54 s2, Option.bind_some, c54, sh_c _ hc3, Option.bind_some]
  show ((fX13_fete_L47 eg_F (eg_sL h1 54 55 sd) 54 wh (nI (2 ^ cnW (wd (dN x) (sP σ)) (sP σ) - 1)) 0 0).bind _) = _
  rw [e3', Option.bind_some]
  dsimp only
  unfold fX13_fete_j189
  rw [e4', Option.bind_some]
  dsimp only
  by_cases w0 : wh = 0
  · rw [if_pos w0, if_pos w0]
  · rw [if_neg w0, if_neg w0]
end FM2
