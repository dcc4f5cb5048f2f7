theorem X_bc (h : eg_H) {m : Nat} (hm : m < 2048) : fJ6_bitCount_0f7a4 h (nI m) = some (nI (pc m), h) := by
  rw [← bc_all m hm]
  rfl
section XS
variable {T : eg_TT} {q : Option Nat} {lw : eg_LW} {y : Nat}
theorem X_wholes_L {b : Nat} (hy : y ≤ 60) (hb : b ≤ 9) (hR : tR T ≤ 5) : ∀ j i h F, i + j = 6 + tR T → 5 - tR T ≤ i → j < F → XO h T q lw → ∃ h', fX11_wholes_L9 F h 36 (nI y) (nI b) (nI (mkF (fun i => hT lw T y b ((i : Int) - 5)) i)) (iI ((i : Int) - 5)) = some (nI (mkF (fun i => hT lw T y b ((i : Int) - 5)) (6 + tR T)), h') ∧ eg_eq (Sq q) h h' := by
  intro j
  induction j with
  | zero =>
    intro i h F hi hi2 hF O
    obtain ⟨F, rfl⟩ : ∃ F', F = F' + 1 := ⟨F - 1, by omega⟩
    obtain ⟨o1, o2, o3, ⟨t1, t2, t3, t4, t5, t6⟩, o5⟩ := O
    refine ⟨h, ?_, eq_rfl⟩
    obtain rfl : i = 6 + tR T := by omega
    rw [fX11_wholes_L9, gI_36 o1, Option.bind_some, t4, ← iI_n, if_pos ((iI_lt (by unfold i3; omega) (by unfold i3; omega)).mpr (by omega))]
  | succ j ih =>
    intro i h F hi hi2 hF O
    obtain ⟨F, rfl⟩ : ∃ F', F = F' + 1 := ⟨F - 1, by omega⟩
    have O0 := O
    obtain ⟨o1, o2, o3, ⟨t1, t2, t3, t4, t5, t6⟩, o5⟩ := O
    obtain ⟨h1, e1, E1⟩ := X_force o1 t3 t5 o2 o5 hy hb (off := (i : Int) - 5) (by omega)
    have O1 := XO_eq O0 E1
    obtain ⟨h2, e2, E2⟩ := ih (i + 1) h1 F (by omega) (by omega) (by omega) O1
    refine ⟨h2, ?_, eq_tr E1 E2⟩
    have hnx : iI ((i : Int) - 5) + 1 = iI (((i + 1 : Nat) : Int) - 5) := by
      rw [show (1 : Int32) = iI 1 from rfl, iI_add]
      congr 1
      omega
    have hL : eg_I h1 36 8 = nI (tL T) := O1.2.2.2.1.2.2.2.2.2
    have hf9 := cf_le (fz lw (tA T) (tW T) y b ((i : Int) - 5))
    have hl9 := o2.2.2.2.2.2.2
    rw [fX11_wholes_L9, gI_36 o1, Option.bind_some, t4, ← iI_n, if_neg (fun w => by have := (iI_lt (by unfold i3; omega) (by unfold i3; omega)).mp w; omega), gQ_36 o1, Option.bind_some, o3, e1, Option.bind_some]
    show ((eg_gI h1 11 8 36).bind _) = _
    rw [gI_36 O1.1, Option.bind_some, hL, hnx]
    by_cases c : frc lw (tA T) (tW T) y b ((i : Int) - 5) ≤ tL T
    · have ht : hT lw T y b ((i : Int) - 5) = true := by
        unfold hT
        rw [decide_eq_true_eq]
        exact ⟨by omega, by omega, c⟩
      have em : nI (mkF (fun i => hT lw T y b ((i : Int) - 5)) i) ||| ((1 : Int32) <<< ((iI ((i : Int) - 5) + 5) &&& 31)) = nI (mkF (fun i => hT lw T y b ((i : Int) - 5)) (i + 1)) := by
        rw [show iI ((i : Int) - 5) + 5 = nI i by rw [show (5 : Int32) = iI 5 from rfl, iI_add, ← iI_n]; congr 1; omega, one_shl i (by omega), nI_or]
        congr 1
        show _ = mkF _ i ||| _
        rw [if_pos ht]
      rw [if_neg (nI_nlt c (by omega)), Option.bind_some, em]
      exact e2
    · have ht : ¬ hT lw T y b ((i : Int) - 5) = true := by
        unfold hT
        rw [decide_eq_true_eq]
        intro z
        exact c z.2.2
      have em : mkF (fun i => hT lw T y b ((i : Int) - 5)) (i + 1) = mkF (fun i => hT lw T y b ((i : Int) - 5)) i := by
        show mkF _ i ||| _ = _
        rw [if_neg ht, Nat.or_zero]
      rw [if_pos (nI_lt (by omega) (by unfold frc; omega)), ← em]
      exact e2
theorem X_wholes {h : eg_H} {b : Nat} (O : XO h T q lw) (hy : y ≤ 60) (hb : b ≤ 9) : ∃ h', fX11_wholes h 36 (nI y) (nI b) = some (nI (hM lw T y b), h') ∧ eg_eq (Sq q) h h' := by
  have hR := O.2.1.2.2.2.1
  have hf : ∀ i : Nat, (i < 5 - tR T ∨ 5 + tR T < i) → ¬ hT lw T y b ((i : Int) - 5) = true := fun i hi => hT_out lw T y b (by omega)
  obtain ⟨h', e, E⟩ := X_wholes_L hy hb hR (2 * tR T + 1) (5 - tR T) h eg_F (by omega) (Nat.le_refl _) (by rw [eg_F_eq]; omega) O
  rw [mkF_0 (5 - tR T) (fun i hi => hf i (Or.inl hi))] at e
  have e11 : mkF (fun i => hT lw T y b ((i : Int) - 5)) (6 + tR T) = hM lw T y b := by
    have := mkF_stay (f := fun i => hT lw T y b ((i : Int) - 5)) (j := 6 + tR T) (5 - tR T) (fun i h1 h2 => hf i (Or.inr (by omega)))
    rw [← this, show 6 + tR T + (5 - tR T) = 11 by omega]
    rfl
  rw [e11] at e
  refine ⟨h', ?_, E⟩
  unfold fX11_wholes
  rw [if_pos (iO_36 O.1), gI_36 O.1, Option.bind_some, Option.bind_some, O.2.2.2.1.2.2.2.1, ← iI_n (tR T), iI_neg, show -(tR T : Int) = ((5 - tR T : Nat) : Int) - 5 by omega]
  have e' : fX11_wholes_L9 eg_F h 36 (nI y) (nI b) 0 (iI (((5 - tR T : Nat) : Int) - 5)) = some (nI (hM lw T y b), h') := e
  rw [e', Option.bind_some]
theorem hM_lt (b : Nat) : hM lw T y b < 2048 := mkF_lt _ 11
theorem wb_b {w : Int} {b : Nat} (hw : -9 ≤ w ∧ w ≤ 9) (hb : b ≤ 9) : -81 ≤ w * b ∧ w * b ≤ 81 := by
  have h1 : (w * (b : Int)).natAbs ≤ 9 * 9 := by
    rw [Int.natAbs_mul]
    exact Nat.mul_le_mul (by omega) (by omega)
  omega
theorem lo_eq {b : Nat} {aim : Int} (k : Tok T) (hb : b ≤ 9) : iI aim + iI (tW T) * nI b / 4 = iI (aim + (tW T * b).tdiv 4) := by
  have hwb := wb_b (w := tW T) ⟨k.2.2.2.2.1, k.2.2.2.2.2.1⟩ hb
  have ht := td_b (a := tW T * b) (b := 4) (M := 81) hwb
  rw [← iI_n, iI_mul, show (4 : Int32) = iI 4 from rfl, iI_div (by unfold i3; omega) (by unfold i3; omega) (by unfold i3; omega), iI_add]
theorem X_goodOf {h : eg_H} {b : Nat} {aim : Int} (O : XO h T q lw) (hb : b ≤ 9) (ha : -5 ≤ aim ∧ aim ≤ 5) : fX11_goodOf h 36 (nI (hM lw T y b)) (nI b) (iI aim) = some (nI (gd lw T y b aim), h) := by
  obtain ⟨o1, o2, o3, ⟨t1, t2, t3, t4, t5, t6⟩, o5⟩ := O
  have hS := o2.1
  have hR := o2.2.2.2.1
  have hwb := wb_b (w := tW T) ⟨o2.2.2.2.2.1, o2.2.2.2.2.2.1⟩ hb
  have ht := td_b (a := tW T * b) (b := 4) (M := 81) hwb
  have hlo : lo T b aim = aim + (tW T * b).tdiv 4 - tS T := rfl
  have hm := hM_lt (lw := lw) (T := T) (y := y) b
  have e5 : iI aim + iI (tW T) * nI b / 4 - nI (tS T) + 5 = iI (lo T b aim + 5) := by
    rw [lo_eq o2 hb, ← iI_n, show (5 : Int32) = iI 5 from rfl, iI_sub, iI_add]
    rfl
  have e9 : iI (lo T b aim + 5) + 2 * nI (tS T) = iI (lo T b aim + 5 + 2 * tS T) := by
    rw [← iI_n, show (2 : Int32) = iI 2 from rfl, iI_mul, iI_add]
  unfold fX11_goodOf
  rw [if_pos (iO_36 o1), gI_36 o1, Option.bind_some, gI_36 o1, Option.bind_some, Option.bind_some, Option.bind_some, t5, t1, e5, Option.bind_some, e9]
  by_cases c1 : lo T b aim + 5 + 2 * tS T < 0
  · obtain ⟨j, hj⟩ := Int.eq_ofNat_of_zero_le (show 0 ≤ -(lo T b aim + 5) by omega)
    rw [if_pos (show iI _ < (0 : Int32) from (iI_lt (b := 0) (by unfold i3; omega) (by unfold i3; omega)).mpr c1), gd_neg lw T y b hR (j := j) (by omega), show 2 * tS T + 1 - j = 0 by omega]
    rfl
  · rw [if_neg (fun w : iI _ < (0 : Int32) => c1 ((iI_lt (b := 0) (by unfold i3; omega) (by unfold i3; omega)).mp w))]
    by_cases c2 : lo T b aim + 5 ≤ 10
    · rw [if_pos (show iI _ ≤ (10 : Int32) from (iI_le (b := 10) (by unfold i3; omega) (by unfold i3; omega)).mpr c2), Option.bind_some, Option.bind_some, win_n _ hS]
      have hw2 : 2 ^ (2 * tS T + 1) ≤ 2 ^ 11 := Nat.pow_le_pow_right (by omega) (by omega)
      by_cases c3 : 0 ≤ lo T b aim + 5
      · obtain ⟨j, hj⟩ := Int.eq_ofNat_of_zero_le c3
        rw [if_pos (show (0 : Int32) ≤ iI _ from (iI_le (a := 0) (by unfold i3; omega) (by unfold i3; omega)).mpr c3), hj, show iI (j : Int) = nI j from iI_n j, nI_shr (by omega) (by omega), nI_and, X_bc h (Nat.lt_of_le_of_lt Nat.and_le_left (by rw [Nat.shiftRight_eq_div_pow]; exact Nat.lt_of_le_of_lt (Nat.div_le_self _ _) hm)), Option.bind_some, pc_shr lw T hR y b j hS, gd_pos lw T y b hj]
      · obtain ⟨j, hj⟩ := Int.eq_ofNat_of_zero_le (show 0 ≤ -(lo T b aim + 5) by omega)
        rw [if_neg (fun w : (0 : Int32) ≤ iI _ => c3 ((iI_le (a := 0) (by unfold i3; omega) (by unfold i3; omega)).mp w)), iI_neg, hj, show iI (j : Int) = nI j from iI_n j, nI_shr (by omega) (by omega), nI_and, X_bc h (Nat.lt_of_le_of_lt Nat.and_le_left hm), Option.bind_some, pc_and lw T hR y b j hS, gd_neg lw T y b hR (j := j) (by omega)]
    · rw [if_neg (fun w : iI _ ≤ (10 : Int32) => c2 ((iI_le (b := 10) (by unfold i3; omega) (by unfold i3; omega)).mp w))]
      obtain ⟨j, hj⟩ := Int.eq_ofNat_of_zero_le (show 0 ≤ lo T b aim + 5 by omega)
      rw [gd_pos lw T y b hj, sm_0 (fun k hk => hI_out lw T y b hR (Or.inr (by omega)))]
      rfl
def pk (k g : Nat) : Nat := k / 11 * 10000 + (k % 11 + 1) * 100 + g
theorem X_packed (h : eg_H) {b i g : Nat} (hi : i < 11) : fX11_packed h (nI b) (iI ((i : Int) - 5)) (nI g) = some (nI (pk (11 * b + i) g), h) := by
  unfold fX11_packed pk
  rw [← iI_n, ← iI_n, ← iI_n, show (10000 : Int32) = iI 10000 from rfl, show (5 : Int32) = iI 5 from rfl, show (1 : Int32) = iI 1 from rfl, show (100 : Int32) = iI 100 from rfl, iI_mul, iI_add, iI_add, iI_mul, iI_add, iI_add]
  congr 2
  congr 1
  have h1 : (11 * b + i) / 11 = b := by omega
  have h2 : (11 * b + i) % 11 = i := by omega
  rw [h1, h2]
  omega
theorem gk_at (b i : Nat) (hi : i < 11) : gk lw T y (11 * b + i) = gd lw T y b ((i : Int) - 5) := by
  unfold gk
  rw [show (11 * b + i) / 11 = b by omega, show (11 * b + i) % 11 = i by omega]
def eM (T : eg_TT) : Nat := if tR T ≤ tS T then 2 * tR T + 1 else 2 * tS T + 1
theorem gk_e (hR : tR T ≤ 5) (k : Nat) : gk lw T y k ≤ eM T := by
  unfold gk eM
  split
  · exact gd_run lw T y _ hR _
  · exact gd_le lw T y _ _
theorem eM_le (h : Tok T) : eM T ≤ 11 := by
  have := h.1
  have := h.2.2.2.1
  unfold eM
  split <;> omega
theorem X_seek_in {h : eg_H} {b : Nat} (O : XO h T q lw) (hb : b ≤ 9) : ∀ j i F, i + j = 11 → j < F → fX11_seek_L85 F h 36 (nI y) (nI (ms (gk lw T y) (11 * b + i))) (nI (pk (bi (gk lw T y) (11 * b + i)) (ms (gk lw T y) (11 * b + i)))) (nI (eM T)) (nI b) (nI (hM lw T y b)) (iI ((i : Int) - 5)) = some (36, nI y, nI (ms (gk lw T y) (11 * b + 11)), nI (pk (bi (gk lw T y) (11 * b + 11)) (ms (gk lw T y) (11 * b + 11))), nI (eM T), nI b, h) := by
  have hR := O.2.1.2.2.2.1
  have he := eM_le O.2.1
  intro j
  induction j with
  | zero =>
    intro i F hi hF
    obtain ⟨F, rfl⟩ : ∃ F', F = F' + 1 := ⟨F - 1, by omega⟩
    obtain rfl : i = 11 := by omega
    rw [fX11_seek_L85, if_pos (show (5 : Int32) < iI _ from (iI_lt (a := 5) (by unfold i3; omega) (by unfold i3; omega)).mpr (by omega))]
  | succ j ih =>
    intro i F hi hF
    obtain ⟨F, rfl⟩ : ∃ F', F = F' + 1 := ⟨F - 1, by omega⟩
    have hm11 : ms (gk lw T y) (11 * b + i) ≤ 11 := Nat.le_trans (ms_bd _ (gk_e hR) _) he
    have hg11 : gk lw T y (11 * b + i) ≤ 11 := Nat.le_trans (gk_e hR _) he
    rw [fX11_seek_L85, if_neg (fun w : (5 : Int32) < iI _ => by have := (iI_lt (a := 5) (by unfold i3; omega) (by unfold i3; omega)).mp w; omega)]
    by_cases c : eM T ≤ ms (gk lw T y) (11 * b + i)
    · obtain ⟨z1, z2⟩ := ms_stay (gk lw T y) (j := 11 * b + i) (11 - i) (fun k _ _ => Nat.le_trans (gk_e hR k) c)
      rw [show 11 * b + i + (11 - i) = 11 * b + 11 by omega] at z1 z2
      rw [if_pos (nI_le c (by omega)), z1, z2]
    · have hnx : iI ((i : Int) - 5) + 1 = iI (((i + 1 : Nat) : Int) - 5) := by
        rw [show (1 : Int32) = iI 1 from rfl, iI_add]
        congr 1
        omega
      have hz := ih (i + 1) F (by omega) (by omega)
      rw [show 11 * b + (i + 1) = 11 * b + i + 1 by omega, ms_s, bi_s] at hz
      rw [if_neg (nI_ge (by omega) (by omega)), X_goodOf O hb (by omega), Option.bind_some]
      show (if nI (gd lw T y b ((i : Int) - 5)) ≤ _ then _ else _) = _
      rw [← gk_at b i (by omega), hnx]
      by_cases c2 : ms (gk lw T y) (11 * b + i) < gk lw T y (11 * b + i)
      · rw [if_pos c2, if_pos c2] at hz
        rw [if_neg (nI_ge c2 (by omega)), X_packed h (by omega), Option.bind_some]
        exact hz
      · rw [if_neg c2, if_neg c2] at hz
        rw [if_pos (nI_le (by omega) (by omega))]
        exact hz
theorem X_seek_L (hy : y ≤ 60) : ∀ j b h F, b + j = tH T + 1 → j < F → XO h T q lw → ∃ h', fX11_seek_L45 F h 36 (nI y) (nI (ms (gk lw T y) (11 * b))) (nI (pk (bi (gk lw T y) (11 * b)) (ms (gk lw T y) (11 * b)))) (nI (eM T)) (nI b) = some (nI (pk (bi (gk lw T y) (tN T)) (ms (gk lw T y) (tN T))), h') ∧ eg_eq (Sq q) h h' := by
  intro j
  induction j with
  | zero =>
    intro b h F hi hF O
    obtain ⟨F, rfl⟩ : ∃ F', F = F' + 1 := ⟨F - 1, by omega⟩
    obtain rfl : b = tH T + 1 := by omega
    have hH := O.2.1.2.1
    refine ⟨h, ?_, eq_rfl⟩
    rw [fX11_seek_L45, gI_36 O.1, Option.bind_some, O.2.2.2.1.2.1, if_pos (nI_lt (by omega) (by omega))]
    rfl
  | succ j ih =>
    intro b h F hi hF O
    obtain ⟨F, rfl⟩ : ∃ F', F = F' + 1 := ⟨F - 1, by omega⟩
    have hH := O.2.1.2.1
    have hR := O.2.1.2.2.2.1
    have he := eM_le O.2.1
    have hm11 : ms (gk lw T y) (11 * b) ≤ 11 := Nat.le_trans (ms_bd _ (gk_e hR) _) he
    rw [fX11_seek_L45, gI_36 O.1, Option.bind_some, O.2.2.2.1.2.1, if_neg (nI_nlt (by omega) (by omega))]
    by_cases c : eM T ≤ ms (gk lw T y) (11 * b)
    · obtain ⟨z1, z2⟩ := ms_stay (gk lw T y) (j := 11 * b) (11 * (j + 1)) (fun k _ _ => Nat.le_trans (gk_e hR k) c)
      have ht : 11 * b + 11 * (j + 1) = tN T := by unfold tN; omega
      rw [ht] at z1 z2
      rw [if_pos (nI_le c (by omega)), z1, z2]
      exact ⟨h, rfl, eq_rfl⟩
    · obtain ⟨h1, e1, E1⟩ := X_wholes O hy (b := b) (by omega)
      have O1 := XO_eq O E1
      obtain ⟨h2, e2, E2⟩ := ih (b + 1) h1 F (by omega) (by omega) O1
      refine ⟨h2, ?_, eq_tr E1 E2⟩
      have hpc : pc (hM lw T y b) ≤ 11 := sm_le (fun i _ => by split <;> omega)
      rw [if_neg (nI_ge (by omega) (by omega)), e1, Option.bind_some]
      show ((fJ6_bitCount_0f7a4 h1 (nI (hM lw T y b))).bind _) = _
      rw [X_bc h1 (hM_lt b), Option.bind_some]
      show (if nI (ms (gk lw T y) (11 * b)) < nI (pc (hM lw T y b)) then _ else _) = _
      have h11 : 11 * (b + 1) = 11 * b + 11 := by omega
      by_cases c2 : ms (gk lw T y) (11 * b) < pc (hM lw T y b)
      · have hz := X_seek_in (y := y) (b := b) O1 (by omega) 11 0 eg_F (by omega) (by rw [eg_F_eq]; omega)
        have hz' : fX11_seek_L85 eg_F h1 36 (nI y) (nI (ms (gk lw T y) (11 * b))) (nI (pk (bi (gk lw T y) (11 * b)) (ms (gk lw T y) (11 * b)))) (nI (eM T)) (nI b) (nI (hM lw T y b)) (-5) = _ := hz
        rw [if_pos (nI_lt c2 (by omega)), hz', Option.bind_some]
        show fX11_seek_L45 F h1 36 (nI y) _ _ (nI (eM T)) (nI b + 1) = _
        rw [nI_1, ← h11]
        exact e2
      · obtain ⟨z1, z2⟩ := ms_stay (gk lw T y) (j := 11 * b) 11 (fun k k1 k2 => by
          have : gk lw T y k = gd lw T y b (((k - 11 * b : Nat) : Int) - 5) := by
            rw [← gk_at b (k - 11 * b) (by omega), show 11 * b + (k - 11 * b) = k by omega]
          rw [this]
          have := gd_pc lw T y b hR (((k - 11 * b : Nat) : Int) - 5)
          rw [← pc_hM lw T hR] at this
          omega)
        rw [h11, z1, z2] at e2
        rw [if_neg (nI_nlt (by omega) (by omega)), nI_1]
        exact e2
theorem X_seek {h : eg_H} (O : XO h T q lw) (hy : y ≤ 60) : ∃ h', fX11_seek h 36 (nI y) = some (nI (pk (bst lw T y) (bgd lw T y)), h') ∧ eg_eq (Sq q) h h' := by
  have hS := O.2.1.1
  have hR := O.2.1.2.2.2.1
  have hN : ¬ tN T = 0 := by unfold tN; omega
  obtain ⟨h', e, E⟩ := X_seek_L hy (tH T + 1) 0 h eg_F (by omega) (by rw [eg_F_eq]; have := O.2.1.2.1; omega) O
  have hms : ms (gk lw T y) (tN T) = bgd lw T y := if_neg hN
  rw [hms] at e
  refine ⟨h', ?_, E⟩
  have e' : fX11_seek_L45 eg_F h 36 (nI y) 0 (nI (pk 0 0)) (nI (eM T)) 0 = some (nI (pk (bst lw T y) (bgd lw T y)), h') := e
  have ep : fX11_packed h 0 (-5) 0 = some (nI (pk 0 0), h) := by
    unfold fX11_packed
    rfl
  unfold fX11_seek
  rw [if_pos (iO_36 O.1), ep, Option.bind_some]
  show ((eg_gI h 11 3 36).bind _) = _
  rw [gI_36 O.1, Option.bind_some, gI_36 O.1, Option.bind_some, O.2.2.2.1.1, O.2.2.2.1.2.2.2.1]
  unfold eM at e'
  by_cases c : tR T ≤ tS T
  · rw [if_pos c] at e'
    rw [if_pos (nI_le c (by omega)), Option.bind_some]
    unfold fX11_seek_j40
    rw [show (2 : Int32) * nI (tR T) + 1 = nI (2 * tR T + 1) by rw [nI_k2, nI_1], e', Option.bind_some]
  · rw [if_neg c] at e'
    rw [if_neg (nI_ge (by omega) (by omega)), Option.bind_some]
    unfold fX11_seek_j40
    rw [show (2 : Int32) * nI (tS T) + 1 = nI (2 * tS T + 1) by rw [nI_k2, nI_1], e', Option.bind_some]
end XS
