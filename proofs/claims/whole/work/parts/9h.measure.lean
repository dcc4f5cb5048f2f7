abbrev gMea (σ : eg_S) (p w o f : Int32) : Prop := (((((G1 (sP σ) p ∧ ¬ w < 0) ∧ GI (nI 1) (nI 60) (w / 100)) ∧ GI (nI 0) (nI 1) (w % 10)) ∧ GI (-99) 99 o) ∧ GI (nI 0) (nI 999) f) ∧ σ.1 7 < 20
def aMea (σ : eg_S) (p w o f : Int32) : Int32 := if gMea σ p w o f then nI (σ.1 7 + 1) else -1
def sMea (σ : eg_S) (p w o f : Int32) : eg_S := if gMea σ p w o f then st_row σ 7 5 p w o f else σ
def aUndo (σ : eg_S) : Int32 := if σ.1 8 = 0 then -1 else nI (σ.1 8 - 1)
def sUndo (σ : eg_S) : eg_S := if σ.1 8 = 0 then σ else eg_s1 σ 8 (σ.1 8 - 1)
section ME
variable {h : eg_H} {σ : eg_S} {B : Nat × Nat}
theorem W_mea {p w o f : Int32} (W : Wσ σ) (g : gMea σ p w o f) : Wσ (st_row σ 7 5 p w o f) := by
  obtain ⟨w1, w2, w3, w4, w5, ⟨w6, w6'⟩, w7⟩ := W
  have hP := w2.1
  obtain ⟨⟨⟨⟨⟨⟨c1, c2⟩, c3⟩, c4⟩, c5⟩, c6⟩, c7⟩ := g
  obtain ⟨r, hr, rfl⟩ := G1_n (P := sP σ) (by omega) c1
  obtain ⟨n, hn, rfl⟩ := pos_n c2
  obtain ⟨m, m1, m2, rfl⟩ := GI_n (by omega) (by omega) c6
  rw [(n100 hn).1] at c3
  rw [(n10 hn).2] at c4
  obtain ⟨y, y1, y2, y3⟩ := GI_n (by omega) (by omega) c3
  obtain ⟨d, d1, d2, d3⟩ := GI_n (by omega) (by omega) c4
  have y3 : n / 100 = y := (nI_eq (by omega) (by omega)).mp y3
  have d3 : n % 10 = d := (nI_eq (by omega) (by omega)).mp d3
  have ho : -99 ≤ o.toInt ∧ o.toInt ≤ 99 := GIi_n (lo := -99) (hi := 99) (by unfold i3; omega) (by unfold i3; omega) (by
    rw [show iI (-99) = (-99 : Int32) by decide, show iI 99 = (99 : Int32) by decide]; exact c5)
  refine ⟨w1, w2, w3, w4, w5, ⟨?_, fun i hi => ?_⟩, w7⟩
  · show σ.1 7 + 1 ≤ 20
    omega
  · have hi : i < σ.1 7 + 1 := hi
    show ∃ r' y b d off f, r' < sP σ ∧ 1 ≤ y ∧ y ≤ 60 ∧ b ≤ 9 ∧ d ≤ 1 ∧ (-99 ≤ off ∧ off ≤ 99) ∧ f ≤ 999 ∧ rw4 (σ.2 5) (σ.1 7) (nI r) (nI n) o (nI m) (4 * i) = nI r' ∧ rw4 (σ.2 5) (σ.1 7) (nI r) (nI n) o (nI m) (4 * i + 1) = nI (100 * y + 10 * b + d) ∧ rw4 (σ.2 5) (σ.1 7) (nI r) (nI n) o (nI m) (4 * i + 2) = iI off ∧ rw4 (σ.2 5) (σ.1 7) (nI r) (nI n) o (nI m) (4 * i + 3) = nI f
    by_cases c : i = σ.1 7
    · subst c
      obtain ⟨z0, z1, z2, z3⟩ := rw4_0 (σ.2 5) (σ.1 7) (nI r) (nI n) o (nI m)
      rw [z0, z1, z2, z3]
      refine ⟨r, y, n / 10 % 10, d, o.toInt, m, hr, y1, y2, by omega, d2, ho, m2, rfl, ?_, (iI_o o).symm, rfl⟩
      congr 1
      omega
    · rw [rw4_lo _ _ _ _ _ _ (by omega), rw4_lo _ _ _ _ _ _ (by omega), rw4_lo _ _ _ _ _ _ (by omega), rw4_lo _ _ _ _ _ _ (by omega)]
      exact w6' i (by omega)
theorem X_measure (X : XI h σ B) (p w o f : Int32) : ∃ h', fX12_measure h 16 p w o f = some (aMea σ p w o f, h') ∧ XOk h h' (sMea σ p w o f) B := by
  have C := X.2.2.1
  have hs := C.1
  have hP := XI_P X
  obtain ⟨k1, k2, k3, k4⟩ := X.2.2.2.2.2.1
  have hq : isB 29 := Or.inr (Or.inl rfl)
  have h20 := X.1.2.2.2.2.2.1.1
  have bad : ¬ gMea σ p w o f → ∃ h', some ((-1 : Int32), h) = some (if gMea σ p w o f then nI (σ.1 7 + 1) else -1, h') ∧ XOk h h' (if gMea σ p w o f then st_row σ 7 5 p w o f else σ) B := fun gg => by
    rw [if_neg gg, if_neg gg]
    exact ⟨h, rfl, XOk_rfl X⟩
  unfold fX12_measure aMea sMea
  rw [if_pos (iO_16 hs), gR_16 hs, rf_16_3 hs, Option.bind_some, X_isPerson hs C.2.1 p, Option.bind_some]
  dsimp only
  rw [g01]
  by_cases c1 : G1 (sP σ) p
  · rw [if_pos c1]
    by_cases c2 : w < 0
    · rw [if_pos c2]
      exact bad (fun z => z.1.1.1.1.1.2 c2)
    · rw [if_neg c2, X_isYards h _, Option.bind_some]
      dsimp only
      rw [g01]
      by_cases c3 : GI (nI 1) (nI 60) (w / 100)
      · rw [if_pos c3, X_isEnd h _, Option.bind_some]
        dsimp only
        rw [g01]
        by_cases c4 : GI (nI 0) (nI 1) (w % 10)
        · rw [if_pos c4, X_within, Option.bind_some]
          dsimp only
          rw [g01]
          by_cases c5 : GI (-99) 99 o
          · rw [if_pos c5]
            by_cases c6 : GI (nI 0) (nI 999) f
            · rw [if_neg (show ¬ f < 0 from c6.1), if_neg (show ¬ (999 : Int32) < f from c6.2), gR_16 hs, rf_16_10 hs, Option.bind_some, X_isFull hs hq k2 (by omega) (by omega), Option.bind_some]
              dsimp only
              by_cases c7 : σ.1 7 < 20
              · have gg : gMea σ p w o f := ⟨⟨⟨⟨⟨⟨c1, c2⟩, c3⟩, c4⟩, c5⟩, c6⟩, c7⟩
                rw [if_pos c7, if_pos rfl, gR_16 hs, rf_16_10 hs, Option.bind_some, if_pos gg, if_pos gg]
                obtain ⟨h1, e1, E1, b1⟩ := X_add hs hq k2 rfl c7 p w o f
                obtain ⟨G, gc⟩ := SBk_gr hq E1
                have s1 : eg_stt h1 := eq_stt E1 hs (by decide)
                have X1 : XI h1 (st_row σ 7 5 p w o f) B := XI_Bk hq X E1 (W_mea X.1 gg) (fun j hj => if_neg (by omega)) (fun r hr => by funext k; exact if_neg (by omega)) ⟨Bk_eq hq (Or.inl rfl) (by decide) k1 E1, b1, Bk_eq hq (Or.inr (Or.inr (Or.inl rfl))) (by decide) k3 E1, Bk_eq hq (Or.inr (Or.inr (Or.inr rfl))) (by decide) k4 E1⟩
                refine ⟨h1, ?_, X1, gc⟩
                have esz : fX1_size h1 29 = some (nI (σ.1 7 + 1), h1) := X_size s1 hq b1
                rw [e1, Option.bind_some, gR_16 s1, rf_16_10 s1, Option.bind_some, esz, Option.bind_some]
              · rw [if_neg c7, if_neg (show ¬ (1 : Int32) = 0 by decide)]
                exact bad (fun z => c7 z.2)
            · by_cases c8 : f < 0
              · rw [if_pos c8]
                exact bad (fun z => c6 z.1.2)
              · rw [if_neg c8, if_pos (show (999 : Int32) < f from Decidable.not_not.mp (fun z => c6 ⟨c8, z⟩))]
                exact bad (fun z => c6 z.1.2)
          · rw [if_neg c5]
            exact bad (fun z => c5 z.1.1.2)
        · rw [if_neg c4]
          exact bad (fun z => c4 z.1.1.1.2)
      · rw [if_neg c3]
        exact bad (fun z => c3 z.1.1.1.1.2)
  · rw [if_neg c1]
    exact bad (fun z => c1 z.1.1.1.1.1.1)
theorem M_measure (R : RI h σ) (p w o f : Int32) : ∃ h', fX13_measure h 54 p w o f = some (aMea σ p w o f, h') ∧ ROk h h' (sMea σ p w o f) := by
  obtain ⟨R0, Q0⟩ := R_0 R
  have hs := R.1
  have s0 := R0.1
  have hP := RI_P R
  have h20 := R.2.1.2.2.2.2.2.1.1
  obtain ⟨d1, d2⟩ := R0.2.2.2.2.2.2.2.1
  have bad : ¬ gMea σ p w o f → ∃ h', some ((-1 : Int32), eg_sI h 54 0 0) = some (if gMea σ p w o f then nI (σ.1 7 + 1) else -1, h') ∧ ROk h h' (if gMea σ p w o f then st_row σ 7 5 p w o f else σ) := fun gg => by
    rw [if_neg gg, if_neg gg]
    exact ⟨_, rfl, ROk_scr R Q0⟩
  unfold fX13_measure aMea sMea
  rw [if_pos (iO_54 hs), pI_54 hs, Option.bind_some, M_isPerson s0 R0.2.2.2.1 p, Option.bind_some]
  dsimp only
  rw [g01]
  by_cases c1 : G1 (sP σ) p
  · rw [if_pos c1]
    by_cases c2 : w < 0
    · rw [if_pos c2]
      exact bad (fun z => z.1.1.1.1.1.2 c2)
    · rw [if_neg c2, M_GI (lo := 1) (hi := 60) _ _ (by omega) (by omega) 1 60 rfl rfl, Option.bind_some]
      dsimp only
      rw [g01]
      by_cases c3 : GI (nI 1) (nI 60) (w / 100)
      · rw [if_pos c3, M_GI (lo := 0) (hi := 1) _ _ (by omega) (by omega) 0 1 rfl rfl, Option.bind_some]
        dsimp only
        rw [g01]
        by_cases c4 : GI (nI 0) (nI 1) (w % 10)
        · rw [if_pos c4, M_GIi _ o (-99) 99 (-99) 99 (by decide) (by decide), Option.bind_some]
          dsimp only
          rw [g01]
          by_cases c5 : GI (-99) 99 o
          · rw [if_pos c5, M_GI (lo := 0) (hi := 999) _ f (by omega) (by omega) 0 999 rfl rfl, Option.bind_some]
            dsimp only
            rw [g01]
            by_cases c6 : GI (nI 0) (nI 999) f
            · rw [if_pos c6, gI_54 s0, Option.bind_some, d1]
              by_cases c7 : σ.1 7 < 20
              · have gg : gMea σ p w o f := ⟨⟨⟨⟨⟨⟨c1, c2⟩, c3⟩, c4⟩, c5⟩, c6⟩, c7⟩
                rw [if_neg (show ¬ nI (σ.1 7) = (20 : Int32) from fun z => by have := (nI_eq (b := 20) (by omega) (by omega)).mp z; omega), if_pos gg, if_pos gg]
                have hcl : (nI (σ.1 7)).toNatClampNeg = σ.1 7 := nI_clamp (by omega)
                let g0 := eg_sI h 54 0 0
                let g1 := eg_sI g0 82 (σ.1 7) p
                let g2 := eg_sI g1 83 (σ.1 7) w
                let g3 := eg_sI g2 84 (σ.1 7) o
                let g4 := eg_sI g3 85 (σ.1 7) f
                let g5 := eg_sI g4 54 65 (nI (σ.1 7 + 1))
                have Q5 : eg_eq Ry h g5 := eq_sI (eq_sI (eq_sI (eq_sI (eq_sI (eq_sI eq_rfl rfl) rfl) rfl) rfl) rfl) rfl
                have v1 : eg_I g1 54 65 = nI (σ.1 7) := by show eg_I (eg_sI g0 82 (σ.1 7) p) 54 65 = _; rw [I_sI, if_neg (by omega)]; exact d1
                have v2 : eg_I g2 54 65 = nI (σ.1 7) := by show eg_I (eg_sI g1 83 (σ.1 7) w) 54 65 = _; rw [I_sI, if_neg (by omega)]; exact v1
                have v3 : eg_I g3 54 65 = nI (σ.1 7) := by show eg_I (eg_sI g2 84 (σ.1 7) o) 54 65 = _; rw [I_sI, if_neg (by omega)]; exact v2
                have v4 : eg_I g4 54 65 = nI (σ.1 7) := by show eg_I (eg_sI g3 85 (σ.1 7) f) 54 65 = _; rw [I_sI, if_neg (by omega)]; exact v3
                have v5 : eg_I g5 54 65 = nI (σ.1 7 + 1) := by show eg_I (eg_sI g4 54 65 _) 54 65 = _; rw [I_sI, if_pos ⟨rfl, rfl⟩]
                have R5 : RI g5 (st_row σ 7 5 p w o f) := by
                  refine RI_row R Q5 (W_mea R.2.1 gg) (fun j hj => if_neg (by omega)) (fun r hr => by funext k; exact if_neg (by omega)) ?_ ⟨v5, fun i hi => ?_⟩ ?_
                  · have := R0.2.2.2.2.2.2.1
                    exact this
                  · have hi : i < σ.1 7 + 1 := hi
                    obtain ⟨z0, z1, z2, z3⟩ := rw4_0 (σ.2 5) (σ.1 7) p w o f
                    show eg_I (eg_sI (eg_sI (eg_sI (eg_sI (eg_sI g0 82 (σ.1 7) p) 83 (σ.1 7) w) 84 (σ.1 7) o) 85 (σ.1 7) f) 54 65 (nI (σ.1 7 + 1))) 82 i = rw4 (σ.2 5) (σ.1 7) p w o f (4 * i) ∧ eg_I (eg_sI (eg_sI (eg_sI (eg_sI (eg_sI g0 82 (σ.1 7) p) 83 (σ.1 7) w) 84 (σ.1 7) o) 85 (σ.1 7) f) 54 65 (nI (σ.1 7 + 1))) 83 i = rw4 (σ.2 5) (σ.1 7) p w o f (4 * i + 1) ∧ eg_I (eg_sI (eg_sI (eg_sI (eg_sI (eg_sI g0 82 (σ.1 7) p) 83 (σ.1 7) w) 84 (σ.1 7) o) 85 (σ.1 7) f) 54 65 (nI (σ.1 7 + 1))) 84 i = rw4 (σ.2 5) (σ.1 7) p w o f (4 * i + 2) ∧ eg_I (eg_sI (eg_sI (eg_sI (eg_sI (eg_sI g0 82 (σ.1 7) p) 83 (σ.1 7) w) 84 (σ.1 7) o) 85 (σ.1 7) f) 54 65 (nI (σ.1 7 + 1))) 85 i = rw4 (σ.2 5) (σ.1 7) p w o f (4 * i + 3)
                    by_cases c : i = σ.1 7
                    · subst c
                      rw [z0, z1, z2, z3]
                      simp only [I_sI]
                      simp
                    · have := d2 i (by omega)
                      rw [rw4_lo _ _ _ _ _ _ (by omega), rw4_lo _ _ _ _ _ _ (by omega), rw4_lo _ _ _ _ _ _ (by omega), rw4_lo _ _ _ _ _ _ (by omega)]
                      simp only [I_sI]
                      simp [c]
                      exact this
                  · have := R0.2.2.2.2.2.2.2.2.1
                    exact this
                refine ⟨g5, ?_, R5, Ry_rf Q5⟩
                have s1 : eg_stt g1 := s0
                have s2 : eg_stt g2 := s0
                have s3 : eg_stt g3 := s0
                have s4 : eg_stt g4 := s0
                have s5 : eg_stt g5 := s0
                rw [gR_54 s0, rf_54_61 s0, Option.bind_some, Option.bind_some, wI_82 s0 (nI_pos (by omega)) (by rw [hcl]; omega), hcl, Option.bind_some]
                show ((eg_gR g1 13 62 54).bind _) = _
                rw [gR_54 s1, rf_54_62 s1, Option.bind_some, gI_54 s1, Option.bind_some, v1, wI_83 s1 (nI_pos (by omega)) (by rw [hcl]; omega), hcl, Option.bind_some]
                show ((eg_gR g2 13 63 54).bind _) = _
                rw [gR_54 s2, rf_54_63 s2, Option.bind_some, gI_54 s2, Option.bind_some, v2, wI_84 s2 (nI_pos (by omega)) (by rw [hcl]; omega), hcl, Option.bind_some]
                show ((eg_gR g3 13 64 54).bind _) = _
                rw [gR_54 s3, rf_54_64 s3, Option.bind_some, gI_54 s3, Option.bind_some, v3, wI_85 s3 (nI_pos (by omega)) (by rw [hcl]; omega), hcl, Option.bind_some]
                show ((eg_gI g4 13 65 54).bind _) = _
                rw [gI_54 s4, Option.bind_some, v4, nI_1, pI_54 s4, Option.bind_some]
                show ((eg_gI g5 13 65 54).bind _) = _
                rw [gI_54 s5, Option.bind_some, v5]
              · rw [if_pos (show nI (σ.1 7) = (20 : Int32) by rw [show σ.1 7 = 20 by omega]; rfl)]
                exact bad (fun z => c7 z.2)
            · rw [if_neg c6]
              exact bad (fun z => c6 z.1.2)
          · rw [if_neg c5]
            exact bad (fun z => c5 z.1.1.2)
        · rw [if_neg c4]
          exact bad (fun z => c4 z.1.1.1.2)
      · rw [if_neg c3]
        exact bad (fun z => c3 z.1.1.1.1.2)
  · rw [if_neg c1]
    exact bad (fun z => c1 z.1.1.1.1.1.1)
theorem W_undo (W : Wσ σ) (hn : ¬ σ.1 8 = 0) : Wσ (eg_s1 σ 8 (σ.1 8 - 1)) := by
  obtain ⟨w1, w2, w3, w4, w5, w6, w7, w8⟩ := W
  refine ⟨w1, w2, w3, w4, w5, w6, ?_, w8⟩
  show σ.1 8 - 1 ≤ 40
  omega
theorem X_undo (X : XI h σ B) : ∃ h', fX12_undo h 16 = some (aUndo σ, h') ∧ XOk h h' (sUndo σ) B := by
  have hs := X.2.2.1.1
  obtain ⟨k1, k2, k3, k4⟩ := X.2.2.2.2.2.1
  have hq : isB 31 := Or.inr (Or.inr (Or.inl rfl))
  have h40 := X.1.2.2.2.2.2.2.1
  have esz := X_size hs hq k3
  unfold fX12_undo aUndo sUndo
  rw [if_pos (iO_16 hs), gR_16 hs, rf_16_11 hs, Option.bind_some, esz, Option.bind_some]
  dsimp only
  by_cases c : σ.1 8 = 0
  · rw [if_pos (show nI (σ.1 8) = 0 by rw [c]; rfl), if_pos c, if_pos c]
    exact ⟨h, rfl, XOk_rfl X⟩
  · rw [if_neg (nI_ne0 (by omega) (by omega)), if_neg c, if_neg c]
    let g1 := eg_sI h 31 2 (nI (σ.1 8 - 1))
    have E1 : eg_eq (SBk 31) h g1 := eq_sI eq_rfl rfl
    obtain ⟨G, gc⟩ := SBk_gr hq E1
    have s1 : eg_stt g1 := hs
    have b1 : Bk g1 31 40 (σ.1 8 - 1) (σ.2 6) := by
      refine ⟨?_, ?_, fun k hk => ?_⟩
      · show eg_I (eg_sI h 31 2 _) 31 1 = _
        rw [I_sI, if_neg (by omega)]; exact k3.1
      · show eg_I (eg_sI h 31 2 _) 31 2 = _
        rw [I_sI, if_pos ⟨rfl, rfl⟩]
      · show eg_I (eg_sI h 31 2 _) 32 k = _
        rw [I_sI, if_neg (by omega)]; exact k3.2.2 k (by omega)
    have X1 : XI g1 (eg_s1 σ 8 (σ.1 8 - 1)) B := XI_Bk hq X E1 (W_undo X.1 c) (fun j hj => if_neg (by omega)) (fun r hr => rfl) ⟨Bk_eq hq (Or.inl rfl) (by decide) k1 E1, Bk_eq hq (Or.inr (Or.inl rfl)) (by decide) k2 E1, b1, Bk_eq hq (Or.inr (Or.inr (Or.inr rfl))) (by decide) k4 E1⟩
    refine ⟨g1, ?_, X1, gc⟩
    have ed : fX1_dropLatest h 31 = some g1 := by
      unfold fX1_dropLatest
      rw [if_pos (iO_31 hs), gI_31 hs, Option.bind_some, k3.2.1, if_neg (show ¬ nI (σ.1 8) ≤ 0 from nI_ge (a := 0) (by omega) (by omega)), Option.bind_some, pI_31 hs, Option.bind_some]
      have : nI (σ.1 8) - 1 = nI (σ.1 8 - 1) := by
        rw [show σ.1 8 = (σ.1 8 - 1) + 1 by omega, nI_m1]
        rfl
      rw [this]
    rw [gR_16 hs, rf_16_11 hs, Option.bind_some, ed, Option.bind_some, gR_16 s1, rf_16_11 s1, Option.bind_some, X_size s1 hq b1, Option.bind_some]
theorem M_undo (R : RI h σ) : ∃ h', fX13_undo h 54 = some (aUndo σ, h') ∧ ROk h h' (sUndo σ) := by
  obtain ⟨R0, Q0⟩ := R_0 R
  have hs := R.1
  have s0 := R0.1
  have h40 := R.2.1.2.2.2.2.2.2.1
  obtain ⟨f1, f2⟩ := R0.2.2.2.2.2.2.2.2.1
  unfold fX13_undo aUndo sUndo
  rw [if_pos (iO_54 hs), pI_54 hs, Option.bind_some, gI_54 s0, Option.bind_some, f1]
  by_cases c : σ.1 8 = 0
  · rw [if_pos (show nI (σ.1 8) = 0 by rw [c]; rfl), if_pos c, if_pos c]
    exact ⟨_, rfl, ROk_scr R Q0⟩
  · rw [if_neg (nI_ne0 (by omega) (by omega)), if_neg c, if_neg c]
    let g1 := eg_sI (eg_sI h 54 0 0) 54 72 (nI (σ.1 8 - 1))
    have Q1 : eg_eq Ry h g1 := eq_sI (eq_sI eq_rfl rfl) rfl
    have v1 : eg_I g1 54 72 = nI (σ.1 8 - 1) := by show eg_I (eg_sI (eg_sI h 54 0 0) 54 72 _) 54 72 = _; rw [I_sI, if_pos ⟨rfl, rfl⟩]
    have R1 : RI g1 (eg_s1 σ 8 (σ.1 8 - 1)) := by
      refine RI_row R Q1 (W_undo R.2.1 c) (fun j hj => if_neg (by omega)) (fun r hr => rfl) ?_ ?_ ⟨v1, fun i hi => ?_⟩
      · exact R0.2.2.2.2.2.2.1
      · exact R0.2.2.2.2.2.2.2.1
      · have hi : i < σ.1 8 - 1 := hi
        exact f2 i (by omega)
    refine ⟨g1, ?_, R1, Ry_rf Q1⟩
    have s1 : eg_stt g1 := s0
    have : nI (σ.1 8) - 1 = nI (σ.1 8 - 1) := by
      rw [show σ.1 8 = (σ.1 8 - 1) + 1 by omega, nI_m1]
      rfl
    rw [Option.bind_some, this, pI_54 s0, Option.bind_some]
    show ((eg_gI g1 13 72 54).bind _) = _
    rw [gI_54 s1, Option.bind_some, v1]
end ME
