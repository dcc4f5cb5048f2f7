def Ry : List (Nat × Option Nat) := [(54, some 0), (54, some 49), (54, some 65), (54, some 72), (72, none), (73, none), (74, none), (82, none), (83, none), (84, none), (85, none), (87, none), (88, none), (89, none)]
theorem Ry_rf {h h' : eg_H} (Q : eg_eq Ry h h') : eg_rf h h' := ⟨Q.1, fun p i hp => Q.2 p i (by
  have hh : ∀ t ∈ Ry, 54 ≤ t.1 ∧ t.1 < 94 := by decide
  unfold eg_cov
  rw [List.any_eq_false]
  intro t ht
  have := hh t ht
  have : (t.1 == p) = false := by simp; omega
  rw [this]
  simp)⟩
section WI
variable {h : eg_H} {σ : eg_S} {B : Nat × Nat}
theorem RI_row {h' : eg_H} {σ' : eg_S} (R : RI h σ) (Q : eg_eq Ry h h') (W : Wσ σ') (h1 : ∀ j, (j ≤ 5 ∨ j = 9 ∨ j = 10) → σ'.1 j = σ.1 j) (h2 : ∀ r, (r ≤ 3 ∨ 7 ≤ r) → σ'.2 r = σ.2 r)
    (q1 : eg_I h' 54 49 = nI (σ'.1 6) ∧ ∀ i, i < σ'.1 6 → eg_I h' 72 i = σ'.2 4 (4 * i) ∧ eg_I h' 73 i = σ'.2 4 (4 * i + 1) ∧ eg_I h' 74 i = σ'.2 4 (4 * i + 2)) (q2 : eg_I h' 54 65 = nI (σ'.1 7) ∧ ∀ i, i < σ'.1 7 → eg_I h' 82 i = σ'.2 5 (4 * i) ∧ eg_I h' 83 i = σ'.2 5 (4 * i + 1) ∧ eg_I h' 84 i = σ'.2 5 (4 * i + 2) ∧ eg_I h' 85 i = σ'.2 5 (4 * i + 3)) (q3 : eg_I h' 54 72 = nI (σ'.1 8) ∧ ∀ i, i < σ'.1 8 → eg_I h' 87 i = σ'.2 6 (4 * i) ∧ eg_I h' 88 i = σ'.2 6 (4 * i + 1) ∧ eg_I h' 89 i = σ'.2 6 (4 * i + 2)) : RI h' σ' := by
  obtain ⟨hs, _, ⟨t1, t2⟩, ⟨v1, v2, v3, v4, v5⟩, ⟨b1, b2, b3⟩, ⟨c1, c2⟩, _, _, _, ⟨g1, g2⟩, i1, i2⟩ := R
  have g : ∀ p i, eg_cov Ry p i = false → eg_I h' p i = eg_I h p i := fun p i a => (Q.2 p i a).1
  have eU : sU σ' = sU σ := by unfold sU; rw [h2 1 (by omega)]
  have eT : ∀ j, laT σ' j = laT σ j := fun j => by unfold laT; rw [h2 10 (by omega)]
  have eN : ∀ j, laN σ' j = laN σ j := fun j => by unfold laN; rw [h2 9 (by omega)]
  have e0 : σ'.1 0 = σ.1 0 := h1 0 (by omega)
  have e1 : sP σ' = sP σ := h1 1 (by omega)
  have e2 : sE σ' = sE σ := h1 2 (by omega)
  have e3 : sN σ' = sN σ := h1 3 (by omega)
  have e5 : sF σ' = sF σ := h1 5 (by omega)
  refine ⟨eq_stt Q hs (by decide), W, ⟨?_, fun i hi => ?_⟩, ⟨fun x hx => ?_, fun x hx => ?_, fun x hx => ?_, ?_, ?_⟩, ⟨?_, ?_, fun j hj => ⟨?_, fun i hi => ?_⟩⟩, ⟨?_, fun f hf => ⟨?_, fun k hk => ?_⟩⟩, q1, q2, q3, ⟨?_, fun i hi => ?_⟩, ?_, fun i hi hh => ?_⟩
  · rw [g 54 6 rfl, e0]; exact t1
  · rw [e0] at hi; rw [g 55 i rfl, h2 0 (by omega)]; exact t2 i hi
  · rw [g 59 x rfl, eU]; exact v1 x hx
  · rw [e1] at hx; rw [g 61 x rfl, eU]; exact v2 x hx
  · rw [e2] at hx; rw [g 63 x rfl, eU]; exact v3 x hx
  · rw [g 54 24 rfl, e1]; exact v4
  · rw [g 54 26 rfl, e2]; exact v5
  · rw [g 54 7 rfl, e3]; exact b1
  · rw [g 54 34 rfl, h1 4 (by omega)]; exact b2
  · rw [e3] at hj; rw [g 57 j rfl, eN]; exact (b3 j hj).1
  · rw [e3] at hj; rw [eN] at hi; rw [g 56 _ rfl, eT]; exact (b3 j hj).2 i hi
  · rw [g 54 32 rfl, e5]; exact c1
  · rw [e5] at hf; rw [g 67 f rfl, h2 3 (by omega)]; exact (c2 f hf).1
  · rw [e5] at hf; rw [h2 3 (by omega)] at hk; rw [g 65 _ rfl, h2 2 (by omega)]; exact (c2 f hf).2 k hk
  · rw [g 54 77 rfl, h1 9 (by omega)]; exact g1
  · rw [h1 9 (by omega)] at hi; rw [g 91 i rfl, g 92 i rfl, g 93 i rfl, h2 7 (by omega)]; exact g2 i hi
  · rw [g 54 78 rfl, h1 10 (by omega)]; exact i1
  · rw [h1 10 (by omega)] at hh; rw [g 90 i rfl, h2 8 (by omega)]; exact i2 i hi hh
abbrev gWit (σ : eg_S) (e f : Int32) : Prop := (G1 (sE σ) e ∧ GI (nI 0) (nI 999) f) ∧ σ.1 6 < 20
def aWit (σ : eg_S) (e f : Int32) : Int32 := if gWit σ e f then nI (σ.1 6 + 1) else -1
def sWit (σ : eg_S) (e f b : Int32) : eg_S := if gWit σ e f then st_row σ 6 4 e f b 0 else σ
theorem W_wit {e f b : Int32} (W : Wσ σ) (g : gWit σ e f) (hb : b = 0 ∨ b = 1) : Wσ (st_row σ 6 4 e f b 0) := by
  obtain ⟨w1, w2, w3, w4, ⟨w5, w5'⟩, w6, w7⟩ := W
  have hE := w2.2.1
  obtain ⟨n, hn, rfl⟩ := G1_n (P := sE σ) (by omega) g.1.1
  obtain ⟨m, m1, m2, rfl⟩ := GI_n (by omega) (by omega) g.1.2
  have g20 := g.2
  refine ⟨w1, w2, w3, w4, ⟨?_, fun i hi => ?_⟩, w6, w7⟩
  · show σ.1 6 + 1 ≤ 20
    omega
  · have hi : i < σ.1 6 + 1 := hi
    show ∃ e f b', e < 6 ∧ f ≤ 999 ∧ b' ≤ 1 ∧ rw4 (σ.2 4) (σ.1 6) (nI n) (nI m) b 0 (4 * i) = nI e ∧ rw4 (σ.2 4) (σ.1 6) (nI n) (nI m) b 0 (4 * i + 1) = nI f ∧ rw4 (σ.2 4) (σ.1 6) (nI n) (nI m) b 0 (4 * i + 2) = nI b'
    by_cases c : i = σ.1 6
    · subst c
      obtain ⟨z0, z1, z2, z3⟩ := rw4_0 (σ.2 4) (σ.1 6) (nI n) (nI m) b 0
      rw [z0, z1, z2]
      rcases hb with rfl | rfl
      · exact ⟨n, m, 0, by omega, m2, by omega, rfl, rfl, rfl⟩
      · exact ⟨n, m, 1, by omega, m2, by omega, rfl, rfl, rfl⟩
    · rw [rw4_lo _ _ _ _ _ _ (by omega), rw4_lo _ _ _ _ _ _ (by omega), rw4_lo _ _ _ _ _ _ (by omega)]
      exact w5' i (by omega)
theorem X_witness (X : XI h σ B) (e f b : Int32) (hb : b = 0 ∨ b = 1) : ∃ h', fX12_witness h 16 e f b = some (aWit σ e f, h') ∧ XOk h h' (sWit σ e f b) B := by
  have C := X.2.2.1
  have hs := C.1
  have hP := XI_P X
  obtain ⟨k1, k2, k3, k4⟩ := X.2.2.2.2.2.1
  have hq : isB 27 := Or.inl rfl
  have h20 := X.1.2.2.2.2.1.1
  unfold fX12_witness aWit sWit
  rw [if_pos (iO_16 hs), gR_16 hs, rf_16_3 hs, Option.bind_some, X_isEgg hs C.2.1 e, Option.bind_some]
  dsimp only
  rw [g01]
  by_cases c1 : G1 (sE σ) e
  · rw [if_pos c1]
    by_cases c2 : GI (nI 0) (nI 999) f
    · rw [if_neg (show ¬ f < 0 from c2.1), if_neg (show ¬ (999 : Int32) < f from c2.2), gR_16 hs, rf_16_9 hs, Option.bind_some, X_isFull hs hq k1 (by omega) (by omega), Option.bind_some]
      dsimp only
      by_cases c3 : σ.1 6 < 20
      · have gg : gWit σ e f := ⟨⟨c1, c2⟩, c3⟩
        rw [if_pos c3, if_pos rfl, gR_16 hs, rf_16_9 hs, Option.bind_some, if_pos gg, if_pos gg]
        obtain ⟨h1, e1, E1, b1⟩ := X_add hs hq k1 rfl c3 e f b 0
        obtain ⟨G, gc⟩ := SBk_gr hq E1
        have s1 : eg_stt h1 := eq_stt E1 hs (by decide)
        have X1 : XI h1 (st_row σ 6 4 e f b 0) B := XI_Bk hq X E1 (W_wit X.1 gg hb) (fun j hj => if_neg (by omega)) (fun r hr => by funext k; exact if_neg (by omega)) ⟨b1, Bk_eq hq (Or.inr (Or.inl rfl)) (by decide) k2 E1, Bk_eq hq (Or.inr (Or.inr (Or.inl rfl))) (by decide) k3 E1, Bk_eq hq (Or.inr (Or.inr (Or.inr rfl))) (by decide) k4 E1⟩
        refine ⟨h1, ?_, X1, gc⟩
        have esz : fX1_size h1 27 = some (nI (σ.1 6 + 1), h1) := X_size s1 hq b1
        by_cases cb : b = 0
        · subst cb
          rw [if_pos rfl, e1, Option.bind_some, gR_16 s1, rf_16_9 s1, Option.bind_some, esz, Option.bind_some]
        · have : b = 1 := hb.resolve_left cb
          subst this
          rw [if_neg (by decide), e1, Option.bind_some, gR_16 s1, rf_16_9 s1, Option.bind_some, esz, Option.bind_some]
      · have gg : ¬ gWit σ e f := fun z => c3 z.2
        rw [if_neg c3, if_neg (show ¬ (1 : Int32) = 0 by decide), if_neg gg, if_neg gg]
        exact ⟨h, rfl, XOk_rfl X⟩
    · have gg : ¬ gWit σ e f := fun z => c2 z.1.2
      rw [if_neg gg, if_neg gg]
      by_cases c3 : f < 0
      · rw [if_pos c3]; exact ⟨h, rfl, XOk_rfl X⟩
      · rw [if_neg c3, if_pos (show (999 : Int32) < f from Decidable.not_not.mp (fun z => c2 ⟨c3, z⟩))]; exact ⟨h, rfl, XOk_rfl X⟩
  · have gg : ¬ gWit σ e f := fun z => c1 z.1.1
    rw [if_neg c1, if_neg gg, if_neg gg]
    exact ⟨h, rfl, XOk_rfl X⟩
theorem nar01 {b : Int32} (hb : b = 0 ∨ b = 1) : vp_nar .boolean b = b := by
  rcases hb with rfl | rfl <;> rfl
theorem M_witness (R : RI h σ) (e f b : Int32) (hb : b = 0 ∨ b = 1) : ∃ h', fX13_witness h 54 e f b = some (aWit σ e f, h') ∧ ROk h h' (sWit σ e f b) := by
  obtain ⟨R0, Q0⟩ := R_0 R
  have hs := R.1
  have s0 := R0.1
  have hP := RI_P R
  have h20 := R.2.1.2.2.2.2.1.1
  obtain ⟨d1, d2⟩ := R0.2.2.2.2.2.2.1
  unfold fX13_witness aWit sWit
  rw [if_pos (iO_54 hs), pI_54 hs, Option.bind_some, M_isEgg s0 R0.2.2.2.1 e, Option.bind_some]
  dsimp only
  rw [g01]
  by_cases c1 : G1 (sE σ) e
  · rw [if_pos c1, M_GI (lo := 0) (hi := 999) _ f (by omega) (by omega) 0 999 rfl rfl, Option.bind_some]
    dsimp only
    rw [g01]
    by_cases c2 : GI (nI 0) (nI 999) f
    · rw [if_pos c2, gI_54 s0, Option.bind_some, d1]
      by_cases c3 : σ.1 6 < 20
      · have gg : gWit σ e f := ⟨⟨c1, c2⟩, c3⟩
        rw [if_neg (show ¬ nI (σ.1 6) = (20 : Int32) from fun z => by have := (nI_eq (b := 20) (by omega) (by omega)).mp z; omega), if_pos gg, if_pos gg]
        have hcl : (nI (σ.1 6)).toNatClampNeg = σ.1 6 := nI_clamp (by omega)
        let g0 := eg_sI h 54 0 0
        let g1 := eg_sI g0 72 (σ.1 6) e
        let g2 := eg_sI g1 73 (σ.1 6) f
        let g3 := eg_sI g2 74 (σ.1 6) b
        let g4 := eg_sI g3 54 49 (nI (σ.1 6 + 1))
        have Q4 : eg_eq Ry h g4 := eq_sI (eq_sI (eq_sI (eq_sI (eq_sI eq_rfl rfl) rfl) rfl) rfl) rfl
        have v1 : eg_I g1 54 49 = nI (σ.1 6) := by show eg_I (eg_sI g0 72 (σ.1 6) e) 54 49 = _; rw [I_sI, if_neg (by omega)]; exact d1
        have v2 : eg_I g2 54 49 = nI (σ.1 6) := by show eg_I (eg_sI g1 73 (σ.1 6) f) 54 49 = _; rw [I_sI, if_neg (by omega)]; exact v1
        have v3 : eg_I g3 54 49 = nI (σ.1 6) := by show eg_I (eg_sI g2 74 (σ.1 6) b) 54 49 = _; rw [I_sI, if_neg (by omega)]; exact v2
        have v4 : eg_I g4 54 49 = nI (σ.1 6 + 1) := by show eg_I (eg_sI g3 54 49 _) 54 49 = _; rw [I_sI, if_pos ⟨rfl, rfl⟩]
        have R4 : RI g4 (st_row σ 6 4 e f b 0) := by
          refine RI_row R Q4 (W_wit R.2.1 gg hb) (fun j hj => if_neg (by omega)) (fun r hr => by funext k; exact if_neg (by omega)) ⟨v4, fun i hi => ?_⟩ ?_ ?_
          · have hi : i < σ.1 6 + 1 := hi
            obtain ⟨z0, z1, z2, _⟩ := rw4_0 (σ.2 4) (σ.1 6) e f b 0
            show eg_I (eg_sI (eg_sI (eg_sI (eg_sI g0 72 (σ.1 6) e) 73 (σ.1 6) f) 74 (σ.1 6) b) 54 49 (nI (σ.1 6 + 1))) 72 i = rw4 (σ.2 4) (σ.1 6) e f b 0 (4 * i) ∧ eg_I (eg_sI (eg_sI (eg_sI (eg_sI g0 72 (σ.1 6) e) 73 (σ.1 6) f) 74 (σ.1 6) b) 54 49 (nI (σ.1 6 + 1))) 73 i = rw4 (σ.2 4) (σ.1 6) e f b 0 (4 * i + 1) ∧ eg_I (eg_sI (eg_sI (eg_sI (eg_sI g0 72 (σ.1 6) e) 73 (σ.1 6) f) 74 (σ.1 6) b) 54 49 (nI (σ.1 6 + 1))) 74 i = rw4 (σ.2 4) (σ.1 6) e f b 0 (4 * i + 2)
            by_cases c : i = σ.1 6
            · subst c
              rw [z0, z1, z2]
              simp only [I_sI]
              simp
            · have := d2 i (by omega)
              rw [rw4_lo _ _ _ _ _ _ (by omega), rw4_lo _ _ _ _ _ _ (by omega), rw4_lo _ _ _ _ _ _ (by omega)]
              simp only [I_sI]
              simp [c]
              exact this
          · have := R0.2.2.2.2.2.2.2.1
            exact this
          · have := R0.2.2.2.2.2.2.2.2.1
            exact this
        refine ⟨g4, ?_, R4, Ry_rf Q4⟩
        have s1 : eg_stt g1 := s0
        have s2 : eg_stt g2 := s0
        have s3 : eg_stt g3 := s0
        have s4 : eg_stt g4 := s0
        rw [gR_54 s0, rf_54_46 s0, Option.bind_some, Option.bind_some, wI_72 s0 (nI_pos (by omega)) (by rw [hcl]; omega), hcl, Option.bind_some]
        show ((eg_gR g1 13 47 54).bind _) = _
        rw [gR_54 s1, rf_54_47 s1, Option.bind_some, gI_54 s1, Option.bind_some, v1, wI_73 s1 (nI_pos (by omega)) (by rw [hcl]; omega), hcl, Option.bind_some]
        show ((eg_gR g2 13 48 54).bind _) = _
        rw [gR_54 s2, rf_54_48 s2, Option.bind_some, gI_54 s2, Option.bind_some, v2, nar01 hb, wI_74 s2 (nI_pos (by omega)) (by rw [hcl]; omega), hcl, Option.bind_some]
        show ((eg_gI g3 13 49 54).bind _) = _
        rw [gI_54 s3, Option.bind_some, v3, nI_1, pI_54 s3, Option.bind_some]
        show ((eg_gI g4 13 49 54).bind _) = _
        rw [gI_54 s4, Option.bind_some, v4]
      · have gg : ¬ gWit σ e f := fun z => c3 z.2
        rw [if_pos (show nI (σ.1 6) = (20 : Int32) by rw [show σ.1 6 = 20 by omega]; rfl), if_neg gg, if_neg gg]
        exact ⟨_, rfl, ROk_scr R Q0⟩
    · have gg : ¬ gWit σ e f := fun z => c2 z.1.2
      rw [if_neg c2, if_neg gg, if_neg gg]
      exact ⟨_, rfl, ROk_scr R Q0⟩
  · have gg : ¬ gWit σ e f := fun z => c1 z.1.1
    rw [if_neg c1, if_neg gg, if_neg gg]
    exact ⟨_, rfl, ROk_scr R Q0⟩
end WI
