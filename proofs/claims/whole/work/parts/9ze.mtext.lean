theorem i88 (x : Int32) : (x.toInt8.toInt32).toInt8.toInt32 = x.toInt8.toInt32 := by rw [Int8.toInt8_toInt32]
theorem nI_kk (a b : Nat) : nI a * nI b = nI (a * b) := (Int32.ofNat_mul a b).symm
section MT
variable {h h' : eg_H} {σ : eg_S}
theorem M_faultF (R : RI h σ) (s : Int32) : ∃ h', fX13_fault h 54 s = some (aFault σ s, h') ∧ eg_eq Rx h h' ∧ (s = 0 → ∃ V, mdR (mdF (tT σ) (σ.1 0) 14 (skp (tT σ) (σ.1 0) 0) 0 0 0 V) (rMd σ) ∧ mdM (mdF (tT σ) (σ.1 0) 14 (skp (tT σ) (σ.1 0) 0) 0 0 0 V) h') ∧ (s = 2 → eg_I h' 54 33 = nI (fc (tT σ) (σ.1 0)) ∧ ∀ i, i < fc (tT σ) (σ.1 0) → eg_I h' 66 i = fr (tT σ) (σ.1 0) i) := by
  obtain ⟨R0, Q0⟩ := R_0 R
  have hs := R.1
  have s0 := R0.1
  have T0 := Tt_of R0
  unfold fX13_fault aFault
  rw [if_pos (iO_54 hs), pI_54 hs, Option.bind_some]
  show ∃ h', ((fX13_isIn (eg_sI h 54 0 0) s.toInt64 0 2).bind _) = _ ∧ _
  rw [M_GI (lo := 0) (hi := 2) _ s (by omega) (by omega) 0 2 rfl rfl, Option.bind_some]
  dsimp only
  rw [g01]
  by_cases c : GI (nI 0) (nI 2) s
  rotate_left
  · have n0 : ¬ s = 0 := fun z => c (by rw [z]; decide)
    have n1 : ¬ s = 1 := fun z => c (by rw [z]; decide)
    have n2 : ¬ s = 2 := fun z => c (by rw [z]; decide)
    rw [if_neg c, if_neg n0, if_neg n1, if_neg n2]
    exact ⟨_, rfl, Q0, fun z => absurd z n0, fun z => absurd z n2⟩
  rw [if_pos c]
  obtain ⟨k, _, k2, rfl⟩ := GI_n (by omega) (by omega) c
  unfold fX13_fault_j28
  rcases (by omega : k = 0 ∨ k = 1 ∨ k = 2) with rfl | rfl | rfl
  · obtain ⟨g, a, e1, E1, M1⟩ := M_readM T0
    have ag := md_agr (t := tT σ) (n := σ.1 0) 14 (skp (tT σ) (σ.1 0) 0) 0 0 0 (vUs 0 0 (vM (eg_sI h 54 0 0))) (vUs 0 0 (fun _ => 0)) (us_0 _ _)
    rw [mdR_A ag] at e1 E1
    have sq : eg_stt (mfi g a (mdA (rMd σ))) := eq_stt E1 s0 (by decide)
    refine ⟨mfi g a (mdA (rMd σ)), ?_, eq_tr Q0 (cov_sub (by decide) E1), fun _ => ⟨_, ag, ?_⟩, fun z => absurd z (by decide)⟩
    · rw [if_pos (by decide), if_pos (by decide), e1, Option.bind_some, if_neg (by decide), if_neg (by decide)]
      show ((eg_gI (mfi g a (mdA (rMd σ))) 13 11 54).bind _) = _
      rw [gI_54 sq, Option.bind_some]
      rfl
    · revert M1
      cases mdF (tT σ) (σ.1 0) 14 (skp (tT σ) (σ.1 0) 0) 0 0 0 (vUs 0 0 (vM (eg_sI h 54 0 0))) with
      | inl e => exact fun _ => trivial
      | inr q => exact fun M1 => M1
  · obtain ⟨g, e1, E1, v1, _⟩ := M_through (q := 55) (b := 0) (n := σ.1 0) (t := tT σ) (env := fun l => eg_I (eg_sI h 54 0 0) 58 (cd5 l)) (Or.inl rfl) (Tt_open T0) s0 T0.2.1 (fun _ _ => rfl)
    have sq : eg_stt g := eq_stt E1 s0 (by decide)
    refine ⟨g, ?_, eq_tr Q0 (cov_sub (by decide) E1), fun z => absurd z (by decide), fun z => absurd z (by decide)⟩
    have e1' : fX13_goThrough (eg_sI h 54 0 0) 54 55 0 (nI (σ.1 0)) = some g := e1
    rw [if_neg (show ¬ nI 1 = 0 by decide), if_pos (show nI 1 = 1 by decide), gR_54 s0, rf_54_1 s0, Option.bind_some, gI_54 s0, Option.bind_some, T0.2.2.1, e1', Option.bind_some, if_neg (show ¬ nI 1 = 2 by decide), gI_54 sq, Option.bind_some, v1, if_neg (show ¬ nI 1 = 0 by decide), if_pos (show nI 1 = 1 by decide)]
  · obtain ⟨g, a, e1, F1, E1⟩ := M_film T0
    have sq : eg_stt (mfi g a (flm (tT σ) (σ.1 0))) := eq_stt E1 s0 (by decide)
    refine ⟨mfi g a (flm (tT σ) (σ.1 0)), ?_, eq_tr Q0 (cov_sub (by decide) E1), fun z => absurd z (by decide), fun _ => ⟨F1.2.1, fun i hi => F1.2.2 i hi⟩⟩
    rw [if_neg (show ¬ nI 2 = 0 by decide), if_neg (show ¬ nI 2 = 1 by decide), if_pos (show nI 2 = 2 by decide), e1, Option.bind_some, gI_54 sq, Option.bind_some, if_neg (show ¬ nI 2 = 0 by decide), if_neg (show ¬ nI 2 = 1 by decide), if_pos (show nI 2 = 2 by decide)]
    rfl
theorem M_fault (R : RI h σ) (s : Int32) : ∃ h', fX13_fault h 54 s = some (aFault σ s, h') ∧ ROk h h' σ := by
  obtain ⟨h1, e1, E1, _⟩ := M_faultF R s
  exact ⟨h1, e1, ROk_scr R E1⟩
theorem M_tx_59 (hs : eg_stt h) : ∀ j i g F, i + j = 4 → j < F → eg_eq [(59, none)] h g → (∀ m, m < i → eg_I g 59 m = eg_I h 60 m) → ∃ g', fX13_text_L219 F g 54 (nI i) = some (54, g') ∧ eg_eq [(59, none)] h g' ∧ ∀ m, m < 4 → eg_I g' 59 m = eg_I h 60 m := by
  intro j
  induction j with
  | zero =>
    intro i g F hi hF Q H
    obtain ⟨F, rfl⟩ : ∃ F', F = F' + 1 := ⟨F - 1, by omega⟩
    obtain rfl : i = 4 := by omega
    exact ⟨g, by rw [fX13_text_L219, if_pos (by decide)], Q, H⟩
  | succ j ih =>
    intro i g F hi hF Q H
    obtain ⟨F, rfl⟩ : ∃ F', F = F' + 1 := ⟨F - 1, by omega⟩
    have sg : eg_stt g := eq_stt Q hs (by decide)
    have hcl : (nI i).toNatClampNeg = i := nI_clamp (by omega)
    rw [fX13_text_L219, if_neg (show ¬ (4 : Int32) ≤ nI i from nI_ge (b := 4) (by omega) (by omega)), gR_54 sg, rf_54_18 sg, Option.bind_some, gR_54 sg, rf_54_19 sg, Option.bind_some, aI_60 sg (nI_pos (by omega)) (by rw [hcl]; omega), hcl, Option.bind_some, (Q.2 60 i rfl).1, wI_59 sg (nI_pos (by omega)) (by rw [hcl]; omega), hcl, Option.bind_some, nI_1]
    exact ih (i + 1) (eg_sI g 59 i (eg_I h 60 i)) F (by omega) (by omega) (eq_sI Q (by rfl)) (fun m hm => by
      rw [I_sI]
      by_cases c : m = i
      · subst c; rw [if_pos ⟨rfl, rfl⟩]
      · rw [if_neg (fun z => c z.2)]; exact H m (by omega))
theorem M_tx_61 (hs : eg_stt h) : ∀ j i g F, i + j = 24 → j < F → eg_eq [(61, none)] h g → (∀ m, m < i → eg_I g 61 m = eg_I h 62 m) → ∃ g', fX13_text_L244 F g 54 (nI i) = some (54, g') ∧ eg_eq [(61, none)] h g' ∧ ∀ m, m < 24 → eg_I g' 61 m = eg_I h 62 m := by
  intro j
  induction j with
  | zero =>
    intro i g F hi hF Q H
    obtain ⟨F, rfl⟩ : ∃ F', F = F' + 1 := ⟨F - 1, by omega⟩
    obtain rfl : i = 24 := by omega
    exact ⟨g, by rw [fX13_text_L244, if_pos (by decide)], Q, H⟩
  | succ j ih =>
    intro i g F hi hF Q H
    obtain ⟨F, rfl⟩ : ∃ F', F = F' + 1 := ⟨F - 1, by omega⟩
    have sg : eg_stt g := eq_stt Q hs (by decide)
    have hcl : (nI i).toNatClampNeg = i := nI_clamp (by omega)
    rw [fX13_text_L244, if_neg (show ¬ (24 : Int32) ≤ nI i from nI_ge (b := 24) (by omega) (by omega)), gR_54 sg, rf_54_20 sg, Option.bind_some, gR_54 sg, rf_54_21 sg, Option.bind_some, aI_62 sg (nI_pos (by omega)) (by rw [hcl]; omega), hcl, Option.bind_some, (Q.2 62 i rfl).1, wI_61 sg (nI_pos (by omega)) (by rw [hcl]; omega), hcl, Option.bind_some, nI_1]
    exact ih (i + 1) (eg_sI g 61 i (eg_I h 62 i)) F (by omega) (by omega) (eq_sI Q (by rfl)) (fun m hm => by
      rw [I_sI]
      by_cases c : m = i
      · subst c; rw [if_pos ⟨rfl, rfl⟩]
      · rw [if_neg (fun z => c z.2)]; exact H m (by omega))
theorem M_tx_63 (hs : eg_stt h) : ∀ j i g F, i + j = 12 → j < F → eg_eq [(63, none)] h g → (∀ m, m < i → eg_I g 63 m = eg_I h 64 m) → ∃ g', fX13_text_L270 F g 54 (nI i) = some (54, g') ∧ eg_eq [(63, none)] h g' ∧ ∀ m, m < 12 → eg_I g' 63 m = eg_I h 64 m := by
  intro j
  induction j with
  | zero =>
    intro i g F hi hF Q H
    obtain ⟨F, rfl⟩ : ∃ F', F = F' + 1 := ⟨F - 1, by omega⟩
    obtain rfl : i = 12 := by omega
    exact ⟨g, by rw [fX13_text_L270, if_pos (by decide)], Q, H⟩
  | succ j ih =>
    intro i g F hi hF Q H
    obtain ⟨F, rfl⟩ : ∃ F', F = F' + 1 := ⟨F - 1, by omega⟩
    have sg : eg_stt g := eq_stt Q hs (by decide)
    have hcl : (nI i).toNatClampNeg = i := nI_clamp (by omega)
    rw [fX13_text_L270, if_neg (show ¬ (12 : Int32) ≤ nI i from nI_ge (b := 12) (by omega) (by omega)), gR_54 sg, rf_54_22 sg, Option.bind_some, gR_54 sg, rf_54_23 sg, Option.bind_some, aI_64 sg (nI_pos (by omega)) (by rw [hcl]; omega), hcl, Option.bind_some, (Q.2 64 i rfl).1, wI_63 sg (nI_pos (by omega)) (by rw [hcl]; omega), hcl, Option.bind_some, nI_1]
    exact ih (i + 1) (eg_sI g 63 i (eg_I h 64 i)) F (by omega) (by omega) (eq_sI Q (by rfl)) (fun m hm => by
      rw [I_sI]
      by_cases c : m = i
      · subst c; rw [if_pos ⟨rfl, rfl⟩]
      · rw [if_neg (fun z => c z.2)]; exact H m (by omega))
theorem M_txL {N n : Nat} (hs : eg_stt h) (hN : N < 4) (h7 : eg_I h 54 7 = nI N) (hn : n ≤ 160) {t : Nat → Int32} (ht : ∀ i, i < n → eg_I h 55 i = (t i).toInt8.toInt32) : ∀ j i g F, i + j = n → j < F → eg_eq [(56, none)] h g → (∀ k, ¬ (160 * N ≤ k ∧ k < 160 * N + n) → eg_I g 56 k = eg_I h 56 k) → (∀ m, m < i → eg_I g 56 (160 * N + m) = (t m).toInt8.toInt32) → ∃ g', fX13_text_L142 F g 54 (nI n) (nI i) = some (54, nI n, g') ∧ eg_eq [(56, none)] h g' ∧ (∀ k, ¬ (160 * N ≤ k ∧ k < 160 * N + n) → eg_I g' 56 k = eg_I h 56 k) ∧ ∀ m, m < n → eg_I g' 56 (160 * N + m) = (t m).toInt8.toInt32 := by
  intro j
  induction j with
  | zero =>
    intro i g F hi hF Q H1 H2
    obtain ⟨F, rfl⟩ : ∃ F', F = F' + 1 := ⟨F - 1, by omega⟩
    obtain rfl : i = n := by omega
    exact ⟨g, by rw [fX13_text_L142, if_pos (nI_le (Nat.le_refl _) (by omega))], Q, H1, H2⟩
  | succ j ih =>
    intro i g F hi hF Q H1 H2
    obtain ⟨F, rfl⟩ : ∃ F', F = F' + 1 := ⟨F - 1, by omega⟩
    have sg : eg_stt g := eq_stt Q hs (by decide)
    have hcl : (nI i).toNatClampNeg = i := nI_clamp (by omega)
    have hc2 : (nI (160 * N + i)).toNatClampNeg = 160 * N + i := nI_clamp (by omega)
    have v7 : eg_I g 54 7 = nI N := by rw [(Q.2 54 7 rfl).1]; exact h7
    have v55 : eg_I g 55 i = (t i).toInt8.toInt32 := by rw [(Q.2 55 i rfl).1]; exact ht i (by omega)
    rw [fX13_text_L142, if_neg (nI_ge (by omega) (by omega)), gR_54 sg, rf_54_2 sg, Option.bind_some, gI_54 sg, Option.bind_some, v7, gR_54 sg, rf_54_1 sg, Option.bind_some, aI_55 sg (nI_pos (by omega)) (by rw [hcl]; omega), hcl, Option.bind_some, v55, show (160 : Int32) = nI 160 from rfl, nI_kk, nI_add, wI_56 sg (nI_pos (by omega)) (by rw [hc2]; omega), hc2, Option.bind_some, nI_1, show vp_nar .byte (t i).toInt8.toInt32 = (t i).toInt8.toInt32 from i88 _]
    refine ih (i + 1) (eg_sI g 56 (160 * N + i) (t i).toInt8.toInt32) F (by omega) (by omega) (eq_sI Q (by rfl)) (fun k hk => ?_) (fun m hm => ?_)
    · rw [I_sI, if_neg (by omega)]; exact H1 k hk
    · rw [I_sI]
      by_cases c : m = i
      · subst c; rw [if_pos ⟨rfl, rfl⟩]
      · rw [if_neg (by omega)]; exact H2 m (by omega)
theorem M_txF {N n : Nat} (hs : eg_stt h) (hN : N < 4) (h7 : eg_I h 54 32 = nI N) (hn : n ≤ 24) (h3 : eg_I h 54 33 = nI n) : ∀ j i g F, i + j = n → j < F → eg_eq [(65, none)] h g → (∀ k, ¬ (24 * N ≤ k ∧ k < 24 * N + n) → eg_I g 65 k = eg_I h 65 k) → (∀ m, m < i → eg_I g 65 (24 * N + m) = eg_I h 66 m) → ∃ g', fX13_text_L71 F g 54 (nI i) = some (54, g') ∧ eg_eq [(65, none)] h g' ∧ (∀ k, ¬ (24 * N ≤ k ∧ k < 24 * N + n) → eg_I g' 65 k = eg_I h 65 k) ∧ ∀ m, m < n → eg_I g' 65 (24 * N + m) = eg_I h 66 m := by
  intro j
  induction j with
  | zero =>
    intro i g F hi hF Q H1 H2
    obtain ⟨F, rfl⟩ : ∃ F', F = F' + 1 := ⟨F - 1, by omega⟩
    obtain rfl : i = n := by omega
    have sg : eg_stt g := eq_stt Q hs (by decide)
    have v3 : eg_I g 54 33 = nI i := by rw [(Q.2 54 33 rfl).1]; exact h3
    exact ⟨g, by rw [fX13_text_L71, gI_54 sg, Option.bind_some, v3, if_pos (nI_le (Nat.le_refl _) (by omega))], Q, H1, H2⟩
  | succ j ih =>
    intro i g F hi hF Q H1 H2
    obtain ⟨F, rfl⟩ : ∃ F', F = F' + 1 := ⟨F - 1, by omega⟩
    have sg : eg_stt g := eq_stt Q hs (by decide)
    have hcl : (nI i).toNatClampNeg = i := nI_clamp (by omega)
    have hc2 : (nI (24 * N + i)).toNatClampNeg = 24 * N + i := nI_clamp (by omega)
    have v7 : eg_I g 54 32 = nI N := by rw [(Q.2 54 32 rfl).1]; exact h7
    have v3 : eg_I g 54 33 = nI n := by rw [(Q.2 54 33 rfl).1]; exact h3
    rw [fX13_text_L71, gI_54 sg, Option.bind_some, v3, if_neg (nI_ge (by omega) (by omega)), gR_54 sg, rf_54_29 sg, Option.bind_some, gI_54 sg, Option.bind_some, v7, gR_54 sg, rf_54_30 sg, Option.bind_some, aI_66 sg (nI_pos (by omega)) (by rw [hcl]; omega), hcl, Option.bind_some, (Q.2 66 i rfl).1, show (24 : Int32) = nI 24 from rfl, nI_kk, nI_add, wI_65 sg (nI_pos (by omega)) (by rw [hc2]; omega), hc2, Option.bind_some, nI_1]
    refine ih (i + 1) (eg_sI g 65 (24 * N + i) (eg_I h 66 i)) F (by omega) (by omega) (eq_sI Q (by rfl)) (fun k hk => ?_) (fun m hm => ?_)
    · rw [I_sI, if_neg (by omega)]; exact H1 k hk
    · rw [I_sI]
      by_cases c : m = i
      · subst c; rw [if_pos ⟨rfl, rfl⟩]
      · rw [if_neg (by omega)]; exact H2 m (by omega)
end MT
