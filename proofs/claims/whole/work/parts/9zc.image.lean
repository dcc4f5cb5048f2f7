section IR
variable {h h' : eg_H} {σ : eg_S} {B : Nat × Nat}
def Sim : List (Nat × Option Nat) := [(54, some 0), (90, none), (91, none), (92, none), (93, none), (54, some 77), (54, some 78)]
theorem M_im4 {U : Nat → Nat} (hs : eg_stt h) (H0 : ∀ m, m < 4 → eg_I h 59 m = nI (U m)) : ∀ j i g F, i + j = 4 → j < F → eg_eq [(90, none)] h g → (∀ m, m < i → eg_I g 90 m = nI (U m)) → ∃ g', fX13_image_L16 F g 54 (nI i) = some (54, g') ∧ eg_eq [(90, none)] h g' ∧ ∀ m, m < 4 → eg_I g' 90 m = nI (U m) := by
  intro j
  induction j with
  | zero =>
    intro i g F hi hF Q H
    obtain ⟨F, rfl⟩ : ∃ F', F = F' + 1 := ⟨F - 1, by omega⟩
    obtain rfl : i = 4 := by omega
    exact ⟨g, by rw [fX13_image_L16, if_pos (by decide)], Q, H⟩
  | succ j ih =>
    intro i g F hi hF Q H
    obtain ⟨F, rfl⟩ : ∃ F', F = F' + 1 := ⟨F - 1, by omega⟩
    have sg : eg_stt g := eq_stt Q hs (by decide)
    have hcl : (nI i).toNatClampNeg = i := nI_clamp (by omega)
    rw [fX13_image_L16, if_neg (show ¬ (4 : Int32) ≤ nI i from nI_ge (b := 4) (by omega) (by omega)), gR_54 sg, rf_54_73 sg, Option.bind_some, gR_54 sg, rf_54_18 sg, Option.bind_some, aI_59 sg (nI_pos (by omega)) (by rw [hcl]; omega), hcl, Option.bind_some, (Q.2 59 i rfl).1, H0 i (by omega), wI_90 sg (nI_pos (by omega)) (by rw [hcl]; omega), hcl, Option.bind_some, nI_1]
    exact ih (i + 1) (eg_sI g 90 i (nI (U i))) F (by omega) (by omega) (eq_sI Q (by rfl)) (fun m hm => by
      rw [I_sI]
      by_cases c : m = i
      · subst c; rw [if_pos ⟨rfl, rfl⟩]
      · rw [if_neg (fun z => c z.2)]; exact H m (by omega))
theorem M_image_40 (hs : eg_stt h) : ∀ j i g F, i + j = 40 → j < F → eg_eq [(91, none), (92, none), (93, none)] h g → (∀ m, m < i → eg_I g 91 m = eg_I h 87 m ∧ eg_I g 92 m = eg_I h 88 m ∧ eg_I g 93 m = eg_I h 89 m) → ∃ g', fX13_image_L41 F g 54 (nI i) = some (54, g') ∧ eg_eq [(91, none), (92, none), (93, none)] h g' ∧ ∀ m, m < 40 → eg_I g' 91 m = eg_I h 87 m ∧ eg_I g' 92 m = eg_I h 88 m ∧ eg_I g' 93 m = eg_I h 89 m := by
  intro j
  induction j with
  | zero =>
    intro i g F hi hF Q H
    obtain ⟨F, rfl⟩ : ∃ F', F = F' + 1 := ⟨F - 1, by omega⟩
    obtain rfl : i = 40 := by omega
    exact ⟨g, by rw [fX13_image_L41, if_pos (by decide)], Q, H⟩
  | succ j ih =>
    intro i g F hi hF Q H
    obtain ⟨F, rfl⟩ : ∃ F', F = F' + 1 := ⟨F - 1, by omega⟩
    have sg : eg_stt g := eq_stt Q hs (by decide)
    have hcl : (nI i).toNatClampNeg = i := nI_clamp (by omega)
    let g1 := eg_sI g 91 i (eg_I h 87 i)
    have s1 : eg_stt g1 := sg
    let g2 := eg_sI g1 92 i (eg_I h 88 i)
    have s2 : eg_stt g2 := sg
    let g3 := eg_sI g2 93 i (eg_I h 89 i)
    have v2 : eg_I g1 88 i = eg_I h 88 i := by
      show eg_I (eg_sI g 91 i (eg_I h 87 i)) 88 i = _
      rw [I_sI, if_neg (by omega)]; exact (Q.2 88 i rfl).1
    have v3 : eg_I g2 89 i = eg_I h 89 i := by
      show eg_I (eg_sI (eg_sI g 91 i (eg_I h 87 i)) 92 i (eg_I h 88 i)) 89 i = _
      rw [I_sI, if_neg (by omega), I_sI, if_neg (by omega)]; exact (Q.2 89 i rfl).1
    have Q3 : eg_eq [(91, none), (92, none), (93, none)] h g3 := eq_sI (eq_sI (eq_sI Q (by rfl)) (by rfl)) (by rfl)
    rw [fX13_image_L41, if_neg (show ¬ (40 : Int32) ≤ nI i from nI_ge (b := 40) (by omega) (by omega)), gR_54 sg, rf_54_74 sg, Option.bind_some, gR_54 sg, rf_54_69 sg, Option.bind_some, aI_87 sg (nI_pos (by omega)) (by rw [hcl]; omega), hcl, Option.bind_some, (Q.2 87 i rfl).1, wI_91 sg (nI_pos (by omega)) (by rw [hcl]; omega), hcl, Option.bind_some]
    show ∃ g', ((eg_gR g1 13 75 54).bind _) = _ ∧ _
    rw [gR_54 s1, rf_54_75 s1, Option.bind_some, gR_54 s1, rf_54_70 s1, Option.bind_some, aI_88 s1 (nI_pos (by omega)) (by rw [hcl]; omega), hcl, Option.bind_some, v2, wI_92 s1 (nI_pos (by omega)) (by rw [hcl]; omega), hcl, Option.bind_some]
    show ∃ g', ((eg_gR g2 13 76 54).bind _) = _ ∧ _
    rw [gR_54 s2, rf_54_76 s2, Option.bind_some, gR_54 s2, rf_54_71 s2, Option.bind_some, aI_89 s2 (nI_pos (by omega)) (by rw [hcl]; omega), hcl, Option.bind_some, v3, wI_93 s2 (nI_pos (by omega)) (by rw [hcl]; omega), hcl, Option.bind_some, nI_1]
    refine ih (i + 1) g3 F (by omega) (by omega) Q3 (fun m hm => ?_)
    show eg_I (eg_sI (eg_sI (eg_sI g 91 i (eg_I h 87 i)) 92 i (eg_I h 88 i)) 93 i (eg_I h 89 i)) 91 m = _ ∧ eg_I (eg_sI (eg_sI (eg_sI g 91 i (eg_I h 87 i)) 92 i (eg_I h 88 i)) 93 i (eg_I h 89 i)) 92 m = _ ∧ eg_I (eg_sI (eg_sI (eg_sI g 91 i (eg_I h 87 i)) 92 i (eg_I h 88 i)) 93 i (eg_I h 89 i)) 93 m = _
    by_cases c : m = i
    · subst c
      simp only [I_sI]
      simp
    · simp only [I_sI]
      simp [c]
      exact H m (by omega)
theorem M_back_40 (hs : eg_stt h) : ∀ j i g F, i + j = 40 → j < F → eg_eq [(87, none), (88, none), (89, none)] h g → (∀ m, m < i → eg_I g 87 m = eg_I h 91 m ∧ eg_I g 88 m = eg_I h 92 m ∧ eg_I g 89 m = eg_I h 93 m) → ∃ g', fX13_back_L41 F g 54 (nI i) = some (54, g') ∧ eg_eq [(87, none), (88, none), (89, none)] h g' ∧ ∀ m, m < 40 → eg_I g' 87 m = eg_I h 91 m ∧ eg_I g' 88 m = eg_I h 92 m ∧ eg_I g' 89 m = eg_I h 93 m := by
  intro j
  induction j with
  | zero =>
    intro i g F hi hF Q H
    obtain ⟨F, rfl⟩ : ∃ F', F = F' + 1 := ⟨F - 1, by omega⟩
    obtain rfl : i = 40 := by omega
    exact ⟨g, by rw [fX13_back_L41, if_pos (by decide)], Q, H⟩
  | succ j ih =>
    intro i g F hi hF Q H
    obtain ⟨F, rfl⟩ : ∃ F', F = F' + 1 := ⟨F - 1, by omega⟩
    have sg : eg_stt g := eq_stt Q hs (by decide)
    have hcl : (nI i).toNatClampNeg = i := nI_clamp (by omega)
    let g1 := eg_sI g 87 i (eg_I h 91 i)
    have s1 : eg_stt g1 := sg
    let g2 := eg_sI g1 88 i (eg_I h 92 i)
    have s2 : eg_stt g2 := sg
    let g3 := eg_sI g2 89 i (eg_I h 93 i)
    have v2 : eg_I g1 92 i = eg_I h 92 i := by
      show eg_I (eg_sI g 87 i (eg_I h 91 i)) 92 i = _
      rw [I_sI, if_neg (by omega)]; exact (Q.2 92 i rfl).1
    have v3 : eg_I g2 93 i = eg_I h 93 i := by
      show eg_I (eg_sI (eg_sI g 87 i (eg_I h 91 i)) 88 i (eg_I h 92 i)) 93 i = _
      rw [I_sI, if_neg (by omega), I_sI, if_neg (by omega)]; exact (Q.2 93 i rfl).1
    have Q3 : eg_eq [(87, none), (88, none), (89, none)] h g3 := eq_sI (eq_sI (eq_sI Q (by rfl)) (by rfl)) (by rfl)
    rw [fX13_back_L41, if_neg (show ¬ (40 : Int32) ≤ nI i from nI_ge (b := 40) (by omega) (by omega)), gR_54 sg, rf_54_69 sg, Option.bind_some, gR_54 sg, rf_54_74 sg, Option.bind_some, aI_91 sg (nI_pos (by omega)) (by rw [hcl]; omega), hcl, Option.bind_some, (Q.2 91 i rfl).1, wI_87 sg (nI_pos (by omega)) (by rw [hcl]; omega), hcl, Option.bind_some]
    show ∃ g', ((eg_gR g1 13 70 54).bind _) = _ ∧ _
    rw [gR_54 s1, rf_54_70 s1, Option.bind_some, gR_54 s1, rf_54_75 s1, Option.bind_some, aI_92 s1 (nI_pos (by omega)) (by rw [hcl]; omega), hcl, Option.bind_some, v2, wI_88 s1 (nI_pos (by omega)) (by rw [hcl]; omega), hcl, Option.bind_some]
    show ∃ g', ((eg_gR g2 13 71 54).bind _) = _ ∧ _
    rw [gR_54 s2, rf_54_71 s2, Option.bind_some, gR_54 s2, rf_54_76 s2, Option.bind_some, aI_93 s2 (nI_pos (by omega)) (by rw [hcl]; omega), hcl, Option.bind_some, v3, wI_89 s2 (nI_pos (by omega)) (by rw [hcl]; omega), hcl, Option.bind_some, nI_1]
    refine ih (i + 1) g3 F (by omega) (by omega) Q3 (fun m hm => ?_)
    show eg_I (eg_sI (eg_sI (eg_sI g 87 i (eg_I h 91 i)) 88 i (eg_I h 92 i)) 89 i (eg_I h 93 i)) 87 m = _ ∧ eg_I (eg_sI (eg_sI (eg_sI g 87 i (eg_I h 91 i)) 88 i (eg_I h 92 i)) 89 i (eg_I h 93 i)) 88 m = _ ∧ eg_I (eg_sI (eg_sI (eg_sI g 87 i (eg_I h 91 i)) 88 i (eg_I h 92 i)) 89 i (eg_I h 93 i)) 89 m = _
    by_cases c : m = i
    · subst c
      simp only [I_sI]
      simp
    · simp only [I_sI]
      simp [c]
      exact H m (by omega)
theorem M_image (R : RI h σ) : ∃ h', fX13_image h 54 = some (aImage σ, h') ∧ ROk h h' (sImage σ) := by
  obtain ⟨R0, Q0⟩ := R_0 R
  have hs := R.1
  have s0 := R0.1
  have hP := RI_P R
  have h40 := R.2.1.2.2.2.2.2.2.1
  unfold fX13_image aImage sImage
  rw [if_pos (iO_54 hs), pI_54 hs, Option.bind_some, gI_54 s0, Option.bind_some, R0.2.2.2.1.2.2.2.1]
  by_cases c1 : sP σ = 0
  · rw [if_pos (show nI (sP σ) = 0 by rw [c1]; rfl), if_pos c1, if_pos c1]; exact ⟨_, rfl, ROk_scr R Q0⟩
  rw [if_neg (nI_ne0 (by omega) (by omega)), if_neg c1, if_neg c1]
  obtain ⟨h1, e1, E1, H1⟩ := M_im4 (U := sU σ) s0 R0.2.2.2.1.1 4 0 (eg_sI h 54 0 0) eg_F (by omega) (by rw [eg_F_eq]; omega) eq_rfl (fun m hm => by omega)
  have e1' : fX13_image_L16 eg_F (eg_sI h 54 0 0) 54 0 = some (54, h1) := e1
  have s1 : eg_stt h1 := eq_stt E1 s0 (by decide)
  obtain ⟨h2, e2, E2, H2⟩ := M_image_40 s1 40 0 h1 eg_F (by omega) (by rw [eg_F_eq]; omega) eq_rfl (fun m hm => by omega)
  have e2' : fX13_image_L41 eg_F h1 54 0 = some (54, h2) := e2
  have s2 : eg_stt h2 := eq_stt E2 s1 (by decide)
  obtain ⟨_, W, t, v, lb, f, w, m, g, i', j⟩ := R
  have E02 : eg_eq Sim h h2 := eq_tr (eq_sI eq_rfl rfl) (eq_tr (cov_sub (by decide) E1) (cov_sub (by decide) E2))
  have v72 : eg_I h2 54 72 = nI (σ.1 8) := by rw [(E02.2 54 72 rfl).1]; exact g.1
  let h3 := eg_sI h2 54 77 (nI (σ.1 8))
  let h4 := eg_sI h3 54 78 1
  have s3 : eg_stt h3 := s2
  have s4 : eg_stt h4 := s2
  have E4 : eg_eq Sim h h4 := eq_sI (eq_sI E02 rfl) rfl
  have t' : tapeM σ h4 := tapeM_e E4 ⟨rfl, fun _ => rfl⟩ t
  have v' : RV h4 (sU σ) (sP σ) (sE σ) := RV_e E4 ⟨⟨rfl, rfl⟩, fun _ => ⟨rfl, rfl, rfl⟩⟩ v
  have f' : RBf h4 σ := RBf_e E4 ⟨rfl, fun _ => ⟨rfl, rfl⟩⟩ f
  have w' : RBw h4 σ := RBw_e E4 ⟨rfl, fun _ => ⟨rfl, rfl, rfl⟩⟩ w
  have m' : RBm h4 σ := RBm_e E4 ⟨rfl, fun _ => ⟨rfl, rfl, rfl, rfl⟩⟩ m
  have g' : RBg h4 σ := RBg_e E4 ⟨rfl, fun _ => ⟨rfl, rfl, rfl⟩⟩ g
  have l' : RBl h4 σ := RBl_e E4 ⟨⟨rfl, rfl⟩, fun _ => ⟨rfl, rfl⟩⟩ lb
  have q4 : ∀ p k, ¬ p = 54 → eg_I h4 p k = eg_I h2 p k := fun p k hp => by
    show eg_I (eg_sI (eg_sI h2 54 77 _) 54 78 1) p k = _
    rw [I_sI, if_neg (fun z => hp z.1), I_sI, if_neg (fun z => hp z.1)]
  have i4 : RBh h4 (stI σ) := by
    refine ⟨?_, fun k hk => ?_⟩
    · show eg_I (eg_sI (eg_sI h2 54 77 (nI (σ.1 8))) 54 78 1) 54 77 = nI (σ.1 8)
      rw [I_sI, if_neg (by omega), I_sI, if_pos ⟨rfl, rfl⟩]
    · have hk : k < σ.1 8 := hk
      obtain ⟨z1, z2, z3⟩ := H2 k (by omega)
      rw [q4 91 k (by omega), q4 92 k (by omega), q4 93 k (by omega), z1, z2, z3]
      show eg_I h1 87 k = σ.2 6 (4 * k) ∧ eg_I h1 88 k = σ.2 6 (4 * k + 1) ∧ eg_I h1 89 k = σ.2 6 (4 * k + 2)
      rw [(E1.2 87 k rfl).1, (E1.2 88 k rfl).1, (E1.2 89 k rfl).1]
      exact g.2 k hk
  have hU := (W.2.1.2.2.2 (by omega)).2.2
  have j4 : RBj h4 (stI σ) := by
    refine ⟨by show eg_I (eg_sI h3 54 78 1) 54 78 = nI 1; rw [I_sI, if_pos ⟨rfl, rfl⟩]; rfl, fun k hk _ => ?_⟩
    show eg_I h4 90 k = nI (dN (nI (sU σ k)))
    have hb : sU σ k < 2 ^ 31 := by
      obtain ⟨a1, a2, a3, a4, a5, a6, a7, a8⟩ := hU.1
      rcases (by omega : k = 0 ∨ k = 1 ∨ k = 2 ∨ k = 3) with rfl | rfl | rfl | rfl <;> omega
    rw [q4 90 k (by omega), (E2.2 90 k rfl).1, H1 k hk, dN_n hb]
  refine ⟨h4, ?_, RI_in s4 (W_image W c1) t' v' l' f' w' m' g' i4 j4, eq_rfS E4 (by decide)⟩
  rw [e1', Option.bind_some]
  dsimp only
  rw [e2', Option.bind_some]
  dsimp only
  rw [gI_54 s2, Option.bind_some, v72, pI_54 s2, Option.bind_some]
  show ((eg_pZ h3 13 78 54 1).bind _) = _
  rw [pZ_54 s3 (Or.inr rfl), Option.bind_some]
  show ((eg_gI h4 13 72 54).bind _) = _
  have v724 : eg_I h4 54 72 = nI (σ.1 8) := by
    show eg_I (eg_sI (eg_sI h2 54 77 _) 54 78 1) 54 72 = _
    rw [I_sI, if_neg (by omega), I_sI, if_neg (by omega)]; exact v72
  rw [gI_54 s4, Option.bind_some, v724]
def Sba : List (Nat × Option Nat) := [(54, some 0), (59, none), (87, none), (88, none), (89, none), (54, some 72)]
theorem M_ba4 {U : Nat → Nat} (hs : eg_stt h) (H0 : ∀ m, m < 4 → eg_I h 90 m = nI (U m)) : ∀ j i g F, i + j = 4 → j < F → eg_eq [(59, none)] h g → (∀ m, m < i → eg_I g 59 m = nI (U m)) → ∃ g', fX13_back_L16 F g 54 (nI i) = some (54, g') ∧ eg_eq [(59, none)] h g' ∧ ∀ m, m < 4 → eg_I g' 59 m = nI (U m) := by
  intro j
  induction j with
  | zero =>
    intro i g F hi hF Q H
    obtain ⟨F, rfl⟩ : ∃ F', F = F' + 1 := ⟨F - 1, by omega⟩
    obtain rfl : i = 4 := by omega
    exact ⟨g, by rw [fX13_back_L16, if_pos (by decide)], Q, H⟩
  | succ j ih =>
    intro i g F hi hF Q H
    obtain ⟨F, rfl⟩ : ∃ F', F = F' + 1 := ⟨F - 1, by omega⟩
    have sg : eg_stt g := eq_stt Q hs (by decide)
    have hcl : (nI i).toNatClampNeg = i := nI_clamp (by omega)
    rw [fX13_back_L16, if_neg (show ¬ (4 : Int32) ≤ nI i from nI_ge (b := 4) (by omega) (by omega)), gR_54 sg, rf_54_18 sg, Option.bind_some, gR_54 sg, rf_54_73 sg, Option.bind_some, aI_90 sg (nI_pos (by omega)) (by rw [hcl]; omega), hcl, Option.bind_some, (Q.2 90 i rfl).1, H0 i (by omega), wI_59 sg (nI_pos (by omega)) (by rw [hcl]; omega), hcl, Option.bind_some, nI_1]
    exact ih (i + 1) (eg_sI g 59 i (nI (U i))) F (by omega) (by omega) (eq_sI Q (by rfl)) (fun m hm => by
      rw [I_sI]
      by_cases c : m = i
      · subst c; rw [if_pos ⟨rfl, rfl⟩]
      · rw [if_neg (fun z => c z.2)]; exact H m (by omega))
theorem M_back (R : RI h σ) : ∃ h', fX13_back h 54 = some (aBack σ, h') ∧ ROk h h' (sBack σ) := by
  obtain ⟨R0, Q0⟩ := R_0 R
  have hs := R.1
  have s0 := R0.1
  have hP := RI_P R
  have h40 := R.2.1.2.2.2.2.2.2.2.1
  have h10 := R.2.1.2.2.2.2.2.2.2.2.1
  have j0 := R0.2.2.2.2.2.2.2.2.2.2
  unfold fX13_back aBack sBack
  rw [if_pos (iO_54 hs), pI_54 hs, Option.bind_some, gI_54 s0, Option.bind_some, j0.1]
  by_cases c1 : σ.1 10 = 0
  · rw [if_pos (show nI (σ.1 10) = 0 by rw [c1]; rfl), if_pos c1, if_pos c1]; exact ⟨_, rfl, ROk_scr R Q0⟩
  rw [if_neg (nI_ne0 (by omega) (by omega)), if_neg c1, if_neg c1]
  have c10 : σ.1 10 = 1 := by omega
  obtain ⟨h1, e1, E1, H1⟩ := M_ba4 (U := fun m => dN (σ.2 8 m)) s0 (fun m hm => j0.2 m hm c10) 4 0 (eg_sI h 54 0 0) eg_F (by omega) (by rw [eg_F_eq]; omega) eq_rfl (fun m hm => by omega)
  have e1' : fX13_back_L16 eg_F (eg_sI h 54 0 0) 54 0 = some (54, h1) := e1
  have s1 : eg_stt h1 := eq_stt E1 s0 (by decide)
  obtain ⟨h2, e2, E2, H2⟩ := M_back_40 s1 40 0 h1 eg_F (by omega) (by rw [eg_F_eq]; omega) eq_rfl (fun m hm => by omega)
  have e2' : fX13_back_L41 eg_F h1 54 0 = some (54, h2) := e2
  have s2 : eg_stt h2 := eq_stt E2 s1 (by decide)
  obtain ⟨_, W, t, v, lb, f, w, m, g, i', j⟩ := R
  have E02 : eg_eq Sba h h2 := eq_tr (eq_sI eq_rfl rfl) (eq_tr (cov_sub (by decide) E1) (cov_sub (by decide) E2))
  have v77 : eg_I h2 54 77 = nI (σ.1 9) := by rw [(E02.2 54 77 rfl).1]; exact i'.1
  let h3 := eg_sI h2 54 72 (nI (σ.1 9))
  have s3 : eg_stt h3 := s2
  have E4 : eg_eq Sba h h3 := eq_sI E02 rfl
  have t' : tapeM σ h3 := tapeM_e E4 ⟨rfl, fun _ => rfl⟩ t
  have f' : RBf h3 σ := RBf_e E4 ⟨rfl, fun _ => ⟨rfl, rfl⟩⟩ f
  have w' : RBw h3 σ := RBw_e E4 ⟨rfl, fun _ => ⟨rfl, rfl, rfl⟩⟩ w
  have m' : RBm h3 σ := RBm_e E4 ⟨rfl, fun _ => ⟨rfl, rfl, rfl, rfl⟩⟩ m
  have i3' : RBh h3 σ := RBh_e E4 ⟨rfl, fun _ => ⟨rfl, rfl, rfl⟩⟩ i'
  have j' : RBj h3 σ := RBj_e E4 ⟨rfl, fun _ => rfl⟩ j
  have l' : RBl h3 σ := RBl_e E4 ⟨⟨rfl, rfl⟩, fun _ => ⟨rfl, rfl⟩⟩ lb
  have q4 : ∀ p k, ¬ p = 54 → eg_I h3 p k = eg_I h2 p k := fun p k hp => by
    show eg_I (eg_sI h2 54 72 _) p k = _
    rw [I_sI, if_neg (fun z => hp z.1)]
  obtain ⟨b1, bb2, bb3, bb4, bb5, bb6, bb7⟩ := W.2.2.2.2.2.2.2.2.2 c10
  have e4 : ∀ x, x < 4 → sU (stB σ) x = dN (nI (dN (σ.2 8 x))) := fun x hx => by
    show dN (if x < 4 then _ else _) = _
    rw [if_pos hx]
  have e5 : ∀ x, 4 ≤ x → sU (stB σ) x = sU σ x := fun x hx => by
    show dN (if x < 4 then _ else _) = _
    rw [if_neg (by omega)]
    rfl
  have v' : RV h3 (sU (stB σ)) (sP σ) (sE σ) := by
    refine ⟨fun x hx => ?_, fun x hx => ?_, fun x hx => ?_, ?_, ?_⟩
    · rw [q4 59 x (by omega), (E2.2 59 x rfl).1, H1 x hx, e4 x hx]
      have hb : dN (σ.2 8 x) < 2 ^ 31 := by rcases (by omega : x = 0 ∨ x = 1 ∨ x = 2 ∨ x = 3) with rfl | rfl | rfl | rfl <;> omega
      rw [dN_n hb]
    · rw [(E4.2 61 x rfl).1, e5 _ (by omega)]; exact v.2.1 x hx
    · rw [(E4.2 63 x rfl).1, e5 _ (by omega)]; exact v.2.2.1 x hx
    · rw [(E4.2 54 24 rfl).1]; exact v.2.2.2.1
    · rw [(E4.2 54 26 rfl).1]; exact v.2.2.2.2
  have g' : RBg h3 (stB σ) := by
    refine ⟨by show eg_I (eg_sI h2 54 72 (nI (σ.1 9))) 54 72 = nI (σ.1 9); rw [I_sI, if_pos ⟨rfl, rfl⟩], fun k hk => ?_⟩
    have hk : k < σ.1 9 := hk
    obtain ⟨z1, z2, z3⟩ := H2 k (by omega)
    rw [q4 87 k (by omega), q4 88 k (by omega), q4 89 k (by omega), z1, z2, z3]
    show eg_I h1 91 k = σ.2 7 (4 * k) ∧ eg_I h1 92 k = σ.2 7 (4 * k + 1) ∧ eg_I h1 93 k = σ.2 7 (4 * k + 2)
    rw [(E1.2 91 k rfl).1, (E1.2 92 k rfl).1, (E1.2 93 k rfl).1]
    exact i'.2 k hk
  refine ⟨h3, ?_, RI_in s3 (W_back W c10) t' v' l' f' w' m' g' i3' j', eq_rfS E4 (by decide)⟩
  rw [e1', Option.bind_some]
  dsimp only
  rw [e2', Option.bind_some]
  dsimp only
  rw [gI_54 s2, Option.bind_some, v77, pI_54 s2, Option.bind_some]
  show ((eg_gI h3 13 72 54).bind _) = _
  have v72 : eg_I h3 54 72 = nI (σ.1 9) := g'.1
  rw [gI_54 s3, Option.bind_some, v72]
abbrev gPer (σ : eg_S) (p w : Int32) : Prop := G1 (sP σ) p ∧ GI (nI 0) (nI 3) w
def aPer (σ : eg_S) (p w : Int32) : Int32 := if gPer σ p w then nI (sU σ (4 + 4 * dN p + dN w)) else 0
theorem M_person (R : RI h σ) (p w : Int32) : ∃ h', fX13_person h 54 p w = some (aPer σ p w, h') ∧ ROk h h' σ ∧ eg_I h' 54 0 = if gPer σ p w then 0 else 1 := by
  have hs := R.1
  have hP := RI_P R
  have no : ∃ h', fX13_person_j25 h 54 p w 54 = some (0, h') ∧ ROk h h' σ ∧ eg_I h' 54 0 = 1 := by
    unfold fX13_person_j25 fX13_person_j26
    have s1 : eg_stt (eg_sI h 54 0 1) := hs
    have Q : eg_eq Rx h (eg_sI h 54 0 1) := eq_sI eq_rfl rfl
    refine ⟨eg_sI h 54 0 1, ?_, ROk_scr R Q, by rw [I_sI, if_pos ⟨rfl, rfl⟩]⟩
    rw [pI_54 hs, Option.bind_some]
    show ((eg_gI (eg_sI h 54 0 1) 13 0 54).bind _) = _
    rw [gI_54 s1, Option.bind_some, show eg_I (eg_sI h 54 0 1) 54 0 = 1 by rw [I_sI, if_pos ⟨rfl, rfl⟩], if_neg (by decide)]
  unfold fX13_person aPer
  rw [if_pos (iO_54 hs), M_isPerson hs R.2.2.2.1 p, Option.bind_some]
  dsimp only
  rw [g01]
  by_cases c1 : G1 (sP σ) p
  rotate_left
  · have gg : ¬ gPer σ p w := fun z => c1 z.1
    rw [if_neg c1, if_neg gg, if_neg gg]; exact no
  rw [if_pos c1, M_GI (lo := 0) (hi := 3) _ w (by omega) (by omega) 0 3 rfl rfl, Option.bind_some]
  dsimp only
  rw [g01]
  by_cases c2 : GI (nI 0) (nI 3) w
  rotate_left
  · have gg : ¬ gPer σ p w := fun z => c2 z.2
    rw [if_neg c2, if_neg gg, if_neg gg]; exact no
  have gg : gPer σ p w := ⟨c1, c2⟩
  rw [if_pos c2, if_pos gg, if_pos gg]
  obtain ⟨n, hn, rfl⟩ := G1_n (by omega) c1
  obtain ⟨k, k1, k2, rfl⟩ := GI_n (by omega) (by omega) c2
  obtain ⟨R0, Q0⟩ := R_0 R
  have s0 := R0.1
  have O := RI_RO R0 (by omega)
  refine ⟨eg_sI h 54 0 0, ?_, ROk_scr R Q0, by rw [I_sI, if_pos ⟨rfl, rfl⟩]⟩
  unfold fX13_person_j26
  rw [pI_54 hs, Option.bind_some]
  show ((eg_gI (eg_sI h 54 0 0) 13 0 54).bind _) = _
  rw [gI_54 s0, Option.bind_some, show eg_I (eg_sI h 54 0 0) 54 0 = 0 by rw [I_sI, if_pos ⟨rfl, rfl⟩], if_pos (by decide)]
  show ((eg_gR (eg_sI h 54 0 0) 13 20 54).bind _) = _
  rw [gR_54 s0, rf_54_20 s0, Option.bind_some, nI_k4, nI_add, R_per O (by omega), Option.bind_some, dN_n (by omega), dN_n (by omega), show 4 + (4 * n + k) = 4 + 4 * n + k by omega]
end IR
def tT (σ : eg_S) : Nat → Int32 := fun i => if i < 160 then σ.2 0 i else 0
def rMd (σ : eg_S) : Nat ⊕ (Nat × Nat × (Nat → Int32)) := mdF (tT σ) (σ.1 0) 14 (skp (tT σ) (σ.1 0) 0) 0 0 0 (vUs 0 0 (fun _ => 0))
def aFault (σ : eg_S) (s : Int32) : Int32 := if s = 0 then mdA (rMd σ) else if s = 1 then lwA (pLaw (tT σ) (σ.1 0)) else if s = 2 then flm (tT σ) (σ.1 0) else -2
section FA
variable {h h' : eg_H} {σ : eg_S} {B : Nat × Nat}
theorem Tp_of (X : XI h σ B) : Tp (σ.1 0) (tT σ) h := by
  have h160 := X.1.1.1
  refine ⟨X.2.2.1.1, h160, X.2.1.1, fun i hi => ?_⟩
  show _ = if i < 160 then _ else _
  rw [if_pos (by omega)]
  exact X.2.1.2 i hi
theorem byt_T (W : tapeB σ) : byt (σ.1 0) (tT σ) := fun i hi => by
  have := W.1
  show ∃ b, 1 ≤ b ∧ b < 256 ∧ (if i < 160 then _ else _) = nI b
  rw [if_pos (by omega)]
  exact W.2 i hi
theorem Tt_of (R : RI h σ) : Tt (σ.1 0) (tT σ) h := by
  have h160 := R.2.1.1.1
  refine ⟨R.1, h160, R.2.2.1.1, byt_T R.2.1.1, fun i hi => ?_⟩
  show _ = (if i < 160 then _ else _ : Int32).toInt8.toInt32
  rw [if_pos (by omega)]
  exact R.2.2.1.2 i hi
theorem fin_S (g : eg_H) (a s w : Int32) : eg_eq [(17, some 2), (17, some 3), (17, some 4)] g (fin g a s w) := ⟨rfl, fun p i hc => ⟨by
  show (if p = 17 ∧ i = 2 then a else if p = 17 ∧ i = 3 then s else if p = 17 ∧ i = 4 then w else g.2.1 p i) = g.2.1 p i
  by_cases c : p = 17
  · subst c
    have h2 : ¬ i = 2 := fun z => by subst z; cases hc
    have h3 : ¬ i = 3 := fun z => by subst z; cases hc
    have h4 : ¬ i = 4 := fun z => by subst z; cases hc
    rw [if_neg (fun z => h2 z.2), if_neg (fun z => h3 z.2), if_neg (fun z => h4 z.2)]
  · rw [if_neg (fun z => c z.1), if_neg (fun z => c z.1), if_neg (fun z => c z.1)], rfl, rfl⟩⟩
theorem us_0 (V V' : Nat → Int32) : ∀ x, tol 0 0 x → vUs 0 0 V x = vUs 0 0 V' x := by
  intro x hx
  have hx4 : x < 4 := by unfold tol at hx; omega
  unfold vUs
  rw [if_pos (by unfold kC; simp; omega), if_pos (by unfold kC; simp; omega)]
theorem X_rdM (X : XI h σ B) : ∃ h' V, fX8_read h 19 = some (mdA (rMd σ), h') ∧ XOk h h' σ B ∧ mdR (mdF (tT σ) (σ.1 0) 14 (skp (tT σ) (σ.1 0) 0) 0 0 0 V) (rMd σ) ∧ mdX (mdF (tT σ) (σ.1 0) 14 (skp (tT σ) (σ.1 0) 0) 0 0 0 V) h' := by
  obtain ⟨g, a, s, w, e1, E1, M1⟩ := X_readM (Tp_of X)
  have ag := md_agr (t := tT σ) (n := σ.1 0) 14 (skp (tT σ) (σ.1 0) 0) 0 0 0 (vUs 0 0 (eg_I h 20)) (vUs 0 0 (fun _ => 0)) (us_0 _ _)
  have O := XOk_low X (eq_tr (cov_sub (S' := [(20, none), (19, some 2), (19, some 3), (19, some 4), (17, some 2), (17, some 3), (17, some 4)]) (by decide) E1) (cov_sub (by decide) (fin_S g a s w))) (by decide) (by decide) ⟨rfl, rfl, rfl, rfl, fun _ => ⟨rfl, rfl⟩⟩ (by decide)
  refine ⟨fin g a s w, _, ?_, O, ag, ?_⟩
  · rw [e1, mdR_A ag]
    rfl
  · revert M1
    cases mdF (tT σ) (σ.1 0) 14 (skp (tT σ) (σ.1 0) 0) 0 0 0 (vUs 0 0 (eg_I h 20)) with
    | inl e => exact fun _ => trivial
    | inr q => exact fun M1 => M1
theorem X_fault (X : XI h σ B) (s : Int32) : ∃ h', fX12_fault h 16 s = some (aFault σ s, h') ∧ XOk h h' σ B := by
  have C := X.2.2.1
  have hs := C.1
  have hP := XI_P X
  unfold fX12_fault aFault
  rw [if_pos (iO_16 hs)]
  by_cases c0 : s = 0
  · obtain ⟨h1, V, e1, O1, _⟩ := X_rdM X
    rw [if_pos c0, if_pos c0, gR_16 hs, rf_16_1 hs, Option.bind_some, e1, Option.bind_some]
    exact ⟨h1, rfl, O1⟩
  rw [if_neg c0, if_neg c0]
  by_cases c1 : s = 1
  · obtain ⟨g, a, q, w, e1, E1, _⟩ := X_lawRead (Tp_of X)
    have O := XOk_low X (eq_tr (cov_sub (S' := [(21, some 2), (22, none), (17, some 2), (17, some 3), (17, some 4)]) (by decide) E1) (cov_sub (by decide) (fin_S g a q w))) (by decide) (by decide) ⟨rfl, rfl, rfl, rfl, fun _ => ⟨rfl, rfl⟩⟩ (by decide)
    rw [if_pos c1, if_pos c1, gR_16 hs, rf_16_2 hs, Option.bind_some, e1, Option.bind_some]
    exact ⟨_, rfl, O⟩
  rw [if_neg c1, if_neg c1]
  by_cases c2 : s = 2
  · obtain ⟨a', s', e1, _⟩ := X_frames (Tp_of X) (a := eg_I h 17 2) (s := eg_I h 17 3) (w := eg_I h 17 4)
    have eid : fin h (eg_I h 17 2) (eg_I h 17 3) (eg_I h 17 4) = h := fin_id h
    rw [eid] at e1
    have O := XOk_low X (fin_S h a' s' (flm (tT σ) (σ.1 0))) (by decide) (by decide) ⟨rfl, rfl, rfl, rfl, fun _ => ⟨rfl, rfl⟩⟩ (by decide)
    rw [if_pos c2, if_pos c2, gR_16 hs, rf_16_0 hs, Option.bind_some, e1, Option.bind_some]
    exact ⟨_, rfl, O⟩
  rw [if_neg c2, if_neg c2]
  exact ⟨h, rfl, XOk_rfl X⟩
end FA
