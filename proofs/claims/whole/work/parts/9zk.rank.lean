abbrev gRank (σ : eg_S) (e k : Int32) : Prop := (G1 (sE σ) e ∧ ¬ k < 0) ∧ k < nI (cn (sP σ) 50)
def aRank (σ : eg_S) (e k : Int32) : Int32 := if gRank σ e k then nI (cd6 (fzR (hvS σ (dN e)) (sP σ) (dN k) 50)) else -1
theorem tri_n : ∀ P, P ≤ 6 → nI P * (nI P - 1) / 2 = nI (cn P 50) := by decide +kernel
section RA
variable {h h' : eg_H} {σ : eg_S} {B : Nat × Nat}
theorem X_ah32 {P e z p : Nat} (hs : eg_stt h) (hP : P ≤ 6) {v : Nat → Nat} (hv : ∀ y, i6 (v y : Nat)) (H : ∀ y, y < 50 → vld P y → eg_L h 48 y = jI (v y : Nat)) (vz : vld P z) (hz : z < 36) (hp : p < P) : ∀ j r F, r + j = P → j < F → p < r → fX9_aheadOf_L32 F h 47 (nI z) (nI P) (nI (ah v P (6 * p + r) z)) (nI p) (nI r) = some (.inl (47, nI z, nI P, nI (ah v P (6 * p + P) z), nI p, h)) := by
  intro j
  induction j with
  | zero =>
    intro r F hi hF hr
    obtain ⟨F, rfl⟩ : ∃ F', F = F' + 1 := ⟨F - 1, by omega⟩
    obtain rfl : r = P := by omega
    rw [fX9_aheadOf_L32, if_pos (nI_le (Nat.le_refl _) (by omega))]
  | succ j ih =>
    intro r F hi hF hr
    obtain ⟨F, rfl⟩ : ∃ F', F = F' + 1 := ⟨F - 1, by omega⟩
    have e6 : nI p * (6 : Int32) + nI r = nI (6 * p + r) := by rw [show (6 : Int32) = nI 6 from rfl, nI_kk, nI_add, Nat.mul_comm]
    have vy : vld P (6 * p + r) := ⟨by omega, by omega⟩
    have c1 : (nI (6 * p + r)).toNatClampNeg = 6 * p + r := nI_clamp (by omega)
    have c2 : (nI z).toNatClampNeg = z := nI_clamp (by omega)
    have a1 : eg_aL h 48 (nI (6 * p + r)) = some (jI (v (6 * p + r) : Nat)) := by rw [aL_48 hs (nI_pos (by omega)) (by rw [c1]; omega), c1, H _ (by omega) vy]
    have a2 : eg_aL h 48 (nI z) = some (jI (v z : Nat)) := by rw [aL_48 hs (nI_pos (by omega)) (by rw [c2]; omega), c2, H _ (by omega) vz]
    have nx := ih (r + 1) F (by omega) (by omega) (by omega)
    rw [show 6 * p + (r + 1) = (6 * p + r) + 1 by omega, ah_1] at nx
    rw [fX9_aheadOf_L32, if_neg (nI_ge (by omega) (by omega)), e6, Option.bind_some, gR_47 hs, rf_47_0 hs, Option.bind_some, al_48 hs, Option.bind_some, if_pos (nI_lt (by omega) (by omega)), Option.bind_some, a1, Option.bind_some, Option.bind_some, a2, Option.bind_some]
    by_cases k1 : v z < v (6 * p + r)
    · rw [if_pos ((jI_lt (hv _) (hv _)).mpr (by omega)), nI_1, nI_1]
      rw [if_pos ⟨vy, Or.inl k1⟩] at nx
      exact nx
    rw [if_neg (fun w => k1 (by have := (jI_lt (hv _) (hv _)).mp w; omega)), Option.bind_some, a1, Option.bind_some, Option.bind_some, a2, Option.bind_some]
    by_cases k2 : v (6 * p + r) = v z
    · rw [if_pos ((jI_eq (hv _) (hv _)).mpr (by omega))]
      by_cases k3 : z ≤ 6 * p + r
      · rw [if_pos (nI_le k3 (by omega)), nI_1]
        rw [if_neg (fun w => by have := w.2; omega)] at nx
        exact nx
      · rw [if_neg (nI_ge (by omega) (by omega)), nI_1, nI_1]
        rw [if_pos ⟨vy, by omega⟩] at nx
        exact nx
    · rw [if_neg (fun w => k2 (by have := (jI_eq (hv _) (hv _)).mp w; omega)), nI_1]
      rw [if_neg (fun w => by have := w.2; omega)] at nx
      exact nx
theorem X_ahead {P z : Nat} (hs : eg_stt h) (hP : P ≤ 6) {v : Nat → Nat} (hv : ∀ y, i6 (v y : Nat)) (H : ∀ y, y < 50 → vld P y → eg_L h 48 y = jI (v y : Nat)) (vz : vld P z) : fX9_aheadOf h 47 (nI z) (nI P) = some (nI (ah v P 50 z), h) := by
  have hz : z < 36 := by have := vz.1; have := vz.2; omega
  have key : ∀ j p F, p + j = P → j < F → fX9_aheadOf_L20 F h 47 (nI z) (nI P) (nI (ah v P (7 * p + 1) z)) (nI p) = some (.inl (nI (ah v P 50 z), h)) := by
    intro j
    induction j with
    | zero =>
      intro p F hi hF
      obtain ⟨F, rfl⟩ : ∃ F', F = F' + 1 := ⟨F - 1, by omega⟩
      obtain rfl : p = P := by omega
      rw [fX9_aheadOf_L20, if_pos (nI_le (Nat.le_refl _) (by omega)), ah_skp (a := 7 * p + 1) (b := 50) (by omega) (fun y h1 h2 w => by have := w.1; have := w.2; omega)]
    | succ j ih =>
      intro p F hi hF
      obtain ⟨F, rfl⟩ : ∃ F', F = F' + 1 := ⟨F - 1, by omega⟩
      have l1 := X_ah32 (e := 0) hs hP hv H vz hz (show p < P by omega) (P - (p + 1)) (p + 1) eg_F (by omega) (by rw [eg_F_eq]; omega) (by omega)
      rw [show 6 * p + (p + 1) = 7 * p + 1 by omega] at l1
      have nx := ih (p + 1) F (by omega) (by omega)
      rw [ah_skp (a := 6 * p + P) (b := 7 * (p + 1) + 1) (by omega) (fun y h1 h2 w => by have := w.1; have := w.2; omega)] at nx
      rw [fX9_aheadOf_L20, if_neg (nI_ge (by omega) (by omega)), nI_1, Option.bind_some, l1, Option.bind_some]
      dsimp only
      rw [nI_1]
      exact nx
  have k0 := key P 0 eg_F (by omega) (by rw [eg_F_eq]; omega)
  have e0 : ah v P (7 * 0 + 1) z = 0 := by
    rw [ah_skp (a := 0) (b := 7 * 0 + 1) (by omega) (fun y h1 h2 w => by have := w.1; have := w.2; omega)]
    rfl
  rw [e0] at k0
  have k0' : fX9_aheadOf_L20 eg_F h 47 (nI z) (nI P) 0 0 = some (.inl (nI (ah v P 50 z), h)) := k0
  unfold fX9_aheadOf
  rw [if_pos (iO_47 hs), if_neg (nI_pos (by omega)), gR_47 hs, rf_47_0 hs, Option.bind_some, al_48 hs, Option.bind_some, if_pos (nI_lt (by omega) (by omega)), k0', Option.bind_some]
theorem X_rk12 {P z k p : Nat} (hs : eg_stt h) (hP : P ≤ 6) {v : Nat → Nat} (hv : ∀ y, i6 (v y : Nat)) (H : ∀ y, y < 50 → vld P y → eg_L h 48 y = jI (v y : Nat)) (vz : vld P z) (ez : ah v P 50 z = k) (hk : k < 50) (hp : p < P) : ∀ j r F, r + j = P → j < F → p < r → 6 * p + r ≤ z → fX9_ranked_L12 F h 47 (nI P) (nI k) (nI p) (nI r) = some (if z / 6 = p then .inr (nI p, nI (z % 6), h) else .inl (47, nI P, nI k, nI p, h)) := by
  intro j
  induction j with
  | zero =>
    intro r F hi hF hr hle
    obtain ⟨F, rfl⟩ : ∃ F', F = F' + 1 := ⟨F - 1, by omega⟩
    obtain rfl : r = P := by omega
    rw [fX9_ranked_L12, if_pos (nI_le (Nat.le_refl _) (by omega)), if_neg (fun w => by have := vz.1; have := vz.2; omega)]
  | succ j ih =>
    intro r F hi hF hr hle
    obtain ⟨F, rfl⟩ : ∃ F', F = F' + 1 := ⟨F - 1, by omega⟩
    have e6 : nI p * (6 : Int32) + nI r = nI (6 * p + r) := by rw [show (6 : Int32) = nI 6 from rfl, nI_kk, nI_add, Nat.mul_comm]
    have vy : vld P (6 * p + r) := ⟨by omega, by omega⟩
    have hcn := ah_cz (v := v) (P := P) 50 (6 * p + r)
    have h15 := (cn_50 P hP).2
    rw [fX9_ranked_L12, if_neg (nI_ge (by omega) (by omega)), e6, X_ahead hs hP hv H vy, Option.bind_some]
    dsimp only
    by_cases c : ah v P 50 (6 * p + r) = k
    · have ez' := ah_uniq (m := 50) (by omega) (by have := vz.1; have := vz.2; omega) vy vz (c.trans ez.symm)
      rw [if_pos (by rw [c]), ← ez', if_pos (show (6 * p + r) / 6 = p by omega), show (6 * p + r) % 6 = r by omega]
    · have hne : ¬ 6 * p + r = z := fun w => c (by rw [w]; exact ez)
      rw [if_neg (fun w => c (by have q := congrArg dN w; rw [dN_n (by omega), dN_n (by omega)] at q; exact q)), nI_1]
      exact ih (r + 1) F (by omega) (by omega) (by omega) (by omega)
theorem X_ranked {P z k : Nat} (hs : eg_stt h) (hP : P ≤ 6) {v : Nat → Nat} (hv : ∀ y, i6 (v y : Nat)) (H : ∀ y, y < 50 → vld P y → eg_L h 48 y = jI (v y : Nat)) (vz : vld P z) (ez : ah v P 50 z = k) (hk : k < 50) : fX9_ranked h 47 (nI P) (nI k) = some (nI (cd6 z), h) := by
  have key : ∀ j p F, p + j = P → j < F → 7 * p + 1 ≤ z → fX9_ranked_L2 F h 47 (nI P) (nI k) (nI p) = some (.inr (nI (z / 6), nI (z % 6), h)) := by
    intro j
    induction j with
    | zero =>
      intro p F hi hF hle
      exfalso
      have := vz.1
      have := vz.2
      omega
    | succ j ih =>
      intro p F hi hF hle
      obtain ⟨F, rfl⟩ : ∃ F', F = F' + 1 := ⟨F - 1, by omega⟩
      have l1 := X_rk12 hs hP hv H vz ez hk (show p < P by omega) (P - (p + 1)) (p + 1) eg_F (by omega) (by rw [eg_F_eq]; omega) (by omega) (by omega)
      rw [fX9_ranked_L2, if_neg (nI_ge (by omega) (by omega)), nI_1, Option.bind_some, l1, Option.bind_some]
      by_cases c : z / 6 = p
      · rw [if_pos c, c]
      · rw [if_neg c]
        dsimp only
        rw [nI_1]
        exact ih (p + 1) F (by omega) (by omega) (by have := vz.1; have := vz.2; omega)
  have k0 : fX9_ranked_L2 eg_F h 47 (nI P) (nI k) 0 = some (.inr (nI (z / 6), nI (z % 6), h)) := key P 0 eg_F (by omega) (by rw [eg_F_eq]; omega) (by have := vz.1; have := vz.2; omega)
  unfold fX9_ranked
  rw [if_pos (iO_47 hs), k0, Option.bind_some]
  dsimp only
  rw [show (10 : Int32) = nI 10 from rfl, nI_kk, nI_add]
  rfl
theorem X_rank (X : XI h σ B) (e k : Int32) : ∃ h', fX12_rank h 16 e k = some (aRank σ e k, h') ∧ XOk h h' σ B := by
  have C := X.2.2.1
  have hs := C.1
  have hP := XI_P X
  unfold fX12_rank aRank
  rw [if_pos (iO_16 hs), gR_16 hs, rf_16_3 hs, Option.bind_some, X_isEgg hs C.2.1 e, Option.bind_some]
  dsimp only
  rw [g01]
  by_cases c1 : G1 (sE σ) e
  rotate_left
  · have gg : ¬ gRank σ e k := fun z => c1 z.1.1
    rw [if_neg c1, if_neg gg]; exact ⟨h, rfl, XOk_rfl X⟩
  rw [if_pos c1]
  by_cases c2 : k < 0
  · have gg : ¬ gRank σ e k := fun z => z.1.2 c2
    rw [if_pos c2, if_neg gg]; exact ⟨h, rfl, XOk_rfl X⟩
  rw [if_neg c2, gR_16 hs, rf_16_3 hs, Option.bind_some, X_persons X, Option.bind_some]
  dsimp only
  rw [gR_16 hs, rf_16_3 hs, Option.bind_some, X_persons X, Option.bind_some]
  dsimp only
  rw [tri_n _ hP.1]
  by_cases c3 : k < nI (cn (sP σ) 50)
  rotate_left
  · have gg : ¬ gRank σ e k := fun z => c3 z.2
    rw [if_neg c3, if_neg gg]; exact ⟨h, rfl, XOk_rfl X⟩
  have gg : gRank σ e k := ⟨⟨c1, c2⟩, c3⟩
  rw [if_pos c3, if_pos gg]
  obtain ⟨m, hm, rfl⟩ := G1_n (by omega) c1
  obtain ⟨q, hq, rfl⟩ := pos_n c2
  have h15 := (cn_50 _ hP.1).2
  have hqc : q < cn (sP σ) 50 := by
    rcases Nat.lt_or_ge q (cn (sP σ) 50) with z | z
    · exact z
    · exact absurd c3 (nI_nlt z hq)
  obtain ⟨g1, e1, O1, H1⟩ := X_gather X hm
  obtain ⟨i, i1, i2, i3⟩ := ah_sur (v := hvS σ m) (P := sP σ) 50 q hqc
  have s1 := O1.1.2.2.1.1
  rw [e1, Option.bind_some, gR_16 s1, rf_16_18 s1, Option.bind_some, gR_16 s1, rf_16_3 s1, Option.bind_some, X_persons O1.1, Option.bind_some]
  dsimp only
  rw [X_ranked s1 hP.1 (hv_i6 σ m) H1 i2 i3 (by omega), Option.bind_some, dN_n (by omega), dN_n hq, fzR_is i2 i3 50 i1 (Nat.le_refl _)]
  exact ⟨g1, rfl, O1⟩
def Rr (v : Nat → Nat) (P : Nat) (g : eg_H) (z : Nat) : Prop := ∀ i, i < z → vld P i → eg_L g 70 (ah v P z i) = jI (v i : Nat) ∧ eg_I g 77 (ah v P z i) = nI (cd6 i)
theorem M_rk69 {P z : Nat} {v : Nat → Nat} (hs : eg_stt h) (hv : ∀ y, i6 (v y : Nat)) (H : Rr v P h z) (hz : z ≤ 50) (hP : P ≤ 6) (a1 a2 a3 a4 a5 : Int32) : ∀ d F g, ah v P z z + d ≤ cn P z → d < F → eg_eq [(70, none), (77, none)] h g → (∀ q, q < ah v P z z + d → eg_L g 70 q = eg_L h 70 q ∧ eg_I g 77 q = eg_I h 77 q) → (∀ q, ah v P z z + d ≤ q → q < cn P z → eg_L g 70 (q + 1) = eg_L h 70 q ∧ eg_I g 77 (q + 1) = eg_I h 77 q) → ∃ g', fX13_rank_L69 F g 54 a1 a2 a3 a4 a5 (jI (v z : Nat)) (nI (ah v P z z + d)) = some (54, a1, a2, a3, a4, a5, jI (v z : Nat), nI (ah v P z z), g') ∧ eg_eq [(70, none), (77, none)] h g' ∧ (∀ q, q < ah v P z z → eg_L g' 70 q = eg_L h 70 q ∧ eg_I g' 77 q = eg_I h 77 q) ∧ ∀ q, ah v P z z ≤ q → q < cn P z → eg_L g' 70 (q + 1) = eg_L h 70 q ∧ eg_I g' 77 (q + 1) = eg_I h 77 q := by
  have h15 : cn P z ≤ 15 := Nat.le_trans (cn_mono hz) (cn_50 P hP).2
  intro d
  induction d with
  | zero =>
    intro F g h1 hF Q A1 A2
    obtain ⟨F, rfl⟩ : ∃ F', F = F' + 1 := ⟨F - 1, by omega⟩
    have sg : eg_stt g := eq_stt Q hs (by decide)
    refine ⟨g, ?_, Q, A1, A2⟩
    rw [fX13_rank_L69]
    rw [Nat.add_zero] at *
    by_cases c : ah v P z z = 0
    · rw [c, if_pos (by decide)]
    · obtain ⟨i, i1, i2, i3⟩ := ah_sur (v := v) (P := P) z (ah v P z z - 1) (by omega)
      have hle : v z ≤ v i := by
        rcases Nat.lt_or_ge (v i) (v z) with w | w
        · have := ah_ls (v := v) (P := P) w; omega
        · exact w
      have em : nI (ah v P z z) - 1 = nI (ah v P z z - 1) := by
        have := nI_m1 (ah v P z z - 1)
        rw [show ah v P z z - 1 + 1 = ah v P z z by omega] at this
        exact this
      have hcl : (nI (ah v P z z - 1)).toNatClampNeg = ah v P z z - 1 := nI_clamp (by omega)
      have ev : eg_aL g 70 (nI (ah v P z z - 1)) = some (jI (v i : Nat)) := by
        rw [aL_70 sg (nI_pos (by omega)) (by rw [hcl]; omega), hcl, (A1 _ (by omega)).1, ← i3, (H i i1 i2).1]
      rw [if_neg (show ¬ nI (ah v P z z) ≤ 0 from nI_ge (b := ah v P z z) (a := 0) (by omega) (by omega)), gR_54 sg, rf_54_42 sg, Option.bind_some, em, ev, Option.bind_some, if_pos ((jI_le (hv _) (hv _)).mpr (by omega))]
  | succ d ih =>
    intro F g h1 hF Q A1 A2
    obtain ⟨F, rfl⟩ : ∃ F', F = F' + 1 := ⟨F - 1, by omega⟩
    have sg : eg_stt g := eq_stt Q hs (by decide)
    generalize hl : ah v P z z + d = l at *
    have hl1 : ah v P z z + (d + 1) = l + 1 := by omega
    rw [hl1] at h1 A1 A2
    obtain ⟨i, i1, i2, i3⟩ := ah_sur (v := v) (P := P) z l (by omega)
    have hlt : v i < v z := by
      rcases Nat.lt_or_ge (v i) (v z) with w | w
      · exact w
      · have := ah_ge i1 i2 w; omega
    have c1 : (nI l).toNatClampNeg = l := nI_clamp (by omega)
    have c2 : (nI (l + 1)).toNatClampNeg = l + 1 := nI_clamp (by omega)
    have el : eg_L g 70 l = jI (v i : Nat) := by rw [(A1 l (by omega)).1, ← i3, (H i i1 i2).1]
    have ev : eg_aL g 70 (nI l) = some (eg_L g 70 l) := by rw [aL_70 sg (nI_pos (by omega)) (by rw [c1]; omega), c1]
    let g1 := eg_sL g 70 (l + 1) (eg_L g 70 l)
    have sg1 : eg_stt g1 := sg
    have ei : eg_aI g1 100 77 (nI l) = some (eg_I g 77 l) := by rw [aI_77 sg1 (nI_pos (by omega)) (by rw [c1]; omega), c1]; rfl
    have em : nI (l + 1) + (-1) = nI l := by rw [← Int32.sub_eq_add_neg, nI_m1]
    rw [fX13_rank_L69, hl1, if_neg (show ¬ nI (l + 1) ≤ 0 from nI_ge (b := l + 1) (a := 0) (by omega) (by omega)), gR_54 sg, rf_54_42 sg, Option.bind_some, nI_m1, ev, Option.bind_some, if_neg (fun w => by rw [el] at w; have := (jI_le (hv _) (hv _)).mp w; omega), Option.bind_some, Option.bind_some, ev, Option.bind_some, wL_70 sg (nI_pos (by omega)) (by rw [c2]; omega), c2, Option.bind_some]
    show ∃ g', ((eg_gR g1 13 52 54).bind _) = _ ∧ _
    rw [gR_54 sg1, rf_54_52 sg1, Option.bind_some, Option.bind_some, ei, Option.bind_some, wI_77 sg1 (nI_pos (by omega)) (by rw [c2]; omega), c2, Option.bind_some, em]
    refine ih F (eg_sI g1 77 (l + 1) (eg_I g 77 l)) (by omega) (by omega) (eq_sI (eq_sL Q rfl) rfl) (fun q hq => ?_) (fun q hq1 hq2 => ?_)
    · have A := A1 q (by omega)
      refine ⟨?_, ?_⟩
      · show eg_L (eg_sL g 70 (l + 1) (eg_L g 70 l)) 70 q = _
        rw [L_sL, if_neg (by omega)]; exact A.1
      · rw [I_sI, if_neg (by omega)]; exact A.2
    · by_cases c : q = l
      · have A := A1 l (by omega)
        refine ⟨?_, ?_⟩
        · show eg_L (eg_sL g 70 (l + 1) (eg_L g 70 l)) 70 (q + 1) = _
          rw [L_sL, if_pos ⟨rfl, by omega⟩, c]; exact A.1
        · rw [I_sI, if_pos ⟨rfl, by omega⟩, c]; exact A.2
      · have A := A2 q (by omega) hq2
        refine ⟨?_, ?_⟩
        · show eg_L (eg_sL g 70 (l + 1) (eg_L g 70 l)) 70 (q + 1) = _
          rw [L_sL, if_neg (by omega)]; exact A.1
        · rw [I_sI, if_neg (by omega)]; exact A.2
theorem Rr_skp {v : Nat → Nat} {P a b : Nat} {g : eg_H} (H : Rr v P g a) (hab : a ≤ b) (hn : ∀ y, a ≤ y → y < b → ¬ vld P y) : Rr v P g b := fun i hi vi => by
  have hia : i < a := by
    rcases Nat.lt_or_ge i a with z | z
    · exact z
    · exact absurd vi (hn i z hi)
  rw [ah_skp hab hn]
  exact H i hia vi
theorem M_rk39 (R : RI h σ) {e p : Nat} {k : Int32} (he : e < sE σ) (hp : p < sP σ) : ∀ j r g F, r + j = sP σ → j < F → p < r → eg_eq Rx h g → Rr (hvS σ e) (sP σ) g (6 * p + r) → ∃ g', fX13_rank_L39 F g 54 (nI e) k (nI (cn (sP σ) (6 * p + r))) (nI p) (nI r) = some (54, nI e, k, nI (cn (sP σ) (6 * p + sP σ)), nI p, g') ∧ eg_eq Rx h g' ∧ Rr (hvS σ e) (sP σ) g' (6 * p + sP σ) := by
  have hP := RI_P R
  intro j
  induction j with
  | zero =>
    intro r g F hi hF hr Q H
    obtain ⟨F, rfl⟩ : ∃ F', F = F' + 1 := ⟨F - 1, by omega⟩
    have Rg := RI_scr R Q
    obtain rfl : r = sP σ := by omega
    refine ⟨g, ?_, Q, H⟩
    rw [fX13_rank_L39, gI_54 Rg.1, Option.bind_some, Rg.2.2.2.1.2.2.2.1, if_pos (nI_le (Nat.le_refl _) (by omega))]
  | succ j ih =>
    intro r g F hi hF hr Q H
    obtain ⟨F, rfl⟩ : ∃ F', F = F' + 1 := ⟨F - 1, by omega⟩
    have Rg := RI_scr R Q
    have vz : vld (sP σ) (6 * p + r) := ⟨by omega, by omega⟩
    obtain ⟨g1, e1, E1, _⟩ := M_hopeOf Rg hp (show r < sP σ by omega) he (d := 0) (by omega)
    have ek : (10 : Int32) * nI e = nI (10 * e + 0) := nI_kk 10 e
    have ep : (10 : Int32) * nI p + nI r = nI (10 * p + r) := by rw [show (10 : Int32) = nI 10 from rfl, nI_kk, nI_add]
    have ev : hpF (ptS σ p r e 0) 60 = hvS σ e (6 * p + r) := by
      unfold hvS
      rw [show (6 * p + r) / 6 = p by omega, show (6 * p + r) % 6 = r by omega]
    rw [ev] at e1
    have Q1 : eg_eq Rx h g1 := eq_tr Q (SP_x E1)
    have R1 := RI_scr R Q1
    have s1 := R1.1
    have H1 : Rr (hvS σ e) (sP σ) g1 (6 * p + r) := fun i hi vi => by
      rw [(E1.2 70 _ rfl).2.1, (E1.2 77 _ rfl).1]; exact H i hi vi
    have hcz := ah_cz (v := hvS σ e) (P := sP σ) (6 * p + r) (6 * p + r)
    have h15 : cn (sP σ) (6 * p + r) ≤ 15 := Nat.le_trans (cn_mono (by omega)) (cn_50 _ hP.1).2
    obtain ⟨g2, e2, E2, A1, A2⟩ := M_rk69 s1 (hv_i6 σ e) H1 (by omega) hP.1 (nI e) k (nI (cn (sP σ) (6 * p + r))) (nI p) (nI r) (cn (sP σ) (6 * p + r) - ah (hvS σ e) (sP σ) (6 * p + r) (6 * p + r)) eg_F g1 (by omega) (by rw [eg_F_eq]; omega) eq_rfl (fun q _ => ⟨rfl, rfl⟩) (fun q hq1 hq2 => by omega)
    rw [show ah (hvS σ e) (sP σ) (6 * p + r) (6 * p + r) + (cn (sP σ) (6 * p + r) - ah (hvS σ e) (sP σ) (6 * p + r) (6 * p + r)) = cn (sP σ) (6 * p + r) by omega] at e2
    have s2 : eg_stt g2 := eq_stt E2 s1 (by decide)
    have hpp : ah (hvS σ e) (sP σ) (6 * p + r) (6 * p + r) ≤ 15 := by omega
    have hself := ah_self (v := hvS σ e) (P := sP σ) (6 * p + r)
    have hnext : ∀ i, i < 6 * p + r → vld (sP σ) i → _ := fun i hi vi => ah_next (v := hvS σ e) (P := sP σ) hi vz vi
    have hcn : ∀ i, i < 6 * p + r → vld (sP σ) i → _ := fun i hi vi => ah_cn (v := hvS σ e) (P := sP σ) hi vi
    generalize hA : ah (hvS σ e) (sP σ) (6 * p + r) (6 * p + r) = A at *
    have hcl : (nI A).toNatClampNeg = A := nI_clamp (by omega)
    let g3 := eg_sL g2 70 A (jI (hvS σ e (6 * p + r) : Nat))
    have s3 : eg_stt g3 := s2
    let g4 := eg_sI g3 77 A (nI (10 * p + r))
    have Q4 : eg_eq Rx h g4 := eq_sI (eq_sL (eq_tr Q1 (cov_sub (by decide) E2)) rfl) rfl
    have ec : cn (sP σ) (6 * p + (r + 1)) = cn (sP σ) (6 * p + r) + 1 := by rw [show 6 * p + (r + 1) = 6 * p + r + 1 by omega, cn_1, if_pos vz]
    obtain ⟨g5, e5, Q5, H5⟩ := ih (r + 1) g4 F (by omega) (by omega) (by omega) Q4 (fun i hi vi => by
      rw [show 6 * p + (r + 1) = 6 * p + r + 1 by omega] at hi ⊢
      by_cases c : i = 6 * p + r
      · rw [c, hself]
        refine ⟨?_, ?_⟩
        · show eg_L (eg_sL g2 70 A _) 70 A = _
          rw [L_sL, if_pos ⟨rfl, rfl⟩]
        · rw [I_sI, if_pos ⟨rfl, rfl⟩]
          unfold cd6
          rw [show (6 * p + r) / 6 = p by omega, show (6 * p + r) % 6 = r by omega]
      · have hi' : i < 6 * p + r := by omega
        have n1 := hnext i hi' vi
        have n2 := hcn i hi' vi
        have n3 := H1 i hi' vi
        rw [n1]
        generalize ah (hvS σ e) (sP σ) (6 * p + r) i = q at *
        by_cases c2 : q < A
        · rw [if_pos c2]
          refine ⟨?_, ?_⟩
          · show eg_L (eg_sL g2 70 A _) 70 q = _
            rw [L_sL, if_neg (by omega), (A1 q c2).1]; exact n3.1
          · rw [I_sI, if_neg (by omega)]
            show eg_I g2 77 q = _
            rw [(A1 q c2).2]; exact n3.2
        · rw [if_neg c2]
          refine ⟨?_, ?_⟩
          · show eg_L (eg_sL g2 70 A _) 70 (q + 1) = _
            rw [L_sL, if_neg (by omega), (A2 q (by omega) (by omega)).1]; exact n3.1
          · rw [I_sI, if_neg (by omega)]
            show eg_I g2 77 (q + 1) = _
            rw [(A2 q (by omega) (by omega)).2]; exact n3.2)
    refine ⟨g5, ?_, Q5, H5⟩
    rw [fX13_rank_L39, gI_54 Rg.1, Option.bind_some, Rg.2.2.2.1.2.2.2.1, if_neg (nI_ge (by omega) (by omega)), ek, ep, e1, Option.bind_some]
    dsimp only
    rw [e2, Option.bind_some]
    dsimp only
    unfold fX13_rank_j127
    rw [gR_54 s2, rf_54_42 s2, Option.bind_some, wL_70 s2 (nI_pos (by omega)) (by rw [hcl]; omega), hcl, Option.bind_some]
    show ((eg_gR g3 13 52 54).bind _) = _
    rw [gR_54 s3, rf_54_52 s3, Option.bind_some, ep, wI_77 s3 (nI_pos (by omega)) (by rw [hcl]; omega), hcl, Option.bind_some, nI_1, nI_1, ← ec]
    exact e5
theorem M_rank (R : RI h σ) (e k : Int32) : ∃ h', fX13_rank h 54 e k = some (aRank σ e k, h') ∧ ROk h h' σ := by
  obtain ⟨R0, Q0⟩ := R_0 R
  have hs := R.1
  have s0 := R0.1
  have hP := RI_P R
  unfold fX13_rank aRank
  rw [if_pos (iO_54 hs), pI_54 hs, Option.bind_some, M_isEgg s0 R0.2.2.2.1 e, Option.bind_some]
  dsimp only
  rw [g01]
  by_cases c1 : G1 (sE σ) e
  rotate_left
  · have gg : ¬ gRank σ e k := fun z => c1 z.1.1
    rw [if_neg c1, if_neg gg]; exact ⟨_, rfl, ROk_scr R Q0⟩
  rw [if_pos c1]
  by_cases c2 : k < 0
  · have gg : ¬ gRank σ e k := fun z => z.1.2 c2
    rw [if_neg (Int32.not_le.mpr c2), if_neg gg]; exact ⟨_, rfl, ROk_scr R Q0⟩
  rw [if_pos (Int32.not_lt.mp c2)]
  obtain ⟨m, hm, rfl⟩ := G1_n (by omega) c1
  obtain ⟨q, hq, rfl⟩ := pos_n c2
  have h15 := (cn_50 _ hP.1).2
  have key : ∀ j p g F, p + j = sP σ → j < F → eg_eq Rx (eg_sI h 54 0 0) g → Rr (hvS σ m) (sP σ) g (7 * p + 1) → ∃ g', fX13_rank_L24 F g 54 (nI m) (nI q) (nI (cn (sP σ) (7 * p + 1))) (nI p) = some (54, nI q, nI (cn (sP σ) 50), g') ∧ eg_eq Rx (eg_sI h 54 0 0) g' ∧ Rr (hvS σ m) (sP σ) g' 50 := by
    intro j
    induction j with
    | zero =>
      intro p g F hi hF Q H
      obtain ⟨F, rfl⟩ : ∃ F', F = F' + 1 := ⟨F - 1, by omega⟩
      have Rg := RI_scr R0 Q
      obtain rfl : p = sP σ := by omega
      have no : ∀ y, 7 * sP σ + 1 ≤ y → y < 50 → ¬ vld (sP σ) y := fun y h1 h2 w => by have := w.1; have := w.2; omega
      refine ⟨g, ?_, Q, Rr_skp H (by omega) no⟩
      rw [fX13_rank_L24, gI_54 Rg.1, Option.bind_some, Rg.2.2.2.1.2.2.2.1, if_pos (nI_le (Nat.le_refl _) (by omega)), cn_skp (a := 7 * sP σ + 1) (b := 50) (by omega) no]
    | succ j ih =>
      intro p g F hi hF Q H
      obtain ⟨F, rfl⟩ : ∃ F', F = F' + 1 := ⟨F - 1, by omega⟩
      have Rg := RI_scr R0 Q
      obtain ⟨g1, e1, Q1, H1⟩ := M_rk39 R0 (k := nI q) hm (show p < sP σ by omega) (sP σ - (p + 1)) (p + 1) g eg_F (by omega) (by rw [eg_F_eq]; omega) (by omega) Q (by rw [show 6 * p + (p + 1) = 7 * p + 1 by omega]; exact H)
      rw [show 6 * p + (p + 1) = 7 * p + 1 by omega] at e1
      have no : ∀ y, 6 * p + sP σ ≤ y → y < 7 * (p + 1) + 1 → ¬ vld (sP σ) y := fun y h1 h2 w => by have := w.1; have := w.2; omega
      obtain ⟨g2, e2, Q2, H2⟩ := ih (p + 1) g1 F (by omega) (by omega) Q1 (Rr_skp H1 (by omega) no)
      rw [cn_skp (a := 6 * p + sP σ) (b := 7 * (p + 1) + 1) (by omega) no] at e2
      refine ⟨g2, ?_, Q2, H2⟩
      rw [fX13_rank_L24, gI_54 Rg.1, Option.bind_some, Rg.2.2.2.1.2.2.2.1, if_neg (nI_ge (by omega) (by omega)), nI_1, Option.bind_some, e1, Option.bind_some]
      dsimp only
      rw [nI_1]
      exact e2
  obtain ⟨g1, e1, Q1, H1⟩ := key (sP σ) 0 (eg_sI h 54 0 0) eg_F (by omega) (by rw [eg_F_eq]; omega) eq_rfl (fun i hi vi => by have := vi.1; have := vi.2; omega)
  have e1' : fX13_rank_L24 eg_F (eg_sI h 54 0 0) 54 (nI m) (nI q) 0 0 = some (54, nI q, nI (cn (sP σ) 50), g1) := by
    have z0 : cn (sP σ) (7 * 0 + 1) = 0 := by
      rw [cn_skp (a := 0) (b := 7 * 0 + 1) (by omega) (fun y h1 h2 w => by have := w.1; have := w.2; omega)]
      rfl
    rw [z0] at e1
    exact e1
  have s1 : eg_stt g1 := (RI_scr R0 Q1).1
  rw [e1', Option.bind_some]
  dsimp only
  by_cases c3 : q < cn (sP σ) 50
  rotate_left
  · have gg : ¬ gRank σ (nI m) (nI q) := fun z => absurd z.2 (nI_nlt (by omega) hq)
    rw [if_pos (nI_le (by omega) hq), if_neg gg]
    exact ⟨g1, rfl, ROk_scr R (eq_tr Q0 Q1)⟩
  have gg : gRank σ (nI m) (nI q) := ⟨⟨c1, c2⟩, nI_lt c3 (by omega)⟩
  obtain ⟨i, i1, i2, i3⟩ := ah_sur (v := hvS σ m) (P := sP σ) 50 q c3
  have hcl : (nI q).toNatClampNeg = q := nI_clamp (by omega)
  have er := (H1 i i1 i2).2
  rw [i3] at er
  rw [if_neg (nI_ge c3 (by omega)), if_pos gg, gR_54 s1, rf_54_52 s1, Option.bind_some, aI_77 s1 (nI_pos (by omega)) (by rw [hcl]; omega), hcl, Option.bind_some, er, dN_n (by omega), dN_n hq, fzR_is i2 i3 50 i1 (Nat.le_refl _)]
  exact ⟨g1, rfl, ROk_scr R (eq_tr Q0 Q1)⟩
end RA
