section LP
variable {h : eg_H} {σ : eg_S} {B : Nat × Nat}
theorem M_ld_L {P n : Nat} (hP : P ≤ 6) (hn : n < 2 ^ 31) : ∀ j k h F, k + j = P → j < F → eg_stt h → (∀ m, m < k → eg_I h 71 (P - 1 - m) = nI (qd n m)) → ∃ h', fX13_layPairs_L32 F h 54 (nI (n / 10 ^ k)) (iI ((P : Int) - 1 - k)) = some (54, nI (n / 10 ^ P), h') ∧ eg_eq [(71, none)] h h' ∧ ∀ m, m < P → eg_I h' 71 (P - 1 - m) = nI (qd n m) := by
  intro j
  induction j with
  | zero =>
    intro k h F hk hF hs H
    obtain ⟨F, rfl⟩ : ∃ F', F = F' + 1 := ⟨F - 1, by omega⟩
    obtain rfl : k = P := by omega
    refine ⟨h, ?_, eq_rfl, H⟩
    rw [fX13_layPairs_L32, if_pos (show iI ((k : Int) - 1 - k) < (0 : Int32) from (iI_lt (b := 0) (by unfold i3; omega) (by unfold i3; omega)).mpr (by omega))]
  | succ j ih =>
    intro k h F hk hF hs H
    obtain ⟨F, rfl⟩ : ∃ F', F = F' + 1 := ⟨F - 1, by omega⟩
    have ei : iI ((P : Int) - 1 - k) = nI (P - 1 - k) := by rw [← iI_n]; congr 1; omega
    have ei2 : nI (P - 1 - k) + (-1 : Int32) = iI ((P : Int) - 1 - (k + 1 : Nat)) := by
      rw [← iI_n, show (-1 : Int32) = iI (-1) by decide, iI_add]; congr 1; omega
    have hcl : (nI (P - 1 - k)).toNatClampNeg = P - 1 - k := nI_clamp (by omega)
    have hd : n / 10 ^ k ≤ n := Nat.div_le_self _ _
    have e10 : nI (n / 10 ^ k) % 10 = nI (qd n k) := (n10 (by omega)).2
    obtain ⟨h2, e2, E2, H2⟩ := ih (k + 1) (eg_sI h 71 (P - 1 - k) (nI (qd n k))) F (by omega) (by omega) hs (fun m hm => by
      rw [I_sI]
      by_cases cm : m = k
      · subst cm; rw [if_pos ⟨rfl, rfl⟩]
      · rw [if_neg (by omega)]; exact H m (by omega))
    refine ⟨h2, ?_, eq_tr (eq_sI eq_rfl (by simp [eg_cov])) E2, H2⟩
    rw [fX13_layPairs_L32, ei, if_neg (nI_pos (by omega)), e10, gR_54 hs, rf_54_43 hs, Option.bind_some, wI_71 hs (nI_pos (by omega)) (by rw [hcl]; omega), hcl, Option.bind_some, (n10 (by omega)).1, qd_s, Option.bind_some, ei2]
    exact e2
abbrev gPq (P : Nat) (w : Nat → Nat) : Prop := ∀ i, i < P → (w i < P ∧ ¬ w i = i) ∧ w (w i) = i
theorem M_lp_L {P : Nat} {w : Nat → Nat} (hP : P ≤ 6) (hw9 : ∀ i, i < P → w i ≤ 9) : ∀ j i h F, i + j = P → j < F → eg_stt h → eg_I h 54 24 = nI P → eg_I h 54 54 = nI (cnW w i) → (∀ k, k < P → eg_I h 71 k = nI (w k)) → (∀ k, k < cnW w i → eg_I h 78 k = nI (lwT w i k)) → (∀ k, k < i → (w k < P ∧ ¬ w k = k) ∧ w (w k) = k) → ∃ h', fX13_layPairs_L70 F h 54 (nI i) = some (if gPq P w then .inl h' else .inr h') ∧ eg_eq [(54, some 54), (78, none)] h h' ∧ (gPq P w → eg_I h' 54 54 = nI (cnW w P) ∧ ∀ k, k < cnW w P → eg_I h' 78 k = nI (lwT w P k)) := by
  intro j
  induction j with
  | zero =>
    intro i h F hi hF hs hPc hC H1 H2 H3
    obtain ⟨F, rfl⟩ : ∃ F', F = F' + 1 := ⟨F - 1, by omega⟩
    obtain rfl : i = P := by omega
    refine ⟨h, ?_, eq_rfl, fun _ => ⟨hC, H2⟩⟩
    rw [fX13_layPairs_L70, gI_54 hs, Option.bind_some, hPc, if_pos (nI_le (Nat.le_refl _) (by omega)), if_pos H3]
  | succ j ih =>
    intro i h F hi hF hs hPc hC H1 H2 H3
    obtain ⟨F, rfl⟩ : ∃ F', F = F' + 1 := ⟨F - 1, by omega⟩
    have h9 := hw9 i (by omega)
    have hcl : (nI i).toNatClampNeg = i := nI_clamp (by omega)
    have hclw : (nI (w i)).toNatClampNeg = w i := nI_clamp (by omega)
    have a1 : eg_aI h 100 71 (nI i) = some (nI (w i)) := by rw [aI_71 hs (nI_pos (by omega)) (by rw [hcl]; omega), hcl, H1 i (by omega)]
    have ec : cnW w (i + 1) = cnW w i + (if i < w i then 1 else 0) := rfl
    have hc := cn_le w i
    have hclc : (nI (cnW w i)).toNatClampNeg = cnW w i := nI_clamp (by omega)
    rw [fX13_layPairs_L70, gI_54 hs, Option.bind_some, hPc, if_neg (nI_ge (by omega) (by omega)), gR_54 hs, rf_54_43 hs, Option.bind_some, a1, Option.bind_some, Option.bind_some]
    by_cases c0 : w i < P
    rotate_left
    · refine ⟨h, ?_, eq_rfl, fun g => absurd (g i (by omega)).1.1 c0⟩
      rw [if_pos (nI_le (by omega) (by omega)), if_neg (fun g => c0 (g i (by omega)).1.1)]
    have h9w := hw9 (w i) c0
    have a2 : eg_aI h 100 71 (nI (w i)) = some (nI (w (w i))) := by rw [aI_71 hs (nI_pos (by omega)) (by rw [hclw]; omega), hclw, H1 _ c0]
    rw [if_neg (nI_ge c0 (by omega)), Option.bind_some, a1, Option.bind_some]
    by_cases c1 : w i = i
    · refine ⟨h, ?_, eq_rfl, fun g => absurd c1 (g i (by omega)).1.2⟩
      rw [if_pos (by rw [c1]), if_neg (fun g => (g i (by omega)).1.2 c1)]
    rw [if_neg (fun z => c1 ((nI_eq (by omega) (by omega)).mp z)), Option.bind_some, Option.bind_some, a1, Option.bind_some, a2, Option.bind_some]
    by_cases c2 : w (w i) = i
    rotate_left
    · refine ⟨h, ?_, eq_rfl, fun g => absurd (g i (by omega)).2 c2⟩
      rw [if_neg (fun z => c2 ((nI_eq (by omega) (by omega)).mp z)), if_neg (fun g => c2 (g i (by omega)).2)]
    rw [if_pos (by rw [c2]), Option.bind_some, a1, Option.bind_some]
    have H3' : ∀ k, k < i + 1 → (w k < P ∧ ¬ w k = k) ∧ w (w k) = k := fun k hk => by
      by_cases ck : k = i
      · subst ck; exact ⟨⟨c0, c1⟩, c2⟩
      · exact H3 k (by omega)
    by_cases c3 : i < w i
    · rw [if_pos (nI_le (by omega) (by omega)), gR_54 hs, rf_54_53 hs, Option.bind_some, gI_54 hs, Option.bind_some, hC, wI_78 hs (nI_pos (by omega)) (by rw [hclc]; omega), hclc, Option.bind_some]
      rw [if_pos c3] at ec
      have s1 : eg_stt (eg_sI h 78 (cnW w i) (nI i)) := hs
      have v1 : eg_I (eg_sI h 78 (cnW w i) (nI i)) 54 54 = nI (cnW w i) := by rw [I_sI, if_neg (by omega)]; exact hC
      show ∃ h', ((eg_gI (eg_sI h 78 (cnW w i) (nI i)) 13 54 54).bind _) = _ ∧ _
      rw [gI_54 s1, Option.bind_some, v1, nI_1, pI_54 s1, Option.bind_some, nI_1]
      obtain ⟨h2, e2, E2, K2⟩ := ih (i + 1) (eg_sI (eg_sI h 78 (cnW w i) (nI i)) 54 54 (nI (cnW w i + 1))) F (by omega) (by omega) hs (by rw [I_sI, if_neg (by omega), I_sI, if_neg (by omega)]; exact hPc) (by rw [I_sI, if_pos ⟨rfl, rfl⟩, ec]) (fun k hk => by rw [I_sI, if_neg (by omega), I_sI, if_neg (by omega)]; exact H1 k hk) (fun k hk => by
        rw [I_sI, if_neg (by omega), I_sI]
        unfold lwT
        by_cases ck : k = cnW w i
        · rw [if_pos ⟨rfl, ck⟩, if_pos ⟨c3, ck⟩]
        · rw [if_neg (fun z => ck z.2), if_neg (fun z => ck z.2)]
          exact H2 k (by omega)) H3'
      exact ⟨h2, e2, eq_tr (eq_sI (eq_sI eq_rfl rfl) rfl) E2, K2⟩
    · rw [if_neg (nI_ge (by omega) (by omega)), nI_1]
      rw [if_neg c3, Nat.add_zero] at ec
      obtain ⟨h2, e2, E2, K2⟩ := ih (i + 1) h F (by omega) (by omega) hs hPc (by rw [ec]; exact hC) H1 (fun k hk => by
        unfold lwT
        rw [if_neg (fun z => c3 z.1)]
        exact H2 k (by omega)) H3'
      exact ⟨h2, e2, E2, K2⟩
def Slp : List (Nat × Option Nat) := [(54, some 54), (71, none), (78, none)]
theorem M_layPairs (R : RI h σ) (x : Int32) : ∃ h', fX13_layPairs h 54 x = some (if gPr (sP σ) x then 1 else 0, h') ∧ eg_eq Slp h h' ∧ (gPr (sP σ) x → ((∀ i, i < sP σ → eg_I h' 71 i = nI (wd (dN x) (sP σ) i)) ∧ eg_I h' 54 54 = nI (cnW (wd (dN x) (sP σ)) (sP σ))) ∧ ∀ k, k < cnW (wd (dN x) (sP σ)) (sP σ) → eg_I h' 78 k = nI (lwT (wd (dN x) (sP σ)) (sP σ) k)) := by
  have hs := R.1
  have hP := (RI_P R).1
  have v4 := R.2.2.2.1.2.2.2.1
  unfold fX13_layPairs
  rw [if_pos (iO_54 hs), gI_54 hs, Option.bind_some, v4]
  by_cases c0 : sP σ = 0
  · refine ⟨h, ?_, eq_rfl, fun g => absurd g.1.1 (by omega)⟩
    rw [if_pos (by rw [c0]; rfl), if_neg (fun g => absurd g.1.1 (by omega))]
  rw [if_neg (nI_ne0 (by omega) (by omega)), Option.bind_some, show (2 : Int32) = nI 2 from rfl, n_md (by omega) (by omega)]
  by_cases c1 : sP σ % 2 = 1
  · refine ⟨h, ?_, eq_rfl, fun g => absurd g.2 (odd_no hP c1 (fun i hi => wd_lt g.1.2 hi))⟩
    rw [if_pos (by rw [c1]; rfl), if_neg (fun g => absurd g.2 (odd_no hP c1 (fun i hi => wd_lt g.1.2 hi)))]
  rw [if_neg (ne_1 (by omega) c1)]
  by_cases c2 : x < 0
  · refine ⟨h, ?_, eq_rfl, fun g => absurd c2 g.1.2.1.1⟩
    rw [if_neg (Int32.not_le.mpr c2), if_neg (fun g => g.1.2.1.1 c2)]
  rw [if_pos (Int32.not_lt.mp c2), Option.bind_some]
  obtain ⟨n, hn, rfl⟩ := pos_n c2
  have e1 : nI (sP σ) - 1 = iI ((sP σ : Int) - 1 - (0 : Nat)) := by rw [← iI_n, show (1 : Int32) = iI 1 from rfl, iI_sub]; congr 1; omega
  obtain ⟨h1, e2, E1, H1⟩ := M_ld_L hP hn (sP σ) 0 h eg_F (by omega) (by rw [eg_F_eq]; omega) hs (fun m hm => by omega)
  have e0 : n / 10 ^ 0 = n := by rw [Nat.pow_zero, Nat.div_one]
  rw [e0] at e2
  have s1 := eq_stt E1 hs (by decide)
  have hd : n / 10 ^ sP σ ≤ n := Nat.div_le_self _ _
  rw [e1, Option.bind_some, e2, Option.bind_some]
  dsimp only
  by_cases c3 : n / 10 ^ sP σ = 0
  rotate_left
  · refine ⟨h1, ?_, cov_sub (by decide) E1, fun g => absurd (by have := g.1.2.2; rw [dN_n hn] at this; exact this) c3⟩
    rw [if_neg (nI_ne0 (Nat.pos_of_ne_zero c3) (Nat.lt_of_le_of_lt hd hn)), if_neg (fun g => c3 (by have := g.1.2.2; rw [dN_n hn] at this; exact this))]
  rw [if_pos (by rw [c3]; rfl), pI_54 s1, Option.bind_some]
  have Hw : ∀ i, i < sP σ → eg_I h1 71 i = nI (wd n (sP σ) i) := fun i hi => by
    have := H1 (sP σ - 1 - i) (by omega)
    rw [show sP σ - 1 - (sP σ - 1 - i) = i by omega] at this
    exact this
  have hw9 : ∀ i, i < sP σ → wd n (sP σ) i ≤ 9 := fun i hi => by
    have : wd n (sP σ) i < 10 := Nat.mod_lt _ (by omega)
    omega
  obtain ⟨h2, e3, E2, K2⟩ := M_lp_L hP hw9 (sP σ) 0 (eg_sI h1 54 54 0) eg_F (by omega) (by rw [eg_F_eq]; omega) s1 (by rw [I_sI, if_neg (by omega), (E1.2 54 24 rfl).1]; exact v4) (by rw [I_sI, if_pos ⟨rfl, rfl⟩]; rfl) (fun k hk => by rw [I_sI, if_neg (by omega)]; exact Hw k hk) (fun k hk => absurd hk (Nat.not_lt_zero _)) (fun k hk => by omega)
  have e3' : fX13_layPairs_L70 eg_F (eg_sI h1 54 54 0) 54 0 = _ := e3
  have iff : gPr (sP σ) (nI n) ↔ gPq (sP σ) (wd n (sP σ)) := by
    constructor
    · intro g i hi
      have h1 := wd_lt g.1.2 hi
      have h2 := g.2 i hi
      rw [dN_n hn] at h1 h2
      exact ⟨⟨h1, h2.1⟩, h2.2⟩
    · intro g
      refine ⟨⟨by omega, ⟨c2, fun k hk => ?_⟩, by rw [dN_n hn]; exact c3⟩, fun i hi => ?_⟩
      · have := (g (sP σ - 1 - k) (by omega)).1.1
        unfold wd at this
        rw [show sP σ - 1 - (sP σ - 1 - k) = k by omega] at this
        rw [dN_n hn]; exact this
      · rw [dN_n hn]; exact ⟨(g i hi).1.2, (g i hi).2⟩
  refine ⟨h2, ?_, eq_tr (cov_sub (by decide) E1) (eq_tr (eq_sI eq_rfl rfl) (cov_sub (by decide) E2)), fun g => ?_⟩
  · rw [e3', Option.bind_some]
    by_cases c : gPq (sP σ) (wd n (sP σ))
    · rw [if_pos c, if_pos (iff.mpr c)]
    · rw [if_neg c, if_neg (fun g => c (iff.mp g))]
  · rw [dN_n hn]
    refine ⟨⟨fun i hi => ?_, (K2 (iff.mp g)).1⟩, (K2 (iff.mp g)).2⟩
    rw [(E2.2 71 i rfl).1, I_sI, if_neg (by omega)]; exact Hw i hi
theorem Slp_x {h' : eg_H} (E : eg_eq Slp h h') : eg_eq Rx h h' := cov_sub (by decide) E
theorem XOk_low {h' : eg_H} {S : List (Nat × Option Nat)} (X : XI h σ B) (E : eg_eq S h h') (hS : S.all (fun t => t.1 < 95) = true) (hd : eg_P0.all (fun t => !(eg_cov S t.1 t.2.1)) = true) (c : eg_cov S 38 3 = false ∧ eg_cov S 36 2 = false ∧ eg_cov S 23 1 = false ∧ eg_cov S 23 2 = false ∧ ∀ i, eg_cov S 39 i = false ∧ eg_cov S 24 i = false) (hx : ∀ t ∈ S, t ∈ Sx) : XOk h h' σ B := XOk_scr X (gr_sub hx (gr_eq E hS)) (XC_low X.2.2.1 E hS hd c)
theorem Spr_x {h' : eg_H} (X : XI h σ B) (E : eg_eq Spr h h') : XOk h h' σ B := XOk_low X E (by decide) (by decide) ⟨rfl, rfl, rfl, rfl, fun _ => ⟨rfl, rfl⟩⟩ (by decide)
theorem X_persons (X : XI h σ B) : fX7_persons h 23 = some (nI (sP σ), h) := by
  have hs := X.2.2.1.1
  unfold fX7_persons
  rw [if_pos (iO_23 hs), gI_23 hs, Option.bind_some, X.2.2.1.2.1.1]
def XPr (h : eg_H) (P : Nat) (w : Nat → Nat) : Prop := (∀ i, i < P → eg_I h 49 i = nI (w i)) ∧ ∀ k, k < cnW w P → eg_I h 50 k = nI (lwT w P k)
def MPr (h : eg_H) (P : Nat) (w : Nat → Nat) : Prop := ((∀ i, i < P → eg_I h 71 i = nI (w i)) ∧ eg_I h 54 54 = nI (cnW w P)) ∧ ∀ k, k < cnW w P → eg_I h 78 k = nI (lwT w P k)
theorem X_pairOf {P j : Nat} {w : Nat → Nat} (hs : eg_stt h) (hP : P ≤ 6) (K : XPr h P w) (hj : j < cnW w P) : fX9_pairOf h 47 (nI j) = some (nI (10 * lwT w P j + w (lwT w P j)), h) := by
  have hc := cn_le w P
  have hl := lw_in P j hj
  have hcl : (nI j).toNatClampNeg = j := nI_clamp (by omega)
  have hcl2 : (nI (lwT w P j)).toNatClampNeg = lwT w P j := nI_clamp (by omega)
  have a1 : eg_aI h 100 50 (nI j) = some (nI (lwT w P j)) := by rw [aI_50 hs (nI_pos (by omega)) (by rw [hcl]; omega), hcl, K.2 j hj]
  have a2 : eg_aI h 100 49 (nI (lwT w P j)) = some (nI (w (lwT w P j))) := by rw [aI_49 hs (nI_pos (by omega)) (by rw [hcl2]; omega), hcl2, K.1 _ hl.1]
  unfold fX9_pairOf
  rw [if_pos (iO_47 hs), if_neg (nI_pos (by omega)), gR_47 hs, rf_47_2 hs, Option.bind_some, al_50 hs, Option.bind_some, if_pos (nI_lt (by omega) (by omega)), Option.bind_some, a1, Option.bind_some, gR_47 hs, rf_47_1 hs, Option.bind_some, Option.bind_some, a1, Option.bind_some, a2, Option.bind_some, k10]
end LP
