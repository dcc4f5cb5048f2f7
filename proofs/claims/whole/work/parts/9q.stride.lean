def SL (q : Nat) : List (Nat × Option Nat) := (q, none) :: SP
theorem SL_x {q : Nat} (hq : q = 75 ∨ q = 76) {h h' : eg_H} (E : eg_eq (SL q) h h') : eg_eq Rx h h' := cov_sub (by rcases hq with rfl | rfl <;> decide) E
theorem SP_L {q : Nat} {h h' : eg_H} (E : eg_eq SP h h') : eg_eq (SL q) h h' := cov_sub (fun t ht => List.mem_cons_of_mem _ ht) E
section LC
variable {h : eg_H} {σ : eg_S} {B : Nat × Nat}
theorem M_layC_L {q : Nat} {f : Nat → Nat} (hq : q = 75 ∨ q = 76) : ∀ j i h F, i + j = 62 → j < F → eg_stt h → PNk h f 60 → (∀ k, k < i → eg_I h q k = nI (ft f k)) → ∃ h', fX13_layComes_L19 F h 54 q (nI (f 60)) (nI i) = some h' ∧ eg_eq [(q, none)] h h' ∧ ∀ k, k < 62 → eg_I h' q k = nI (ft f k) := by
  intro j
  induction j with
  | zero =>
    intro i h F hi hF hs K H
    obtain ⟨F, rfl⟩ : ∃ F', F = F' + 1 := ⟨F - 1, by omega⟩
    obtain rfl : i = 62 := by omega
    exact ⟨h, by rw [fX13_layComes_L19, if_pos (by decide)], eq_rfl, H⟩
  | succ j ih =>
    intro i h F hi hF hs K H
    obtain ⟨F, rfl⟩ : ∃ F', F = F' + 1 := ⟨F - 1, by omega⟩
    have hcl : (nI i).toNatClampNeg = i := nI_clamp (by omega)
    have hw : ∀ x, eg_wI h 100 q (nI i) x = some (eg_sI h q i x) := by
      intro x
      rcases hq with rfl | rfl
      · rw [wI_75 hs (nI_pos (by omega)) (by rw [hcl]; omega), hcl]
      · rw [wI_76 hs (nI_pos (by omega)) (by rw [hcl]; omega), hcl]
    have E0 : eg_eq [(q, none)] h (eg_sI h q i (nI (ft f i))) := eq_sI eq_rfl (by simp [eg_cov])
    have K0 : PNk (eg_sI h q i (nI (ft f i))) f 60 := ⟨fun k hk => by rw [I_sI, if_neg (by omega)]; exact K.1 k hk, by rw [I_sI, if_neg (by omega)]; exact K.2.1, K.2.2⟩
    have H0 : ∀ k, k < i + 1 → eg_I (eg_sI h q i (nI (ft f i))) q k = nI (ft f k) := by
      intro k hk
      rw [I_sI]
      by_cases c : k = i
      · subst c; rw [if_pos ⟨rfl, rfl⟩]
      · rw [if_neg (fun z => c z.2)]; exact H k (by omega)
    obtain ⟨h2, e2, E2, H2⟩ := ih (i + 1) (eg_sI h q i (nI (ft f i))) F (by omega) (by omega) hs K0 H0
    refine ⟨h2, ?_, eq_tr E0 E2, H2⟩
    rw [fX13_layComes_L19, if_neg (show ¬ (62 : Int32) ≤ nI i from nI_ge (b := 62) (by omega) (by omega))]
    by_cases c : i = 60
    · subst c
      have e60 : ft f 60 = f 60 := if_pos (by omega)
      rw [e60] at e2
      rw [if_pos (show nI 60 = 60 from rfl), hw, Option.bind_some, nI_1]
      exact e2
    · have e6 : eg_I h 69 i = nI (ft f i) := by
        rw [K.1 i (by omega)]
        unfold ft
        by_cases c6 : i ≤ 60
        · rw [if_pos c6, if_pos c6]
        · rw [if_neg c6, if_neg c6]; rfl
      rw [if_neg (show ¬ nI i = (60 : Int32) from fun z => c ((nI_eq (b := 60) (by omega) (by omega)).mp z)), gR_54 hs, rf_54_39 hs, Option.bind_some, aI_69 hs (nI_pos (by omega)) (by rw [hcl]; omega), hcl, Option.bind_some, e6, hw, Option.bind_some, nI_1]
      exact e2
theorem M_layC {U : Nat → Nat} {P E : Nat} {lw : eg_LW} (O : RO h U P E lw) {q a b e d : Nat} (hq : q = 75 ∨ q = 76) (ha : a < P) (hb : b < P) (he : e < E) (hd : d ≤ 1) : ∃ h', fX13_layComes h 54 (nI (10 * a + b)) (nI (10 * e + d)) q = some h' ∧ eg_eq (SL q) h h' ∧ ∀ k, k < 62 → eg_I h' q k = nI (ft (ptF U lw (U 0) a b e d (U 2)) k) := by
  have hs := O.1
  have hU := O.2.1
  obtain ⟨h1, e1, E1, K1⟩ := M_pair O ha hb he hd (st := U 2) (n := 60) (by have := hU.1.2.2.2.2.2.1; omega) (by omega)
  have s1 := eq_stt E1 hs (by decide)
  have e2 : eg_aI h 100 59 2 = some (nI (U 2)) := R_mea O (x := 2) (by omega)
  have e1' : fX13_goPair h 54 (nI (10 * a + b)) (nI (10 * e + d)) (nI (U 2)) 60 = _ := e1
  obtain ⟨h2, e3, E2, H2⟩ := M_layC_L (f := ptF U lw (U 0) a b e d (U 2)) hq 62 0 h1 eg_F (by omega) (by rw [eg_F_eq]; omega) s1 K1 (fun k hk => by omega)
  have e3' : fX13_layComes_L19 eg_F h1 54 q (nI (ptF U lw (U 0) a b e d (U 2) 60)) 0 = some h2 := e3
  refine ⟨h2, ?_, eq_tr (SP_L E1) (cov_sub (fun t ht => by simp at ht; rw [ht]; exact List.mem_cons_self) E2), H2⟩
  unfold fX13_layComes
  rw [if_pos (iO_54 hs), gR_54 hs, rf_54_18 hs, Option.bind_some, e2, Option.bind_some, e1', Option.bind_some]
  dsimp only
  rw [e3', Option.bind_some]
theorem M_duel_L {f g : Nat → Nat} {w : Int32} (hf : dec f) (hg : dec g) (hs : eg_stt h) (K1 : ∀ k, k < 62 → eg_I h 75 k = nI (ft f k)) (K2 : ∀ k, k < 62 → eg_I h 76 k = nI (ft g k)) : ∀ j i F, i + j = 61 → j < F → fX13_duel_L100 F h 54 w (jI ((sm (dlF f g (decide (w = 0))) i : Nat) : Int)) (nI i) = some (jI ((sm (dlF f g (decide (w = 0))) 61 : Nat) : Int), h) := by
  intro j
  induction j with
  | zero =>
    intro i F hi hF
    obtain ⟨F, rfl⟩ : ∃ F', F = F' + 1 := ⟨F - 1, by omega⟩
    obtain rfl : i = 61 := by omega
    rw [fX13_duel_L100, if_pos (by decide)]
  | succ j ih =>
    intro i F hi hF
    obtain ⟨F, rfl⟩ : ∃ F', F = F' + 1 := ⟨F - 1, by omega⟩
    have e3 := ih (i + 1) F (by omega) (by omega)
    have hb := dl_b (w := decide (w = 0)) hf hg i
    have hcl : (nI i).toNatClampNeg = i := nI_clamp (by omega)
    have hcl1 : (nI (i + 1)).toNatClampNeg = i + 1 := nI_clamp (by omega)
    have a1 : ∀ k, k < 62 → eg_aI h 100 75 (nI k) = some (nI (ft f k)) := fun k hk => by
      have hk' : (nI k).toNatClampNeg = k := nI_clamp (by omega)
      rw [aI_75 hs (nI_pos (by omega)) (by rw [hk']; omega), hk', K1 k hk]
    have a2 : ∀ k, k < 62 → eg_aI h 100 76 (nI k) = some (nI (ft g k)) := fun k hk => by
      have hk' : (nI k).toNatClampNeg = k := nI_clamp (by omega)
      rw [aI_76 hs (nI_pos (by omega)) (by rw [hk']; omega), hk', K2 k hk]
    have d1 := ft_dec hf i
    have d2 := ft_dec hg i
    have ej : (nI (ft f i) - nI (ft f (i + 1))).toInt64 = jI (jst f i : Nat) := by rw [n_sub d1.1, nW (by omega)]; rfl
    rw [fX13_duel_L100, if_neg (show ¬ (60 : Int32) < nI i from nI_nlt (a := 60) (by omega) (by omega)), gR_54 hs, rf_54_50 hs, Option.bind_some, a1 i (by omega), Option.bind_some, Option.bind_some, nI_1, a1 (i + 1) (by omega), Option.bind_some, ej, Option.bind_some]
    rw [sm, dlF] at e3
    by_cases c : w = 0
    · rw [if_pos (decide_eq_true c)] at e3 hb
      rw [if_pos c, gR_54 hs, rf_54_51 hs, Option.bind_some, a2 i (by omega), Option.bind_some, show (1000000000 : Int32) = nI 1000000000 from rfl, n_sub d2.2, nW (by omega), show (1000000000 : Int64) = jI ((1000000000 : Nat) : Int) from rfl, j_md (by omega) (by omega), jI_add, Option.bind_some]
      rw [Int.natCast_add] at e3
      exact e3
    · have cc : ¬ decide (w = 0) = true := fun z => c (of_decide_eq_true z)
      have ej2 : (nI (ft g i) - nI (ft g (i + 1))).toInt64 = jI (jst g i : Nat) := by rw [n_sub d2.1, nW (by omega)]; rfl
      rw [if_neg cc] at e3 hb
      rw [if_neg c, gR_54 hs, rf_54_51 hs, Option.bind_some, a2 i (by omega), Option.bind_some, Option.bind_some, a2 (i + 1) (by omega), Option.bind_some, ej2, show (1000000000 : Int64) = jI ((1000000000 : Nat) : Int) from rfl, j_md (by omega) (by omega), jI_add, Option.bind_some]
      rw [Int.natCast_add] at e3
      exact e3
theorem M_duel (R : RI h σ) (one oth eg w : Int32) : ∃ h', fX13_duel h 54 one oth eg w = some (aDuel σ one oth eg w, h') ∧ ROk h h' σ := by
  obtain ⟨R0, Q0⟩ := R_0 R
  have hs := R.1
  have s0 := R0.1
  have hP := RI_P R
  unfold fX13_duel aDuel
  rw [if_pos (iO_54 hs), pI_54 hs, Option.bind_some]
  rw [M_isTwo s0 R0.2.2.2.1 one, Option.bind_some]
  dsimp only
  rw [g01]
  by_cases c1 : G2 (sP σ) one
  rotate_left
  · rw [if_neg c1, if_neg (fun z => c1 z.1.1.1.1.1)]; exact ⟨_, rfl, ROk_scr R Q0⟩
  rw [if_pos c1]
  rw [M_isTwo s0 R0.2.2.2.1 oth, Option.bind_some]
  dsimp only
  rw [g01]
  by_cases c2 : G2 (sP σ) oth
  rotate_left
  · rw [if_neg c2, if_neg (fun z => c2 z.1.1.1.1.2)]; exact ⟨_, rfl, ROk_scr R Q0⟩
  rw [if_pos c2]
  by_cases c3 : eg < 0
  · rw [if_pos c3, if_neg (fun z => z.1.1.1.2 c3)]; exact ⟨_, rfl, ROk_scr R Q0⟩
  rw [if_neg c3]
  rw [M_isEgg s0 R0.2.2.2.1 _, Option.bind_some]
  dsimp only
  rw [g01]
  by_cases c4 : G1 (sE σ) (eg / 10)
  rotate_left
  · rw [if_neg c4, if_neg (fun z => c4 z.1.1.2)]; exact ⟨_, rfl, ROk_scr R Q0⟩
  rw [if_pos c4]
  rw [M_isEgg s0 R0.2.2.2.1 _, Option.bind_some]
  dsimp only
  rw [g01]
  by_cases c5 : G1 (sE σ) (eg % 10)
  rotate_left
  · rw [if_neg c5, if_neg (fun z => c5 z.1.2)]; exact ⟨_, rfl, ROk_scr R Q0⟩
  rw [if_pos c5]
  rw [M_GI (lo := 0) (hi := 1) _ w (by omega) (by omega) 0 1 rfl rfl, Option.bind_some]
  dsimp only
  rw [g01]
  by_cases c6 : GI (nI 0) (nI 1) w
  rotate_left
  · rw [if_neg c6, if_neg (fun z => c6 z.2)]; exact ⟨_, rfl, ROk_scr R Q0⟩
  rw [if_pos c6]
  rw [if_pos (show gDu σ one oth eg ∧ GI (nI 0) (nI 1) w from ⟨⟨⟨⟨⟨c1, c2⟩, c3⟩, c4⟩, c5⟩, c6⟩)]
  obtain ⟨a, b, ha, hb, hab, rfl⟩ := G2_n hP.1 c1
  obtain ⟨p, q, hp, hq, hpq, rfl⟩ := G2_n hP.1 c2
  obtain ⟨x, y, hx, hy, rfl⟩ := gDu_n (P := sP σ) hP.2 c3 c4 c5
  have O := RI_RO R0 (by omega)
  obtain ⟨h1, e1, E1, K1⟩ := M_layC O (q := 75) (Or.inl rfl) ha hb hx (d := 0) (by omega)
  have R1 := RI_scr R0 (SL_x (Or.inl rfl) E1)
  obtain ⟨h2, e2, E2, K2⟩ := M_layC (RI_RO R1 (by omega)) (q := 76) (Or.inr rfl) hp hq hy (d := 0) (by omega)
  have s1 := R1.1
  have R2 := RI_scr R1 (SL_x (Or.inr rfl) E2)
  have K1' : ∀ k, k < 62 → eg_I h2 75 k = nI (ft (ptS σ a b x 0) k) := fun k hk => by rw [(E2.2 75 k rfl).1]; exact K1 k hk
  have e3 := M_duel_L (w := w) dec_pt dec_pt R2.1 K1' K2 61 0 eg_F (by omega) (by rw [eg_F_eq]; omega)
  have e3' : fX13_duel_L100 eg_F h2 54 w 0 0 = _ := e3
  have e1' : fX13_layComes (eg_sI h 54 0 0) 54 (nI (10 * a + b)) (nI (10 * x)) 75 = some h1 := e1
  have e2' : fX13_layComes h1 54 (nI (10 * p + q)) (nI (10 * y)) 76 = some h2 := e2
  refine ⟨h2, ?_, ROk_scr R (eq_tr Q0 (eq_tr (SL_x (Or.inl rfl) E1) (SL_x (Or.inr rfl) E2)))⟩
  rw [gR_54 s0, rf_54_50 s0, Option.bind_some, (i10 x y (by omega) (by omega)).1, (i10 x y (by omega) (by omega)).2, Int32.mul_comm (nI x) 10, Int32.mul_comm (nI y) 10, nI_k10, nI_k10, e1', Option.bind_some, gR_54 s1, rf_54_51 s1, Option.bind_some, e2', Option.bind_some, e3', Option.bind_some, (dAB (a := a) (b := b) (by omega) (by omega)).1, (dAB (a := a) (b := b) (by omega) (by omega)).2, (dAB (a := p) (b := q) (by omega) (by omega)).1, (dAB (a := p) (b := q) (by omega) (by omega)).2, (dAB (a := x) (b := y) (by omega) (by omega)).1, (dAB (a := x) (b := y) (by omega) (by omega)).2]
  rfl
end LC
theorem tOf_2 {U : Nat → Nat} {w wd p r e d : Nat} : tOf (upU U 2 w) wd p r e d = tOf U wd p r e d := by
  have hu : ∀ x, ¬ x = 2 → upU U 2 w x = U x := fun x hx => if_neg hx
  unfold tOf blw limU
  rw [hu 1 (by omega), hu (4 + 4 * p) (by omega), hu (7 + 4 * p) (by omega), hu (5 + 4 * r) (by omega), hu (6 + 4 * r) (by omega), hu (29 + 2 * e) (by omega), hu (28 + 2 * e) (by omega)]
theorem pt_2 {U : Nat → Nat} {lw : eg_LW} {w wd a b e d st : Nat} : ∀ k, ptF (upU U 2 w) lw wd a b e d st k = ptF U lw wd a b e d st k := by
  have hu : ∀ x, ¬ x = 2 → upU U 2 w x = U x := fun x hx => if_neg hx
  intro k
  induction k with
  | zero => rfl
  | succ k ih =>
    have ey : yK (upU U 2 w) st (k + 1) = yK U st (k + 1) := by
      unfold yK
      rw [hu 3 (by omega)]
    have et : tK (upU U 2 w) wd a b e d (k + 1) = tK U wd a b e d (k + 1) := by
      unfold tK
      exact tOf_2
    show (if 60 < yK (upU U 2 w) st (k + 1) ∨ ptF (upU U 2 w) lw wd a b e d st k = 0 then 0 else ptF (upU U 2 w) lw wd a b e d st k * bgd lw (tK (upU U 2 w) wd a b e d (k + 1)) (yK (upU U 2 w) st (k + 1)) / (2 * upU U 2 w (4 + 4 * fOd (k + 1) a b) + 1)) = _
    rw [ey, et, ih, hu (4 + 4 * fOd (k + 1) a b) (by omega)]
    rfl
theorem Uok_2 {U : Nat → Nat} {P E w : Nat} (h : Uok U P E) (hw : 1 ≤ w ∧ w ≤ 9) : Uok (upU U 2 w) P E := by
  have hu : ∀ x, ¬ x = 2 → upU U 2 w x = U x := fun x hx => if_neg hx
  obtain ⟨⟨a1, a2, a3, a4, a5, a6, a7, a8⟩, b, c⟩ := h
  have e2 : upU U 2 w 2 = w := if_pos rfl
  refine ⟨⟨a1, a2, ?_, ?_, ?_, ?_, ?_, ?_⟩, fun p hp => ?_, fun e he => ?_⟩
  · rw [hu 0 (by omega)]; exact a3
  · rw [hu 1 (by omega)]; exact a4
  · rw [e2]; exact hw.1
  · rw [e2]; exact hw.2
  · rw [hu 3 (by omega)]; exact a7
  · rw [hu 3 (by omega)]; exact a8
  · rw [hu (4 + 4 * p) (by omega), hu (5 + 4 * p) (by omega), hu (6 + 4 * p) (by omega), hu (7 + 4 * p) (by omega)]; exact b p hp
  · rw [hu (28 + 2 * e) (by omega), hu (29 + 2 * e) (by omega)]; exact c e he
def gnF (U3 st : Nat) (f : Nat → Nat) (i : Nat) : Nat := (U3 + i * st) * ft f (i + 1) / 1000000
def gSt (σ : eg_S) (a b e d : Nat) : Nat → Nat := fun s => sm (gnF (sU σ 3) (s + 1) (ptF (sU σ) (sL σ) (sU σ 0) a b e d (s + 1))) 60
def aStride (σ : eg_S) (two c w : Int32) : Int64 := if (G2 (sP σ) two ∧ GE (sE σ) c) ∧ GI (nI 0) (nI 1) w then (if w = 0 then jI ((bi (gSt σ (dA two) (dB two) (dA c) (dB c)) 9 + 1 : Nat) : Int) else jI (gSt σ (dA two) (dB two) (dA c) (dB c) (bi (gSt σ (dA two) (dB two) (dA c) (dB c)) 9))) else -1
theorem fr_iff {f : Nat → Nat} (hd : dec f) : ∀ n k, 1 ≤ k → k ≤ n → (0 < f k ↔ k ≤ frF f n) := by
  have up : ∀ m k, 0 < f (k + m) → 0 < f k := by
    intro m
    induction m with
    | zero => intro k h; exact h
    | succ m ih => intro k h; exact ih k (Nat.lt_of_lt_of_le h (hd.1 (k + m)))
  intro n
  induction n with
  | zero => intro k h1 h2; omega
  | succ n ih =>
    intro k h1 h2
    have e : frF f (n + 1) = frF f n + (if 0 < f (n + 1) then 1 else 0) := rfl
    have hle := fr_le f n
    rw [e]
    by_cases c : 0 < f (n + 1)
    · rw [if_pos c]
      have full : frF f n = n := by
        rcases Nat.eq_zero_or_pos n with z | z
        · subst z; rfl
        · have h3 : 0 < f n := Nat.lt_of_lt_of_le c (hd.1 n)
          have := (ih n z (Nat.le_refl _)).mp h3
          omega
      have hk : 0 < f k := up (n + 1 - k) k (by rw [show k + (n + 1 - k) = n + 1 by omega]; exact c)
      constructor
      · intro _; omega
      · intro _; exact hk
    · rw [if_neg c]
      rcases (by omega : k ≤ n ∨ k = n + 1) with z | z
      · have := ih k h1 z
        omega
      · subst z
        constructor
        · intro w; exact absurd w c
        · intro w; omega
theorem dz_pt {U : Nat → Nat} {lw : eg_LW} {wd a b e d st : Nat} : ∀ i, 60 < U 3 + i * st → ptF U lw wd a b e d st (i + 1) = 0 := by
  intro i hi
  have hy : yK U st (i + 1) = U 3 + i * st := by
    unfold yK
    rw [show i + 1 - 1 = i by omega]
  show (if _ then 0 else _) = 0
  rw [if_pos (Or.inl (by rw [hy]; exact hi))]
theorem gn_b {U3 st i : Nat} {f : Nat → Nat} (hd : dec f) (hz : ∀ i, 60 < U3 + i * st → f (i + 1) = 0) : (U3 + i * st) * ft f (i + 1) ≤ 60 * 1000000000 ∧ gnF U3 st f i ≤ 60000 := by
  have h1 := (ft_dec hd (i + 1)).2
  have h4 : (U3 + i * st) * ft f (i + 1) ≤ 60 * 1000000000 := by
    rcases Nat.lt_or_ge 60 (U3 + i * st) with z | z
    · have h0 : ft f (i + 1) = 0 := by
        unfold ft
        rw [hz i z]
        split <;> rfl
      rw [h0, Nat.mul_zero]
      exact Nat.zero_le _
    · exact Nat.mul_le_mul z h1
  refine ⟨h4, ?_⟩
  unfold gnF
  exact Nat.le_trans (Nat.div_le_div_right h4) (by decide)
theorem gn_sum {U3 st : Nat} {f : Nat → Nat} (hd : dec f) (hz : ∀ i, 60 < U3 + i * st → f (i + 1) = 0) : ∀ n, sm (gnF U3 st f) n ≤ n * 60000 := by
  intro n
  induction n with
  | zero => exact Nat.zero_le _
  | succ n ih =>
    have h1 := (gn_b (i := n) hd hz).2
    show sm _ n + gnF U3 st f n ≤ _
    rw [Nat.succ_mul]
    omega
section SDD
variable {h : eg_H} {σ : eg_S} {B : Nat × Nat}
theorem gSt_b (σ : eg_S) (a b e d k : Nat) : gSt σ a b e d k ≤ 1000000000000000 := by
  have := gn_sum (U3 := sU σ 3) (st := k + 1) (f := ptF (sU σ) (sL σ) (sU σ 0) a b e d (k + 1)) dec_pt dz_pt 60
  unfold gSt
  omega
theorem X_gainOf {c st n : Nat} (hc : isC c) (hs : eg_stt h) {U : Nat → Nat} {P E : Nat} (V : XV h U P E) (h3 : U 3 ≤ 60) {f : Nat → Nat} (hd : dec f) (hz : ∀ i, 60 < U 3 + i * st → f (i + 1) = 0) (K : CO h c f st) (hst : st ≤ 9) (hn : n ≤ 60) : fX2_gainOf h c (nI (n + 1)) = some (nI (gnF (U 3) st f n), h) := by
  obtain ⟨o1, o2, o3, o4⟩ := C_o hs hc
  have hb := gn_b (i := n) hd hz
  have h2 : n * st ≤ 60 * 9 := Nat.mul_le_mul hn hst
  have h1 := (ft_dec hd (n + 1)).2
  unfold fX2_gainOf
  rw [if_pos o1, show eg_gR h 2 0 c = eg_P h c 0 from if_pos o1, o2, Option.bind_some, show eg_gI h 2 3 c = some (eg_I h c 3) from if_pos o1, Option.bind_some, K.2.2.2.1, X_yards hs V (by omega), Option.bind_some]
  dsimp only
  rw [X_ct hc hs K (by omega), Option.bind_some, show n + 1 - 1 = n by omega]
  dsimp only
  rw [nW (by omega), nW (by omega), show (1000000 : Int64) = jI ((1000000 : Nat) : Int) from rfl, j_md (by omega) (by omega)]
  have hg : gnF (U 3) st f n < 2 ^ 31 := by have := hb.2; omega
  rw [show (U 3 + n * st) * ft f (n + 1) / 1000000 = gnF (U 3) st f n from rfl, jW hg]
theorem X_gains_L {c st : Nat} (hc : isC c) (hs : eg_stt h) {U : Nat → Nat} {P E : Nat} (V : XV h U P E) (h3 : U 3 ≤ 60) {f : Nat → Nat} (hd : dec f) (hz : ∀ i, 60 < U 3 + i * st → f (i + 1) = 0) (K : CO h c f st) (hst : st ≤ 9) : ∀ j i F, i + j = frF f 60 → j < F → fX2_gains_L4 F h c (jI ((sm (gnF (U 3) st f) i : Nat) : Int)) (nI (i + 1)) = some (jI ((sm (gnF (U 3) st f) (frF f 60) : Nat) : Int), h) := by
  have o1 := (C_o hs hc).1
  have hle := fr_le f 60
  intro j
  induction j with
  | zero =>
    intro i F hi hF
    obtain ⟨F, rfl⟩ : ∃ F', F = F' + 1 := ⟨F - 1, by omega⟩
    obtain rfl : i = frF f 60 := by omega
    rw [fX2_gains_L4, show eg_gI h 2 2 c = some (eg_I h c 2) from if_pos o1, Option.bind_some, K.2.2.1, if_pos (nI_lt (by omega) (by omega))]
  | succ j ih =>
    intro i F hi hF
    obtain ⟨F, rfl⟩ : ∃ F', F = F' + 1 := ⟨F - 1, by omega⟩
    have e3 := ih (i + 1) F (by omega) (by omega)
    have hb := gn_b (i := i) hd hz
    rw [fX2_gains_L4, show eg_gI h 2 2 c = some (eg_I h c 2) from if_pos o1, Option.bind_some, K.2.2.1, if_neg (nI_nlt (by omega) (by omega)), X_gainOf hc hs V h3 hd hz K hst (by omega), Option.bind_some]
    dsimp only
    rw [nW (by omega), jI_add, Option.bind_some, nI_1]
    rw [sm, Int.natCast_add] at e3
    exact e3
theorem X_gains {c st : Nat} (hc : isC c) (hs : eg_stt h) {U : Nat → Nat} {P E : Nat} (V : XV h U P E) (h3 : U 3 ≤ 60) {f : Nat → Nat} (hd : dec f) (hz : ∀ i, 60 < U 3 + i * st → f (i + 1) = 0) (K : CO h c f st) (hst : st ≤ 9) : fX2_gains h c = some (jI ((sm (gnF (U 3) st f) 60 : Nat) : Int), h) := by
  have e := X_gains_L hc hs V h3 hd hz K hst (frF f 60) 0 eg_F (by omega) (by have := fr_le f 60; rw [eg_F_eq]; omega)
  have e' : fX2_gains_L4 eg_F h c 0 1 = _ := e
  have hs60 : sm (gnF (U 3) st f) 60 = sm (gnF (U 3) st f) (frF f 60) := by
    have hle := fr_le f 60
    have e1 := sm_add (gnF (U 3) st f) (frF f 60) (60 - frF f 60)
    rw [show frF f 60 + (60 - frF f 60) = 60 by omega] at e1
    have hz0 : sm (fun i => gnF (U 3) st f (frF f 60 + i)) (60 - frF f 60) = 0 := sm_0 (fun i hi => by
      have hz : ft f (frF f 60 + i + 1) = 0 := by
        unfold ft
        rw [if_pos (by omega)]
        have := fr_iff hd 60 (frF f 60 + i + 1) (by omega) (by omega)
        rcases Nat.eq_zero_or_pos (f (frF f 60 + i + 1)) with z | z
        · exact z
        · have := this.mp z; omega
      unfold gnF
      rw [hz, Nat.mul_zero, Nat.zero_div])
    rw [e1, hz0, Nat.add_zero]
  unfold fX2_gains
  rw [if_pos (C_o hs hc).1, e', Option.bind_some, hs60]
theorem X_fillS (X : XI h σ B) {a b e d s : Nat} (ha : a < sP σ) (hb : b < sP σ) (he : e < sE σ) (hd : d ≤ 1) (hs' : s ≤ 60) : ∃ h', fX2_fill h 41 38 (nI (10 * a + b)) (nI (10 * e + d)) (nI s) (nI (sU σ 0)) = some h' ∧ XOk h h' σ B ∧ CO h' 41 (ptF (sU σ) (sL σ) (sU σ 0) a b e d s) s := by
  have hU := XI_U X (by omega)
  obtain ⟨h', e1, G1, C1, K1⟩ := X_crs (c := 41) (Or.inl rfl) hU X.2.2.1 ha hb he hd (wd := sU σ 0) (st := s) hU.1.2.2.1 hs'
  exact ⟨h', e1, XOk_scr X (SC_x (Or.inl rfl) G1) C1, K1⟩
theorem aR_40_0 (hs : eg_stt h) : eg_aR h 112 40 0 = some 41 := by
  unfold eg_aR
  rw [if_pos ⟨by omega, by rw [kd_40 hs], by decide, by rw [kd_40 hs]; decide⟩]
  exact rf_40_0 hs
theorem X_stride_L {a b e d : Nat} {w : Int32} (ha : a < sP σ) (hb : b < sP σ) (he : e < sE σ) (hd : d ≤ 1) : ∀ j i h F, i + j = 9 → j < F → XI h σ B → ∃ h', fX12_stride_L35 F h 16 (nI (10 * a + b)) (nI (10 * e + d)) w (mo (gSt σ a b e d) i) (wA (fun k => k + 1) (gSt σ a b e d) 0 i) (nI (i + 1)) = some (w, mo (gSt σ a b e d) 9, wA (fun k => k + 1) (gSt σ a b e d) 0 9, h') ∧ XOk h h' σ B := by
  intro j
  induction j with
  | zero =>
    intro i h F hi hF X
    obtain ⟨F, rfl⟩ : ∃ F', F = F' + 1 := ⟨F - 1, by omega⟩
    obtain rfl : i = 9 := by omega
    exact ⟨h, by rw [fX12_stride_L35, show eg_tI 3 2 = some 9 from rfl, Option.bind_some, if_pos (by decide)], XOk_rfl X⟩
  | succ j ih =>
    intro i h F hi hF X
    obtain ⟨F, rfl⟩ : ∃ F', F = F' + 1 := ⟨F - 1, by omega⟩
    have C := X.2.2.1
    have hs := C.1
    have hU := XI_U X (by omega)
    have e0 : fX7_told h 23 0 = some (nI (sU σ 0), h) := X_told hs C.2.1 (x := 0) (by omega)
    obtain ⟨h1, e1, O1, K1⟩ := X_fillS X ha hb he hd (s := i + 1) (by omega)
    have C1 := O1.1.2.2.1
    have e2 := X_gains (c := 41) (Or.inl rfl) C1.1 C1.2.1 hU.1.2.2.2.2.2.2.2 dec_pt dz_pt K1 (by omega)
    obtain ⟨h2, e3, O2⟩ := ih (i + 1) h1 F (by omega) (by omega) O1.1
    refine ⟨h2, ?_, XOk_tr O1 O2⟩
    rw [mo_s (gSt_b σ a b e d), wA_s _ (gSt_b σ a b e d)] at e3
    rw [fX12_stride_L35, show eg_tI 3 2 = some 9 from rfl, Option.bind_some, if_neg (show ¬ (9 : Int32) < nI (i + 1) from nI_nlt (a := 9) (by omega) (by omega)), gR_16 hs, rf_16_17 hs, Option.bind_some, aR_40_0 hs, Option.bind_some, gR_16 hs, rf_16_16 hs, Option.bind_some, gR_16 hs, rf_16_3 hs, Option.bind_some, e0, Option.bind_some]
    dsimp only
    rw [e1, Option.bind_some, e2, Option.bind_some, nI_1]
    dsimp only
    show (if jI (gSt σ a b e d i) ≤ _ then _ else _) = _
    by_cases c : jI (gSt σ a b e d i) ≤ mo (gSt σ a b e d) i
    · rw [if_pos c, if_pos c] at e3
      rw [if_pos c]
      exact e3
    · rw [if_neg c, if_neg c] at e3
      rw [if_neg c]
      exact e3
theorem X_stride (X : XI h σ B) (two c w : Int32) : ∃ h', fX12_stride h 16 two c w = some (aStride σ two c w, h') ∧ XOk h h' σ B := by
  have C := X.2.2.1
  have hs := C.1
  have hP := XI_P X
  unfold fX12_stride aStride
  rw [if_pos (iO_16 hs)]
  rw [X_isCourse hs C.2.1 two c, Option.bind_some]
  dsimp only
  rw [g01]
  by_cases c1 : G2 (sP σ) two ∧ GE (sE σ) c
  rotate_left
  · rw [if_neg c1, if_neg (fun z => c1 z.1)]; exact ⟨h, rfl, XOk_rfl X⟩
  rw [if_pos c1]
  rw [X_isEither h w, Option.bind_some]
  dsimp only
  rw [g01]
  by_cases c3 : GI (nI 0) (nI 1) w
  rotate_left
  · rw [if_neg c3, if_neg (fun z => c3 z.2)]; exact ⟨h, rfl, XOk_rfl X⟩
  rw [if_pos c3]
  rw [if_pos (show (G2 (sP σ) two ∧ GE (sE σ) c) ∧ GI (nI 0) (nI 1) w from ⟨c1, c3⟩)]
  obtain ⟨a, b, ha, hb, hab, rfl⟩ := G2_n hP.1 c1.1
  obtain ⟨e, d, he, hd, rfl⟩ := GE_n hP.2 c1.2
  obtain ⟨h', e1, O1⟩ := X_stride_L (w := w) ha hb he hd 9 0 h eg_F (by omega) (by rw [eg_F_eq]; omega) X
  have e1' : fX12_stride_L35 eg_F h 16 (nI (10 * a + b)) (nI (10 * e + d)) w (-1) 0 1 = _ := e1
  refine ⟨h', ?_, O1⟩
  have em : mo (gSt σ a b e d) 9 = jI (gSt σ a b e d (bi (gSt σ a b e d) 9)) := if_neg (by omega)
  have ew : wA (fun k => k + 1) (gSt σ a b e d) 0 9 = nI (bi (gSt σ a b e d) 9 + 1) := if_neg (by omega)
  have hbi := bi_lt (gSt σ a b e d) 9 (by omega)
  rw [show eg_tI 2 2 = some 1 from rfl, Option.bind_some, e1', Option.bind_some, em, ew, (dAB (a := a) (b := b) (by omega) (by omega)).1, (dAB (a := a) (b := b) (by omega) (by omega)).2, (dAB (a := e) (b := d) (by omega) (by omega)).1, (dAB (a := e) (b := d) (by omega) (by omega)).2]
  dsimp only
  by_cases w0 : w = 0
  · rw [if_pos w0, if_pos w0, nW (by omega)]
  · rw [if_neg w0, if_neg w0]
theorem RO_2 {U : Nat → Nat} {P E w : Nat} {lw : eg_LW} (O : RO h U P E lw) (hw : 1 ≤ w ∧ w ≤ 9) : RO (eg_sI h 59 2 (nI w)) (upU U 2 w) P E lw := by
  obtain ⟨o1, o2, ⟨v1, v2, v3, v4, v5⟩, o4⟩ := O
  have hu : ∀ x, ¬ x = 2 → upU U 2 w x = U x := fun x hx => if_neg hx
  refine ⟨o1, Uok_2 o2 hw, ⟨fun x hx => ?_, fun x hx => ?_, fun x hx => ?_, ?_, ?_⟩, ?_⟩
  · rw [I_sI]
    by_cases c : x = 2
    · subst c
      rw [if_pos ⟨rfl, rfl⟩]
      rfl
    · rw [if_neg (fun z => c z.2), hu x c]; exact v1 x hx
  · rw [I_sI, if_neg (by omega), hu (4 + x) (by omega)]; exact v2 x hx
  · rw [I_sI, if_neg (by omega), hu (28 + x) (by omega)]; exact v3 x hx
  · rw [I_sI, if_neg (by omega)]; exact v4
  · rw [I_sI, if_neg (by omega)]; exact v5
  · cases lw with
    | none => show eg_I (eg_sI h 59 2 (nI w)) 54 34 = -1; rw [I_sI, if_neg (by omega)]; exact o4
    | some f =>
      obtain ⟨j, n, t, u, a1, a2, a3, a4, a5, a6, a7, a8⟩ := o4
      refine ⟨j, n, t, u, a1, a2, ?_, ?_, a5, fun i hi => ?_, a7, a8⟩
      · rw [I_sI, if_neg (by omega)]; exact a3
      · rw [I_sI, if_neg (by omega)]; exact a4
      · rw [I_sI, if_neg (by omega)]; exact a6 i hi
theorem RO_L75 {h' : eg_H} {U : Nat → Nat} {P E : Nat} {lw : eg_LW} (O : RO h U P E lw) (Q : eg_eq (SL 75) h h') : RO h' U P E lw := RO_eq O Q (by decide) ⟨⟨rfl, rfl, rfl⟩, fun _ => ⟨rfl, rfl, rfl, rfl, rfl⟩⟩
theorem M_str_in {a b e d s : Nat} {f : Nat → Nat} {w l4 : Int32} {l5 l7 : Int64} {U : Nat → Nat} {P E : Nat} {lw : eg_LW} (O : RO h U P E lw) (hs1 : s ≤ 9) (h3 : U 3 ≤ 60) (hd : dec f) (hz : ∀ i, 60 < U 3 + i * s → f (i + 1) = 0) (K : ∀ k, k < 62 → eg_I h 75 k = nI (ft f k)) : ∀ j i F, i + j = 60 → j < F → fX13_stride_L87 F h 54 (nI (10 * a + b)) (nI (10 * e + d)) w l4 l5 l7 (nI s) (jI ((sm (gnF (U 3) s f) i : Nat) : Int)) (nI (i + 1)) = some (54, nI (10 * a + b), nI (10 * e + d), w, l4, l5, l7, nI s, jI ((sm (gnF (U 3) s f) 60 : Nat) : Int), h) := by
  have hs := O.1
  intro j
  induction j with
  | zero =>
    intro i F hi hF
    obtain ⟨F, rfl⟩ : ∃ F', F = F' + 1 := ⟨F - 1, by omega⟩
    obtain rfl : i = 60 := by omega
    rw [fX13_stride_L87, if_pos (by decide)]
  | succ j ih =>
    intro i F hi hF
    obtain ⟨F, rfl⟩ : ∃ F', F = F' + 1 := ⟨F - 1, by omega⟩
    have e3 := ih (i + 1) F (by omega) (by omega)
    have hb := gn_b (i := i) hd hz
    have h2 : i * s ≤ 60 * 9 := Nat.mul_le_mul (by omega) hs1
    have h1 := (ft_dec hd (i + 1)).2
    have hk' : (nI (i + 1)).toNatClampNeg = i + 1 := nI_clamp (by omega)
    have e0 : eg_aI h 100 59 3 = some (nI (U 3)) := R_mea O (x := 3) (by omega)
    have ey : nI (U 3) + (nI (i + 1) - 1) * nI s = nI (U 3 + i * s) := by
      rw [nI_m1, ← iI_n, ← iI_n, ← iI_n, ← iI_n, iI_mul, iI_add]
      rfl
    rw [fX13_stride_L87, if_neg (show ¬ (60 : Int32) < nI (i + 1) from nI_nlt (a := 60) (by omega) (by omega)), gR_54 hs, rf_54_18 hs, Option.bind_some, e0, Option.bind_some, gR_54 hs, rf_54_50 hs, Option.bind_some, aI_75 hs (nI_pos (by omega)) (by rw [hk']; omega), hk', Option.bind_some, K (i + 1) (by omega), ey, nW (by omega), nW (by omega), show (1000000 : Int64) = jI ((1000000 : Nat) : Int) from rfl, j_md (by omega) (by omega), jI_add, Option.bind_some, nI_1]
    rw [sm, Int.natCast_add] at e3
    exact e3
theorem M_stride_L {a b e d : Nat} {w v : Int32} (O : RO h (sU σ) (sP σ) (sE σ) (sL σ)) (ha : a < sP σ) (hb : b < sP σ) (he : e < sE σ) (hd : d ≤ 1) : ∀ j i g x F, i + j = 9 → j < F → eg_eq (SL 75) (eg_sI h 59 2 x) g → ∃ g' z, fX13_stride_L56 F g 54 (nI (10 * a + b)) (nI (10 * e + d)) w v (wB (fun k => k + 1) (gSt σ a b e d) (-1) i) (mo (gSt σ a b e d) i) (nI (i + 1)) = some (54, w, v, wB (fun k => k + 1) (gSt σ a b e d) (-1) 9, mo (gSt σ a b e d) 9, g') ∧ eg_eq (SL 75) (eg_sI h 59 2 z) g' := by
  intro j
  induction j with
  | zero =>
    intro i g x F hi hF Q
    obtain ⟨F, rfl⟩ : ∃ F', F = F' + 1 := ⟨F - 1, by omega⟩
    obtain rfl : i = 9 := by omega
    exact ⟨g, x, by rw [fX13_stride_L56, if_pos (by decide)], Q⟩
  | succ j ih =>
    intro i g x F hi hF Q
    obtain ⟨F, rfl⟩ : ∃ F', F = F' + 1 := ⟨F - 1, by omega⟩
    have sg : eg_stt g := eq_stt Q O.1 (by decide)
    have Q1 := eq_wr (nI (i + 1)) Q
    have O1 : RO (eg_sI g 59 2 (nI (i + 1))) (upU (sU σ) 2 (i + 1)) (sP σ) (sE σ) (sL σ) := RO_L75 (RO_2 O (by omega)) Q1
    obtain ⟨g1, e1, E1, K1⟩ := M_layC O1 (q := 75) (Or.inl rfl) ha hb he hd
    have u0 : upU (sU σ) 2 (i + 1) 0 = sU σ 0 := if_neg (by omega)
    have u2 : upU (sU σ) 2 (i + 1) 2 = i + 1 := if_pos rfl
    have u3 : upU (sU σ) 2 (i + 1) 3 = sU σ 3 := if_neg (by omega)
    have ep : ptF (upU (sU σ) 2 (i + 1)) (sL σ) (sU σ 0) a b e d (i + 1) = ptF (sU σ) (sL σ) (sU σ 0) a b e d (i + 1) := funext (fun k => pt_2 k)
    rw [u0, u2, ep] at K1
    have O2 := RO_L75 O1 E1
    have e2 := M_str_in (a := a) (b := b) (e := e) (d := d) (s := i + 1) (w := w) (l4 := v) (l5 := wB (fun k => k + 1) (gSt σ a b e d) (-1) i) (l7 := mo (gSt σ a b e d) i) O2 (by omega) (by rw [u3]; exact O.2.1.1.2.2.2.2.2.2.2) dec_pt (by rw [u3]; exact dz_pt) K1 60 0 eg_F (by omega) (by rw [eg_F_eq]; omega)
    rw [u3] at e2
    have e2' : fX13_stride_L87 eg_F g1 54 (nI (10 * a + b)) (nI (10 * e + d)) w v (wB (fun k => k + 1) (gSt σ a b e d) (-1) i) (mo (gSt σ a b e d) i) (nI (i + 1)) 0 1 = _ := e2
    obtain ⟨g2, z, e3, Q2⟩ := ih (i + 1) g1 (nI (i + 1)) F (by omega) (by omega) (eq_tr Q1 E1)
    refine ⟨g2, z, ?_, Q2⟩
    rw [mo_s (gSt_b σ a b e d), wB_s _ (gSt_b σ a b e d)] at e3
    have s1 : eg_stt (eg_sI g 59 2 (nI (i + 1))) := O1.1
    rw [fX13_stride_L56, if_neg (show ¬ (10 : Int32) ≤ nI (i + 1) from nI_ge (b := 10) (by omega) (by omega)), gR_54 sg, rf_54_18 sg, Option.bind_some, wI_59 sg (by decide) (by decide), Option.bind_some]
    show ((eg_gR (eg_sI g 59 2 (nI (i + 1))) 13 50 54).bind _) = _
    rw [gR_54 s1, rf_54_50 s1, Option.bind_some]
    show ((fX13_layComes (eg_sI g 59 2 (nI (i + 1))) 54 (nI (10 * a + b)) (nI (10 * e + d)) 75).bind _) = _
    rw [e1, Option.bind_some, e2', Option.bind_some]
    dsimp only
    rw [nI_1]
    show (if _ < jI (gSt σ a b e d i) then _ else _) = _
    by_cases c : jI (gSt σ a b e d i) ≤ mo (gSt σ a b e d) i
    · rw [if_pos c, if_pos c] at e3
      rw [if_neg (Int64.not_lt.mpr c)]
      exact e3
    · rw [if_neg c, if_neg c] at e3
      rw [if_pos (Int64.not_le.mp c), Option.bind_some, nW (by omega)]
      exact e3
theorem M_stride (R : RI h σ) (two c w : Int32) : ∃ h', fX13_stride h 54 two c w = some (aStride σ two c w, h') ∧ ROk h h' σ := by
  obtain ⟨R0, Q0⟩ := R_0 R
  have hs := R.1
  have s0 := R0.1
  have hP := RI_P R
  unfold fX13_stride aStride
  rw [if_pos (iO_54 hs), pI_54 hs, Option.bind_some]
  rw [M_isTwo s0 R0.2.2.2.1 two, Option.bind_some]
  dsimp only
  rw [g01]
  by_cases c1 : G2 (sP σ) two
  rotate_left
  · rw [if_neg c1, if_neg (fun z => c1 z.1.1)]; exact ⟨_, rfl, ROk_scr R Q0⟩
  rw [if_pos c1]
  rw [M_isFrom s0 R0.2.2.2.1 c, Option.bind_some]
  dsimp only
  rw [g01]
  by_cases c2 : GE (sE σ) c
  rotate_left
  · rw [if_neg c2, if_neg (fun z => c2 z.1.2)]; exact ⟨_, rfl, ROk_scr R Q0⟩
  rw [if_pos c2]
  rw [M_GI (lo := 0) (hi := 1) _ w (by omega) (by omega) 0 1 rfl rfl, Option.bind_some]
  dsimp only
  rw [g01]
  by_cases c3 : GI (nI 0) (nI 1) w
  rotate_left
  · rw [if_neg c3, if_neg (fun z => c3 z.2)]; exact ⟨_, rfl, ROk_scr R Q0⟩
  rw [if_pos c3]
  rw [if_pos (show (G2 (sP σ) two ∧ GE (sE σ) c) ∧ GI (nI 0) (nI 1) w from ⟨⟨c1, c2⟩, c3⟩)]
  obtain ⟨a, b, ha, hb, hab, rfl⟩ := G2_n hP.1 c1
  obtain ⟨e, d, he, hd, rfl⟩ := GE_n hP.2 c2
  have O := RI_RO R0 (by omega)
  have e0 : eg_aI (eg_sI h 54 0 0) 100 59 2 = some (nI (sU σ 2)) := R_mea O (x := 2) (by omega)
  have v0 : eg_I (eg_sI h 54 0 0) 59 2 = nI (sU σ 2) := O.2.2.1.1 2 (by omega)
  obtain ⟨g, y, e1, Q1⟩ := M_stride_L (w := w) (v := nI (sU σ 2)) O ha hb he hd 9 0 (eg_sI h 54 0 0) (eg_I (eg_sI h 54 0 0) 59 2) eg_F (by omega) (by rw [eg_F_eq]; omega) (by rw [sI_same]; exact eq_rfl)
  have e1' : fX13_stride_L56 eg_F (eg_sI h 54 0 0) 54 (nI (10 * a + b)) (nI (10 * e + d)) w (nI (sU σ 2)) (-1) (-1) 1 = _ := e1
  have Qb := eq_back Q1
  have sg : eg_stt g := eq_stt Q1 s0 (by decide)
  refine ⟨eg_sI g 59 2 (eg_I (eg_sI h 54 0 0) 59 2), ?_, ROk_scr R (eq_tr Q0 (SL_x (Or.inl rfl) Qb))⟩
  rw [gR_54 s0, rf_54_18 s0, Option.bind_some, e0, Option.bind_some, e1', Option.bind_some, (dAB (a := a) (b := b) (by omega) (by omega)).1, (dAB (a := a) (b := b) (by omega) (by omega)).2, (dAB (a := e) (b := d) (by omega) (by omega)).1, (dAB (a := e) (b := d) (by omega) (by omega)).2]
  dsimp only
  rw [gR_54 sg, rf_54_18 sg, Option.bind_some, wI_59 sg (by decide) (by decide), Option.bind_some, v0]
  have em : mo (gSt σ a b e d) 9 = jI (gSt σ a b e d (bi (gSt σ a b e d) 9)) := if_neg (by omega)
  have ew : wB (fun k => k + 1) (gSt σ a b e d) (-1) 9 = jI ((bi (gSt σ a b e d) 9 + 1 : Nat) : Int) := if_neg (by omega)
  rw [em, ew]
  by_cases w0 : w = 0
  · rw [if_pos w0, if_pos w0]
    rfl
  · rw [if_neg w0, if_neg w0]
    rfl
end SDD
