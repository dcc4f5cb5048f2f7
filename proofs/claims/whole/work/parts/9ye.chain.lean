def orF (w : Nat → Nat) : Nat → Nat
  | 0 => 0
  | i + 1 => orF w i ||| 2 ^ w i
theorem or_t (w : Nat → Nat) : ∀ i b, (orF w i).testBit b = true ↔ ∃ k, k < i ∧ w k = b := by
  intro i
  induction i with
  | zero =>
    intro b
    constructor
    · intro z; rw [show orF w 0 = 0 from rfl, Nat.zero_testBit] at z; cases z
    · rintro ⟨k, hk, _⟩; omega
  | succ i ih =>
    intro b
    show (orF w i ||| 2 ^ w i).testBit b = true ↔ _
    rw [Nat.testBit_or, Bool.or_eq_true, ih b, Nat.testBit_two_pow, decide_eq_true_eq]
    constructor
    · rintro (⟨k, hk, hb⟩ | hb)
      · exact ⟨k, by omega, hb⟩
      · exact ⟨i, by omega, hb⟩
    · rintro ⟨k, hk, hb⟩
      rcases (by omega : k < i ∨ k = i) with z | z
      · exact Or.inl ⟨k, z, hb⟩
      · subst z; exact Or.inr hb
theorem or_lt {w : Nat → Nat} {P : Nat} : ∀ i, (∀ k, k < i → w k < P) → orF w i < 2 ^ P := by
  intro i
  induction i with
  | zero => intro _; exact Nat.pow_pos (by omega)
  | succ i ih => intro h; exact Nat.or_lt_two_pow (ih (fun k hk => h k (by omega))) (Nat.pow_lt_pow_right (by omega) (h i (by omega)))
theorem or_rev (n P : Nat) : orF (wd n P) P = orF (qd n) P := by
  apply Nat.eq_of_testBit_eq
  intro b
  have key : (orF (wd n P) P).testBit b = true ↔ (orF (qd n) P).testBit b = true := by
    rw [or_t, or_t]
    constructor
    · rintro ⟨k, hk, hb⟩
      exact ⟨P - 1 - k, by omega, hb⟩
    · rintro ⟨k, hk, hb⟩
      refine ⟨P - 1 - k, by omega, ?_⟩
      unfold wd
      rw [show P - 1 - (P - 1 - k) = k by omega]
      exact hb
  cases h1 : (orF (wd n P) P).testBit b <;> cases h2 : (orF (qd n) P).testBit b
  · rfl
  · rw [h1, h2] at key; exact absurd (key.mpr rfl) (by decide)
  · rw [h1, h2] at key; exact absurd (key.mp rfl) (by decide)
  · rfl
theorem pc_o : ((List.range 64).all fun m => (List.range 6).all fun d => pc (m ||| 2 ^ d) == pc m + (if m.testBit d then 0 else 1)) = true := by decide +kernel
theorem pc_f : ((List.range 7).all fun P => (List.range (2 ^ P)).all fun m => decide (pc m = P ↔ m = 2 ^ P - 1)) = true := by decide +kernel
def njB (w : Nat → Nat) : Nat → Bool := fun m => !(orF w m).testBit (w m)
theorem pc_nj {w : Nat → Nat} {P : Nat} (hP : P ≤ 6) (hw : ∀ k, k < P → w k < P) : ∀ i, i ≤ P → pc (orF w i) ≤ i ∧ (pc (orF w i) = i ↔ ∀ k, k < i → njB w k = true) := by
  intro i
  induction i with
  | zero => intro _; exact ⟨show pc 0 ≤ 0 by decide, fun _ k hk => by omega, fun _ => show pc 0 = 0 by decide⟩
  | succ i ih =>
    intro hi
    obtain ⟨h1, h2⟩ := ih (by omega)
    have hlt : orF w i < 64 := Nat.lt_of_lt_of_le (or_lt i (fun k hk => hw k (by omega))) (Nat.le_trans (Nat.pow_le_pow_right (by omega) hP) (by decide))
    have hwi := hw i (by omega)
    have q1 := List.all_eq_true.mp pc_o (orF w i) (List.mem_range.mpr hlt)
    have q2 := List.all_eq_true.mp q1 (w i) (List.mem_range.mpr (by omega))
    have q3 : pc (orF w (i + 1)) = pc (orF w i) + (if (orF w i).testBit (w i) then 0 else 1) := eq_of_beq q2
    rw [q3]
    by_cases c : (orF w i).testBit (w i) = true
    · rw [if_pos c]
      refine ⟨by omega, fun z => by omega, fun z => ?_⟩
      have := z i (by omega)
      unfold njB at this
      rw [c] at this
      cases this
    · rw [if_neg c]
      have hnj : njB w i = true := by
        unfold njB
        rw [Bool.eq_false_iff.mpr c]
        rfl
      refine ⟨by omega, fun z k hk => ?_, fun z => ?_⟩
      · rcases (by omega : k < i ∨ k = i) with y | y
        · exact h2.mp (by omega) k y
        · subst y; exact hnj
      · have := h2.mpr (fun k hk => z k (by omega))
        omega
theorem full_nj {w : Nat → Nat} {P : Nat} (hP : P ≤ 6) (hw : ∀ k, k < P → w k < P) : orF w P = 2 ^ P - 1 ↔ ∀ k, k < P → njB w k = true := by
  have q1 := List.all_eq_true.mp pc_f P (List.mem_range.mpr (by omega))
  have q2 := List.all_eq_true.mp q1 (orF w P) (List.mem_range.mpr (or_lt P hw))
  rw [← (of_decide_eq_true q2 : _ ↔ _)]
  exact (pc_nj hP hw P (Nat.le_refl _)).2
abbrev gRw (P : Nat) (x : Int32) : Prop := (0 < P ∧ gDg P x) ∧ ∀ k, k < P → njB (qd (dN x)) k = true
def chP (σ : eg_S) (w : Nat → Nat) (e y : Nat) : Nat → Nat
  | 0 => 1000000000
  | i + 1 => chP σ w e y i * bgd (sL σ) (tOf (sU σ) (sU σ 0) (w i) (w (i + 1)) e 0) y / (2 * sU σ (4 + 4 * w i) + 1)
theorem chP_le (σ : eg_S) (w : Nat → Nat) (e y : Nat) : ∀ i, chP σ w e y i ≤ 1000000000 := by
  intro i
  induction i with
  | zero => exact Nat.le_refl _
  | succ i ih =>
    refine Nat.le_trans ?_ ih
    show chP σ w e y i * _ / _ ≤ _
    refine Nat.div_le_of_le_mul ?_
    rw [Nat.mul_comm]
    exact Nat.mul_le_mul_right _ (bgd_sl _ _)
def aChain (σ : eg_S) (x e y : Int32) : Int32 := if (gRw (sP σ) x ∧ G1 (sE σ) e) ∧ GI (nI 1) (nI 60) y then nI (chP σ (wd (dN x) (sP σ)) (dN e) (dN y) (sP σ - 1)) else -1
section CH
variable {h : eg_H} {σ : eg_S} {B : Nat × Nat}
theorem shl_m1 : ∀ P, P ≤ 6 → ((1 : Int32) <<< (nI P &&& 31)) - 1 = nI (2 ^ P - 1) := by decide +kernel
theorem X_rr_L {P : Nat} {w : Nat → Nat} (hP : P ≤ 6) (hs : eg_stt h) (hw : ∀ i, i < P → w i < P) (K : ∀ i, i < P → eg_I h 49 i = nI (w i)) : ∀ j i F, i + j = P → j < F → fX9_readRow_L33 F h 47 (nI P) (nI (orF w i)) (nI i) = some (nI P, nI (orF w P), h) := by
  intro j
  induction j with
  | zero =>
    intro i F hi hF
    obtain ⟨F, rfl⟩ : ∃ F', F = F' + 1 := ⟨F - 1, by omega⟩
    obtain rfl : i = P := by omega
    rw [fX9_readRow_L33, if_pos (nI_le (Nat.le_refl _) (by omega))]
  | succ j ih =>
    intro i F hi hF
    obtain ⟨F, rfl⟩ : ∃ F', F = F' + 1 := ⟨F - 1, by omega⟩
    have e3 := ih (i + 1) F (by omega) (by omega)
    have hcl : (nI i).toNatClampNeg = i := nI_clamp (by omega)
    have hwi := hw i (by omega)
    rw [fX9_readRow_L33, if_neg (nI_ge (by omega) (by omega)), gR_47 hs, rf_47_1 hs, Option.bind_some, aI_49 hs (nI_pos (by omega)) (by rw [hcl]; omega), hcl, Option.bind_some, K i (by omega), one_shl _ (by omega), nI_or, Option.bind_some, nI_1]
    exact e3
theorem X_readRow {P : Nat} (hs : eg_stt h) (hP : P ≤ 6) (x : Int32) : ∃ h', fX9_readRow h 47 x (nI P) = some (if gRw P x then 1 else 0, h') ∧ eg_eq Spr h h' ∧ (gRw P x → ∀ i, i < P → eg_I h' 49 i = nI (wd (dN x) P i)) := by
  unfold fX9_readRow
  rw [if_pos (iO_47 hs)]
  by_cases c0 : P = 0
  · refine ⟨h, ?_, eq_rfl, fun g => absurd g.1.1 (by omega)⟩
    rw [if_pos (show nI P ≤ 0 from nI_le (b := 0) (by omega) (by omega)), if_neg (fun g => absurd g.1.1 (by omega))]
  rw [if_neg (show ¬ nI P ≤ 0 from nI_ge (a := 0) (by omega) (by omega)), gR_47 hs, rf_47_1 hs, Option.bind_some, al_49 hs, Option.bind_some, if_neg (nI_nlt hP (by omega)), Option.bind_some]
  obtain ⟨h1, e1, E1, H1⟩ := X_rd hs (P := P) (by omega) hP x
  have s1 := eq_stt E1 hs (by decide)
  rw [e1, Option.bind_some]
  dsimp only
  rw [g01]
  by_cases c1 : gDg P x
  rotate_left
  · refine ⟨h1, ?_, cov_sub (by decide) E1, fun g => absurd g.1.2 c1⟩
    rw [if_neg c1, if_neg (fun g => c1 g.1.2)]
  have hw : ∀ i, i < P → wd (dN x) P i < P := fun i hi => wd_lt c1 hi
  have hq : ∀ k, k < P → qd (dN x) k < P := c1.1.2
  have e2 := X_rr_L hP s1 hw (H1 c1) P 0 eg_F (by omega) (by rw [eg_F_eq]; omega)
  have e2' : fX9_readRow_L33 eg_F h1 47 (nI P) 0 0 = _ := e2
  have hlt : orF (qd (dN x)) P < 64 := Nat.lt_of_lt_of_le (or_lt P hq) (Nat.le_trans (Nat.pow_le_pow_right (by omega) hP) (by decide))
  have p64 : 2 ^ P ≤ 64 := Nat.le_trans (Nat.pow_le_pow_right (by omega) hP) (by decide)
  refine ⟨h1, ?_, cov_sub (by decide) E1, fun g => H1 c1⟩
  rw [if_pos c1, e2', Option.bind_some]
  dsimp only
  rw [shl_m1 P hP, or_rev]
  by_cases c2 : orF (qd (dN x)) P = 2 ^ P - 1
  · rw [if_pos (by rw [c2]), if_pos (show gRw P x from ⟨⟨by omega, c1⟩, (full_nj hP hq).mp c2⟩)]
  · rw [if_neg (fun z => c2 ((nI_eq (by omega) (by omega)).mp z)), if_neg (fun g => c2 ((full_nj hP hq).mpr g.2))]
theorem X_placed {P i : Nat} {w : Nat → Nat} (hP : P ≤ 6) (hs : eg_stt h) (K : ∀ i, i < P → eg_I h 49 i = nI (w i)) (hi : i < P) : fX9_placed h 47 (nI i) = some (nI (w i), h) := by
  have hcl : (nI i).toNatClampNeg = i := nI_clamp (by omega)
  unfold fX9_placed
  rw [if_pos (iO_47 hs), if_neg (nI_pos (by omega)), gR_47 hs, rf_47_1 hs, Option.bind_some, al_49 hs, Option.bind_some, if_pos (nI_lt (by omega) (by omega)), Option.bind_some, aI_49 hs (nI_pos (by omega)) (by rw [hcl]; omega), hcl, Option.bind_some, K i hi]
theorem X_good1 (X : XI h σ B) {a b e y : Nat} (ha : a < sP σ) (hb : b < sP σ) (he : e < sE σ) (hy : y ≤ 60) {d : Nat} (hd : d ≤ 1) : ∃ h' k, fX0_of h 38 (nI (10 * a + b)) (nI (10 * e + d)) (nI y) (nI (sU σ 0)) = some (k, h') ∧ (∀ g, fX11_goodIn g k = some (nI (bgd (sL σ) (tOf (sU σ) (sU σ 0) a b e d) y), g)) ∧ XOk h h' σ B ∧ eg_gr Sc h h' := by
  have C := X.2.2.1
  have hU := XI_U X (by omega)
  obtain ⟨h', e1, G1', C1⟩ := X_of C hU ha hb he hd (y := y) hy hU.1.2.2.1
  have T := tOf_ok (d := d) hU hU.1.2.2.1 ha hb he
  have hb1 := bst_lt (lw := sL σ) T y
  have hg1 := bgd_le (lw := sL σ) T y
  exact ⟨h', _, e1, fun g => X_goodIn g hb1 hg1, XOk_scr X (Sc_x G1') C1, G1'⟩
theorem X_chain_L {w : Nat → Nat} {e y : Nat} (hw : ∀ i, i < sP σ → w i < sP σ) (he : e < sE σ) (hy : y ≤ 60) : ∀ j i h F, i + 1 + j = sP σ → j < F → XI h σ B → (∀ i, i < sP σ → eg_I h 49 i = nI (w i)) → ∃ h', fX12_chain_L50 F h 16 (nI e) (nI y) (nI (sP σ)) (jI ((chP σ w e y i : Nat) : Int)) (nI (i + 1)) = some (jI ((chP σ w e y (sP σ - 1) : Nat) : Int), h') ∧ XOk h h' σ B := by
  intro j
  induction j with
  | zero =>
    intro i h F hi hF X K
    obtain ⟨F, rfl⟩ : ∃ F', F = F' + 1 := ⟨F - 1, by omega⟩
    have hP := XI_P X
    refine ⟨h, ?_, XOk_rfl X⟩
    rw [fX12_chain_L50, if_pos (nI_le (by omega) (by omega)), show sP σ - 1 = i by omega]
  | succ j ih =>
    intro i h F hi hF X K
    obtain ⟨F, rfl⟩ : ∃ F', F = F' + 1 := ⟨F - 1, by omega⟩
    have C := X.2.2.1
    have hs := C.1
    have hP := XI_P X
    have hU := XI_U X (by omega)
    have hw1 := hw i (by omega)
    have hw2 := hw (i + 1) (by omega)
    obtain ⟨h1, k, e1, e2, O1, G1'⟩ := X_good1 X hw1 hw2 he hy (d := 0) (by omega)
    have C1 := O1.1.2.2.1
    have s1 := C1.1
    have hS := (hU.2.1 _ hw1).1
    have e0 : fX7_told h 23 0 = some (nI (sU σ 0), h) := X_told hs C.2.1 (x := 0) (by omega)
    obtain ⟨h2, e3, O2⟩ := ih (i + 1) h1 F (by omega) (by omega) O1.1 (fun q hq => by rw [(G1'.2.1 49 q (by omega) rfl).1]; exact K q hq)
    refine ⟨h2, ?_, XOk_tr O1 O2⟩
    have e1' : fX0_of h 38 (nI (10 * w i + w (i + 1))) (nI (10 * e)) (nI y) (nI (sU σ 0)) = some (k, h1) := e1
    have hbl := bgd_sl (lw := sL σ) (tOf (sU σ) (sU σ 0) (w i) (w (i + 1)) e 0) y
    have hS' : tS (tOf (sU σ) (sU σ 0) (w i) (w (i + 1)) e 0) = sU σ (4 + 4 * w i) := rfl
    have hm : chP σ w e y i * bgd (sL σ) (tOf (sU σ) (sU σ 0) (w i) (w (i + 1)) e 0) y ≤ 1000000000 * 11 := Nat.mul_le_mul (chP_le σ w e y i) (by omega)
    rw [fX12_chain_L50, if_neg (nI_ge (by omega) (by omega)), gR_16 hs, rf_16_18 hs, Option.bind_some, nI_m1, X_placed hP.1 hs K (by omega), Option.bind_some]
    dsimp only
    rw [gR_16 hs, rf_16_16 hs, Option.bind_some, gR_16 hs, rf_16_18 hs, Option.bind_some, X_placed hP.1 hs K (by omega), Option.bind_some]
    dsimp only
    rw [gR_16 hs, rf_16_3 hs, Option.bind_some, e0, Option.bind_some]
    dsimp only
    rw [k10, nI_k10, e1', Option.bind_some]
    dsimp only
    rw [e2, Option.bind_some]
    dsimp only
    rw [gR_16 s1, rf_16_3 s1, Option.bind_some, X_slips s1 C1.2.1 hU hw1, Option.bind_some]
    dsimp only
    rw [nW (by omega), nW (by omega), if_neg (fun z => by have := (jI_eq (b := 0) (by unfold i6; omega) (by unfold i6; omega)).mp z; omega), j_md (by omega) (by omega), Option.bind_some, nI_1]
    exact e3
theorem X_chain (X : XI h σ B) (x e y : Int32) : ∃ h', fX12_chain h 16 x e y = some (aChain σ x e y, h') ∧ XOk h h' σ B := by
  have C := X.2.2.1
  have hs := C.1
  have hP := XI_P X
  unfold fX12_chain aChain
  rw [if_pos (iO_16 hs), gR_16 hs, rf_16_3 hs, Option.bind_some, X_persons X, Option.bind_some]
  dsimp only
  rw [gR_16 hs, rf_16_3 hs, Option.bind_some]
  rw [X_isEgg hs C.2.1 e, Option.bind_some]
  dsimp only
  rw [g01]
  by_cases c1 : G1 (sE σ) e
  rotate_left
  · rw [if_neg c1, if_neg (fun z => c1 z.1.2)]; exact ⟨h, rfl, XOk_rfl X⟩
  rw [if_pos c1]
  rw [X_isYards h y, Option.bind_some]
  dsimp only
  rw [g01]
  by_cases c2 : GI (nI 1) (nI 60) y
  rotate_left
  · rw [if_neg c2, if_neg (fun z => c2 z.2)]; exact ⟨h, rfl, XOk_rfl X⟩
  rw [if_pos c2]
  obtain ⟨h1, e1, E1, K1⟩ := X_readRow hs hP.1 x
  have O1 := Spr_x X E1
  rw [gR_16 hs, rf_16_18 hs, Option.bind_some, e1, Option.bind_some]
  dsimp only
  rw [g01]
  by_cases c3 : gRw (sP σ) x
  rotate_left
  · rw [if_neg c3, if_neg (fun z => c3 z.1.1)]; exact ⟨h1, rfl, O1⟩
  rw [if_pos c3, if_pos (show (gRw (sP σ) x ∧ G1 (sE σ) e) ∧ GI (nI 1) (nI 60) y from ⟨⟨c3, c1⟩, c2⟩)]
  have hPp := c3.1.1
  have hw : ∀ i, i < sP σ → wd (dN x) (sP σ) i < sP σ := fun i hi => wd_lt c3.1.2 hi
  obtain ⟨m, hm, rfl⟩ := G1_n (by omega) c1
  obtain ⟨n, n1, n2, rfl⟩ := GI_n (by omega) (by omega) c2
  obtain ⟨h2, e2, O2⟩ := X_chain_L hw hm n2 (sP σ - 1) 0 h1 eg_F (by omega) (by rw [eg_F_eq]; omega) O1.1 (K1 c3)
  have e2' : fX12_chain_L50 eg_F h1 16 (nI m) (nI n) (nI (sP σ)) 1000000000 1 = _ := e2
  have hle := chP_le σ (wd (dN x) (sP σ)) m n (sP σ - 1)
  refine ⟨h2, ?_, XOk_tr O1 O2⟩
  rw [e2', Option.bind_some]
  dsimp only
  rw [jW (by omega), dN_n (by omega), dN_n (by omega)]
theorem M_hop (R : RI h σ) {a b e y : Nat} (ha : a < sP σ) (hb : b < sP σ) (he : e < sE σ) (hy : y ≤ 60) : ∃ h', fX13_hopOf h 54 (nI a) (nI b) (nI e) (nI y) = some (nI (bgd (sL σ) (tOf (sU σ) (sU σ 0) a b e 0) y), h') ∧ ROk h h' σ ∧ eg_eq SB h h' := by
  have O := RI_RO R (by omega)
  obtain ⟨h', e1, E1, _, _, b3⟩ := M_best O ha hb he (d := 0) (by omega) (y := y) hy
  have R1 := ROk_scr R (SB_x E1)
  have e1' : fX13_layBest h 54 (nI a) (nI b) (nI (10 * e)) (nI y) = some h' := e1
  refine ⟨h', ?_, R1, E1⟩
  unfold fX13_hopOf
  rw [if_pos (iO_54 R.1), nI_k10, e1', Option.bind_some, gI_54 R1.1.1, Option.bind_some, b3]
theorem M_after (R : RI h σ) {a p g : Nat} (ha : a < sP σ) (hp : p ≤ 1000000000) (hg : g ≤ 2 * sU σ (4 + 4 * a) + 1) : fX13_afterHop h 54 (nI p) (nI a) (nI g) = some (nI (p * g / (2 * sU σ (4 + 4 * a) + 1)), h) := by
  have O := RI_RO R (by omega)
  have hS := (O.2.1.2.1 a ha).1
  have hm : p * g ≤ 1000000000 * 11 := Nat.mul_le_mul hp (by omega)
  have hle : p * g / (2 * sU σ (4 + 4 * a) + 1) ≤ p := by
    refine Nat.div_le_of_le_mul ?_
    rw [Nat.mul_comm]
    exact Nat.mul_le_mul_right _ hg
  unfold fX13_afterHop
  rw [if_pos (iO_54 R.1), gR_54 R.1, rf_54_20 R.1, Option.bind_some, nI_k4, R_per O (by omega), Option.bind_some, nI_k2, nI_1, nW (by omega), nW (by omega), nW (by omega), if_neg (fun z => by have := (jI_eq (b := 0) (by unfold i6; omega) (by unfold i6; omega)).mp z; omega), j_md (by omega) (by omega), jW (by omega)]
theorem M_cr_L {n : Nat} {l2 l3 : Int32} (R0 : RI h σ) (hPp : 0 < sP σ) (hn : n < 2 ^ 31) : ∀ j k g F, k + j = sP σ → j < F → eg_eq [(71, none)] h g → (∀ m, m < k → eg_I g 71 (sP σ - 1 - m) = nI (qd n m)) → (∀ m, m < k → qd n m < sP σ ∧ njB (qd n) m = true) → ∃ g', fX13_chain_L45 F g 54 l2 l3 (nI (n / 10 ^ k)) (nI (orF (qd n) k)) (iI ((sP σ : Int) - 1 - k)) = some (if ∀ m, m < sP σ → qd n m < sP σ ∧ njB (qd n) m = true then .inl (54, l2, l3, nI (n / 10 ^ sP σ), g') else .inr g') ∧ eg_eq [(71, none)] h g' ∧ ((∀ m, m < sP σ → qd n m < sP σ ∧ njB (qd n) m = true) → ∀ m, m < sP σ → eg_I g' 71 (sP σ - 1 - m) = nI (qd n m)) := by
  have hP := (RI_P R0).1
  intro j
  induction j with
  | zero =>
    intro k g F hk hF Q H1 H2
    obtain ⟨F, rfl⟩ : ∃ F', F = F' + 1 := ⟨F - 1, by omega⟩
    obtain rfl : k = sP σ := by omega
    refine ⟨g, ?_, Q, fun _ => H1⟩
    rw [fX13_chain_L45, if_pos (show iI ((sP σ : Int) - 1 - (sP σ : Nat)) < (0 : Int32) from (iI_lt (b := 0) (by unfold i3; omega) (by unfold i3; omega)).mpr (by omega)), if_pos H2]
  | succ j ih =>
    intro k g F hk hF Q H1 H2
    obtain ⟨F, rfl⟩ : ∃ F', F = F' + 1 := ⟨F - 1, by omega⟩
    have sg : eg_stt g := eq_stt Q R0.1 (by decide)
    have ei : iI ((sP σ : Int) - 1 - k) = nI (sP σ - 1 - k) := by rw [← iI_n]; congr 1; omega
    have ei2 : nI (sP σ - 1 - k) + (-1 : Int32) = iI ((sP σ : Int) - 1 - (k + 1 : Nat)) := by
      rw [← iI_n, show (-1 : Int32) = iI (-1) by decide, iI_add]; congr 1; omega
    have hcl : (nI (sP σ - 1 - k)).toNatClampNeg = sP σ - 1 - k := nI_clamp (by omega)
    have hd : n / 10 ^ k ≤ n := Nat.div_le_self _ _
    have e10 : nI (n / 10 ^ k) % 10 = nI (qd n k) := (n10 (by omega)).2
    have hq10 : qd n k < 10 := Nat.mod_lt _ (by omega)
    let g1 := eg_sI g 71 (sP σ - 1 - k) (nI (qd n k))
    have Q1 : eg_eq [(71, none)] h g1 := eq_sI Q (by simp [eg_cov])
    have R1 : RI g1 σ := RI_scr R0 (cov_sub (by decide) Q1)
    have s1 : eg_stt g1 := R1.1
    have v1 : eg_aI g1 100 71 (nI (sP σ - 1 - k)) = some (nI (qd n k)) := by
      rw [aI_71 s1 (nI_pos (by omega)) (by rw [hcl]; omega), hcl]
      show some (eg_I (eg_sI g 71 (sP σ - 1 - k) (nI (qd n k))) 71 (sP σ - 1 - k)) = _
      rw [I_sI, if_pos ⟨rfl, rfl⟩]
    rw [fX13_chain_L45, ei, if_neg (nI_pos (by omega)), e10, gR_54 sg, rf_54_43 sg, Option.bind_some, wI_71 sg (nI_pos (by omega)) (by rw [hcl]; omega), hcl, Option.bind_some, (n10 (by omega)).1, qd_s, Option.bind_some]
    show ∃ g', ((eg_gR g1 13 43 54).bind _) = _ ∧ _
    rw [gR_54 s1, rf_54_43 s1, Option.bind_some, v1, Option.bind_some, M_isPerson s1 R1.2.2.2.1, Option.bind_some]
    dsimp only
    rw [g01]
    have giff : G1 (sP σ) (nI (qd n k)) ↔ qd n k < sP σ := by
      constructor
      · intro z
        rcases Nat.lt_or_ge (qd n k) (sP σ) with y | y
        · exact y
        · exact absurd (nI_le y (by omega)) z.2
      · intro z; exact ⟨nI_pos (by omega), nI_ge z (by omega)⟩
    by_cases c1 : qd n k < sP σ
    rotate_left
    · have hno : ¬ ∀ m, m < sP σ → qd n m < sP σ ∧ njB (qd n) m = true := fun z => c1 (z k (by omega)).1
      refine ⟨g1, ?_, Q1, fun z => absurd (z k (by omega)).1 c1⟩
      rw [if_neg (fun z => c1 (giff.mp z)), if_neg hno]
    have horl : orF (qd n) k < 64 := Nat.lt_of_lt_of_le (or_lt k (fun m hm => (H2 m hm).1)) (Nat.le_trans (Nat.pow_le_pow_right (by omega) hP) (by decide))
    have bt := bt_1 (m := orF (qd n) k) (s := qd n k) (by omega) (by omega)
    have eh : fX13_has g1 (nI (orF (qd n) k)) (nI (qd n k)) = some (if (orF (qd n) k).testBit (qd n k) = true then 1 else 0, g1) := by
      unfold fX13_has
      by_cases c : (orF (qd n) k).testBit (qd n k) = true
      · rw [if_pos (bt.mpr c), if_pos c]
      · rw [if_neg (fun z => c (bt.mp z)), if_neg c]
    rw [if_pos (giff.mpr c1), gR_54 s1, rf_54_43 s1, Option.bind_some, v1, Option.bind_some, eh, Option.bind_some]
    dsimp only
    rw [g01]
    by_cases c2 : (orF (qd n) k).testBit (qd n k) = true
    · have hnj : ¬ njB (qd n) k = true := by
        unfold njB
        rw [c2]
        decide
      have hno : ¬ ∀ m, m < sP σ → qd n m < sP σ ∧ njB (qd n) m = true := fun z => hnj (z k (by omega)).2
      refine ⟨g1, ?_, Q1, fun z => absurd (z k (by omega)).2 hnj⟩
      rw [if_pos c2, if_neg hno]
    have hnj : njB (qd n) k = true := by
      unfold njB
      rw [Bool.eq_false_iff.mpr c2]
      rfl
    rw [if_neg c2, gR_54 s1, rf_54_43 s1, Option.bind_some, v1, Option.bind_some, one_shl _ (by omega), nI_or, Option.bind_some, ei2]
    exact ih (k + 1) g1 F (by omega) (by omega) Q1 (fun m hm => by
      show eg_I (eg_sI g 71 (sP σ - 1 - k) (nI (qd n k))) 71 (sP σ - 1 - m) = _
      rw [I_sI]
      by_cases cm : m = k
      · subst cm; rw [if_pos ⟨rfl, rfl⟩]
      · rw [if_neg (by omega)]; exact H1 m (by omega)) (fun m hm => by
      by_cases cm : m = k
      · subst cm; exact ⟨c1, hnj⟩
      · exact H2 m (by omega))
theorem M_chain_L {w : Nat → Nat} {e y : Nat} (hw : ∀ i, i < sP σ → w i < sP σ) (he : e < sE σ) (hy : y ≤ 60) : ∀ j i h F, i + 1 + j = sP σ → j < F → RI h σ → (∀ i, i < sP σ → eg_I h 71 i = nI (w i)) → ∃ h', fX13_chain_L135 F h 54 (nI e) (nI y) (nI (chP σ w e y i)) (nI (i + 1)) = some (nI (chP σ w e y (sP σ - 1)), h') ∧ ROk h h' σ := by
  intro j
  induction j with
  | zero =>
    intro i h F hi hF R K
    obtain ⟨F, rfl⟩ : ∃ F', F = F' + 1 := ⟨F - 1, by omega⟩
    have hP := RI_P R
    refine ⟨h, ?_, R, rfl, fun _ _ _ => ⟨rfl, rfl, rfl⟩⟩
    rw [fX13_chain_L135, gI_54 R.1, Option.bind_some, R.2.2.2.1.2.2.2.1, if_pos (nI_le (by omega) (by omega)), show sP σ - 1 = i by omega]
  | succ j ih =>
    intro i h F hi hF R K
    obtain ⟨F, rfl⟩ : ∃ F', F = F' + 1 := ⟨F - 1, by omega⟩
    have hs := R.1
    have hP := RI_P R
    have hw1 := hw i (by omega)
    have hw2 := hw (i + 1) (by omega)
    obtain ⟨h1, e1, O1, E1⟩ := M_hop R hw1 hw2 he hy
    have hbl := bgd_sl (lw := sL σ) (tOf (sU σ) (sU σ 0) (w i) (w (i + 1)) e 0) y
    have ea := M_after O1.1 (p := chP σ w e y i) hw1 (chP_le σ w e y i) hbl
    obtain ⟨h2, e3, O2⟩ := ih (i + 1) h1 F (by omega) (by omega) O1.1 (fun q hq => by rw [(E1.2 71 q rfl).1]; exact K q hq)
    refine ⟨h2, ?_, ROk_tr O1 O2⟩
    have a1 : ∀ m, m < sP σ → eg_aI h 100 71 (nI m) = some (nI (w m)) := fun m hm => by
      have hcl : (nI m).toNatClampNeg = m := nI_clamp (by omega)
      rw [aI_71 hs (nI_pos (by omega)) (by rw [hcl]; omega), hcl, K m hm]
    rw [fX13_chain_L135, gI_54 hs, Option.bind_some, R.2.2.2.1.2.2.2.1, if_neg (nI_ge (by omega) (by omega)), gR_54 hs, rf_54_43 hs, Option.bind_some, nI_m1, a1 i (by omega), Option.bind_some, Option.bind_some, a1 i (by omega), Option.bind_some, Option.bind_some, a1 (i + 1) (by omega), Option.bind_some, e1, Option.bind_some]
    dsimp only
    rw [ea, Option.bind_some, nI_1]
    exact e3
theorem M_chain (R : RI h σ) (x e y : Int32) : ∃ h', fX13_chain h 54 x e y = some (aChain σ x e y, h') ∧ ROk h h' σ := by
  obtain ⟨R0, Q0⟩ := R_0 R
  have hs := R.1
  have s0 := R0.1
  have hP := RI_P R
  unfold fX13_chain aChain
  rw [if_pos (iO_54 hs), pI_54 hs, Option.bind_some]
  by_cases c0 : x < 0
  · rw [if_pos c0, if_neg (fun z => z.1.1.1.2.1.1 c0)]; exact ⟨_, rfl, ROk_scr R Q0⟩
  rw [if_neg c0]
  rw [M_isEgg s0 R0.2.2.2.1 e, Option.bind_some]
  dsimp only
  rw [g01]
  by_cases c1 : G1 (sE σ) e
  rotate_left
  · rw [if_neg c1, if_neg (fun z => c1 z.1.2)]; exact ⟨_, rfl, ROk_scr R Q0⟩
  rw [if_pos c1]
  rw [M_GI (lo := 1) (hi := 60) _ y (by omega) (by omega) 1 60 rfl rfl, Option.bind_some]
  dsimp only
  rw [g01]
  by_cases c2 : GI (nI 1) (nI 60) y
  rotate_left
  · rw [if_neg c2, if_neg (fun z => c2 z.2)]; exact ⟨_, rfl, ROk_scr R Q0⟩
  rw [if_pos c2]
  have hPp : 0 < sP σ := by
    rcases Nat.eq_zero_or_pos (sP σ) with z | z
    · have := (R.2.1.2.1.2.2.1 z).1
      obtain ⟨n, hn, _⟩ := G1_n (by omega) c1
      omega
    · exact z
  obtain ⟨v, hv, rfl⟩ := pos_n c0
  have e1 : nI (sP σ) - 1 = iI ((sP σ : Int) - 1 - (0 : Nat)) := by rw [← iI_n, show (1 : Int32) = iI 1 from rfl, iI_sub]; congr 1; omega
  obtain ⟨h1, e2, E1, K1⟩ := M_cr_L (n := v) (l2 := e) (l3 := y) R0 hPp hv (sP σ) 0 (eg_sI h 54 0 0) eg_F (by omega) (by rw [eg_F_eq]; omega) eq_rfl (fun m hm => by omega) (fun m hm => by omega)
  have e0 : v / 10 ^ 0 = v := by rw [Nat.pow_zero, Nat.div_one]
  rw [e0] at e2
  have e2' : fX13_chain_L45 eg_F (eg_sI h 54 0 0) 54 e y (nI v) 0 (iI ((sP σ : Int) - 1 - (0 : Nat))) = _ := e2
  have O1 := ROk_scr R0 (cov_sub (S := [(71, none)]) (by decide) E1)
  have O01 := ROk_tr (ROk_scr R Q0) O1
  have hd : v / 10 ^ sP σ ≤ v := Nat.div_le_self _ _
  have iff : gRw (sP σ) (nI v) ↔ (∀ m, m < sP σ → qd v m < sP σ ∧ njB (qd v) m = true) ∧ v / 10 ^ sP σ = 0 := by
    have hdn := dN_n hv
    constructor
    · intro g
      have g1 := g.1.2.1.2
      have g2 := g.1.2.2
      have g3 := g.2
      rw [hdn] at g1 g2 g3
      exact ⟨fun m hm => ⟨g1 m hm, g3 m hm⟩, g2⟩
    · intro g
      refine ⟨⟨hPp, ⟨c0, fun k hk => ?_⟩, ?_⟩, fun k hk => ?_⟩
      · rw [hdn]; exact (g.1 k hk).1
      · rw [hdn]; exact g.2
      · rw [hdn]; exact (g.1 k hk).2
  rw [gI_54 s0, Option.bind_some, R0.2.2.2.1.2.2.2.1, e1, Option.bind_some, e2', Option.bind_some]
  by_cases c3 : ∀ m, m < sP σ → qd v m < sP σ ∧ njB (qd v) m = true
  rotate_left
  · rw [if_neg c3, if_neg (fun z => c3 (iff.mp z.1.1).1)]; exact ⟨h1, rfl, O01⟩
  rw [if_pos c3]
  dsimp only
  by_cases c4 : v / 10 ^ sP σ = 0
  rotate_left
  · rw [if_neg (nI_ne0 (Nat.pos_of_ne_zero c4) (Nat.lt_of_le_of_lt hd hv)), if_neg (fun z => c4 (iff.mp z.1.1).2)]; exact ⟨h1, rfl, O01⟩
  have g := iff.mpr ⟨c3, c4⟩
  rw [if_pos (show nI (v / 10 ^ sP σ) = 0 by rw [c4]; rfl), if_pos (show (gRw (sP σ) (nI v) ∧ G1 (sE σ) e) ∧ GI (nI 1) (nI 60) y from ⟨⟨g, c1⟩, c2⟩)]
  have hw : ∀ i, i < sP σ → wd v (sP σ) i < sP σ := fun i hi => (c3 _ (by omega)).1
  obtain ⟨m, hm, rfl⟩ := G1_n (by omega) c1
  obtain ⟨n, n1, n2, rfl⟩ := GI_n (by omega) (by omega) c2
  obtain ⟨h2, e3, O2⟩ := M_chain_L hw hm n2 (sP σ - 1) 0 h1 eg_F (by omega) (by rw [eg_F_eq]; omega) O1.1 (fun i hi => by
    have := K1 c3 (sP σ - 1 - i) (by omega)
    rw [show sP σ - 1 - (sP σ - 1 - i) = i by omega] at this
    exact this)
  have e3' : fX13_chain_L135 eg_F h1 54 (nI m) (nI n) 1000000000 1 = _ := e3
  refine ⟨h2, ?_, ROk_tr O01 O2⟩
  rw [e3', Option.bind_some, dN_n hv, dN_n (by omega), dN_n (by omega)]
end CH
