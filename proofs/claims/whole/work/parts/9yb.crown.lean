theorem lw_cn {w : Nat → Nat} : ∀ i j, j < cnW w i → cnW w (lwT w i j) = j := by
  intro i
  induction i with
  | zero => intro j hj; exact absurd hj (Nat.not_lt_zero _)
  | succ i ih =>
    intro j hj
    have e : cnW w (i + 1) = cnW w i + (if i < w i then 1 else 0) := rfl
    rw [e] at hj
    unfold lwT
    by_cases c : i < w i ∧ j = cnW w i
    · rw [if_pos c]; exact c.2.symm
    · rw [if_neg c]
      refine ih j ?_
      by_cases c2 : i < w i
      · rw [if_pos c2] at hj
        have : ¬ j = cnW w i := fun z => c ⟨c2, z⟩
        omega
      · rw [if_neg c2] at hj; exact hj
theorem lw_slot {w : Nat → Nat} {i : Nat} (hi : i < w i) : ∀ n, i < n → cnW w i < cnW w n ∧ lwT w n (cnW w i) = i := by
  intro n
  induction n with
  | zero => intro h; omega
  | succ n ih =>
    intro h
    have e : cnW w (n + 1) = cnW w n + (if n < w n then 1 else 0) := rfl
    by_cases c : n = i
    · subst c
      refine ⟨by rw [e, if_pos hi]; omega, ?_⟩
      unfold lwT
      rw [if_pos ⟨hi, rfl⟩]
    · obtain ⟨h1, h2⟩ := ih (by omega)
      refine ⟨by rw [e]; omega, ?_⟩
      unfold lwT
      rw [if_neg (fun z => by omega)]
      exact h2
def crf (σ : eg_S) (w : Nat → Nat) (j : Nat) : Nat → Nat := ptS σ (lwT w (sP σ) j) (w (lwT w (sP σ) j)) (j % sE σ) 0
def crP (fs : Nat → Nat → Nat) (own k : Nat) : Nat → Nat
  | 0 => jst (fs own) k
  | j + 1 => if j = own then crP fs own k j else crP fs own k j * (1000000000 - ft (fs j) k) / 1000000000
theorem cr_le {fs : Nat → Nat → Nat} (hd : ∀ j, dec (fs j)) (own k : Nat) : ∀ j, crP fs own k j ≤ 1000000000 := by
  intro j
  induction j with
  | zero => exact Nat.le_trans (Nat.sub_le _ _) (ft_dec (hd own) k).2
  | succ j ih =>
    unfold crP
    split
    · exact ih
    · refine Nat.div_le_of_le_mul ?_
      exact Nat.mul_le_mul ih (by omega)
theorem cr_b {fs : Nat → Nat → Nat} (hd : ∀ j, dec (fs j)) (own k j : Nat) : crP fs own k j * (1000000000 - ft (fs j) k) ≤ 9000000000000000000 := Nat.le_trans (Nat.mul_le_mul (cr_le hd own k j) (Nat.sub_le _ _)) (by omega)
abbrev gCr (σ : eg_S) (x l : Int32) : Prop := (gPr (sP σ) x ∧ G1 (sP σ) l) ∧ dN l < wd (dN x) (sP σ) (dN l)
def aCrown (σ : eg_S) (x l : Int32) : Int64 := if gCr σ x l then jI ((sm (fun k => crP (crf σ (wd (dN x) (sP σ))) (cnW (wd (dN x) (sP σ)) (dN l)) k (cnW (wd (dN x) (sP σ)) (sP σ))) 61 : Nat) : Int) else -1
section CR
variable {h : eg_H} {σ : eg_S} {B : Nat × Nat}
theorem X_pol_L {P : Nat} {w : Nat → Nat} {l : Int32} (hs : eg_stt h) (hP : P ≤ 6) (K : XPr h P w) : ∀ j i F, i + j = cnW w P → j < F → fX9_pairOfLower_L2 F h 47 l (nI (cnW w P)) (nI i) = some (match ffG (fun m => decide (nI (lwT w P m) = l)) i j with
    | none => .inl h
    | some v => .inr (nI v, h)) := by
  have hc := cn_le w P
  intro j
  induction j with
  | zero =>
    intro i F hi hF
    obtain ⟨F, rfl⟩ : ∃ F', F = F' + 1 := ⟨F - 1, by omega⟩
    obtain rfl : i = cnW w P := by omega
    rw [fX9_pairOfLower_L2, if_pos (nI_le (Nat.le_refl _) (by omega))]
    rfl
  | succ j ih =>
    intro i F hi hF
    obtain ⟨F, rfl⟩ : ∃ F', F = F' + 1 := ⟨F - 1, by omega⟩
    have hcl : (nI i).toNatClampNeg = i := nI_clamp (by omega)
    rw [fX9_pairOfLower_L2, if_neg (nI_ge (by omega) (by omega)), gR_47 hs, rf_47_2 hs, Option.bind_some, al_50 hs, Option.bind_some, if_neg (nI_ge (by omega) (by omega)), Option.bind_some, aI_50 hs (nI_pos (by omega)) (by rw [hcl]; omega), hcl, Option.bind_some, K.2 i (by omega)]
    unfold ffG
    by_cases c : nI (lwT w P i) = l
    · rw [if_pos c, if_pos (decide_eq_true c)]
    · rw [if_neg c, if_neg (show ¬ decide (nI (lwT w P i) = l) = true from fun z => c (of_decide_eq_true z)), nI_1]
      exact ih (i + 1) F (by omega) (by omega)
theorem ff_none {p : Nat → Bool} : ∀ j i, ffG p i j = none → ∀ v, i ≤ v → v < i + j → ¬ p v = true := by
  intro j
  induction j with
  | zero => intro i _ v h1 h2; omega
  | succ j ih =>
    intro i h v h1 h2
    unfold ffG at h
    by_cases c : p i = true
    · rw [if_pos c] at h; cases h
    · rw [if_neg c] at h
      rcases Nat.eq_or_lt_of_le h1 with z | z
      · rw [← z]; exact c
      · exact ih (i + 1) h v z (by omega)
theorem X_pol {P : Nat} {w : Nat → Nat} (l : Int32) (hs : eg_stt h) (hP : P ≤ 6) (hw : ∀ i, i < P → w i < P) (K : XPr h P w) : fX9_pairOfLower h 47 l (nI (cnW w P)) = some (if G1 P l ∧ dN l < w (dN l) then nI (cnW w (dN l)) else -1, h) := by
  have hc := cn_le w P
  have e := X_pol_L (l := l) hs hP K (cnW w P) 0 eg_F (by omega) (by rw [eg_F_eq]; omega)
  have e' : fX9_pairOfLower_L2 eg_F h 47 l (nI (cnW w P)) 0 = _ := e
  unfold fX9_pairOfLower
  rw [if_pos (iO_47 hs), e', Option.bind_some]
  cases ef : ffG (fun m => decide (nI (lwT w P m) = l)) 0 (cnW w P) with
  | none =>
    dsimp only
    have hn := ff_none _ _ ef
    rw [if_neg]
    intro g
    obtain ⟨n, hn', rfl⟩ := G1_n (by omega) g.1
    have g2 := g.2
    rw [dN_n (by omega)] at g2
    obtain ⟨s1, s2⟩ := lw_slot g2 P hn'
    exact hn (cnW w n) (by omega) (by omega) (decide_eq_true (by rw [s2]))
  | some v =>
    dsimp only
    obtain ⟨_, h2, h3⟩ := ff_in _ _ _ ef
    have h3 := of_decide_eq_true h3
    have hv : v < cnW w P := by omega
    have hl := lw_in P v hv
    have hcn := lw_cn P v hv
    rw [← h3, if_pos ⟨⟨nI_pos (by omega), nI_ge hl.1 (by omega)⟩, by rw [dN_n (by omega)]; exact hl.2⟩, dN_n (by omega), hcn]
theorem X_crown_L {w : Nat → Nat} {own : Int32} (hw : ∀ i, i < sP σ → w i < sP σ) (hc3 : cnW w (sP σ) ≤ 3) (hPp : 0 < sP σ) : ∀ j i h F, i + j = cnW w (sP σ) → j < F → XI h σ B → XPr h (sP σ) w → (∀ m, m < i → CO h (41 + 2 * m) (crf σ w m) (sU σ 2)) → ∃ h', fX12_crown_L54 F h 16 (nI (cnW w (sP σ))) own (nI i) = some (16, nI (cnW w (sP σ)), own, h') ∧ XOk h h' σ B ∧ ∀ m, m < cnW w (sP σ) → CO h' (41 + 2 * m) (crf σ w m) (sU σ 2) := by
  intro j
  induction j with
  | zero =>
    intro i h F hi hF X K H
    obtain ⟨F, rfl⟩ : ∃ F', F = F' + 1 := ⟨F - 1, by omega⟩
    obtain rfl : i = cnW w (sP σ) := by omega
    refine ⟨h, ?_, XOk_rfl X, H⟩
    rw [fX12_crown_L54, if_pos (nI_le (Nat.le_refl _) (by omega))]
  | succ j ih =>
    intro i h F hi hF X K H
    obtain ⟨F, rfl⟩ : ∃ F', F = F' + 1 := ⟨F - 1, by omega⟩
    have hs := X.2.2.1.1
    have hP := XI_P X
    have hE1 := XI_E X hPp
    have hl := lw_in (w := w) (sP σ) i (by omega)
    have hwl := hw _ hl.1
    have hm : i % sE σ < sE σ := Nat.mod_lt _ (by omega)
    obtain ⟨h1, e1, G1', X1, K1⟩ := X_along X (w := i) (by omega) hl.1 hwl hm (d := 0) (by omega)
    have hic : isC (41 + 2 * i) := by unfold isC; omega
    have O1 : XOk h h1 σ B := ⟨X1, gr_cl (SC_x hic G1')⟩
    have cvn : ∀ p k, p = 49 ∨ p = 50 → eg_cov (SC (41 + 2 * i)) p k = false := by
      intro p k hp
      rcases (by omega : i = 0 ∨ i = 1 ∨ i = 2) with rfl | rfl | rfl <;> rcases hp with rfl | rfl <;> rfl
    have K' : XPr h1 (sP σ) w := ⟨fun k hk => by rw [(G1'.2.1 49 k (by omega) (cvn 49 k (Or.inl rfl))).1]; exact K.1 k hk, fun k hk => by rw [(G1'.2.1 50 k (by omega) (cvn 50 k (Or.inr rfl))).1]; exact K.2 k hk⟩
    obtain ⟨h2, e2, O2, H2⟩ := ih (i + 1) h1 F (by omega) (by omega) X1 K' (fun m hm' => by
      by_cases cm : m = i
      · subst cm; exact K1
      · exact CO_gr (by unfold isC; omega) hic (by omega) (H m (by omega)) G1')
    refine ⟨h2, ?_, XOk_tr O1 O2, H2⟩
    have e1' : fX12_goAlong h 16 (nI i) (nI (10 * lwT w (sP σ) i + w (lwT w (sP σ) i))) (nI (10 * (i % sE σ))) = some (41 + 2 * i, h1) := e1
    rw [fX12_crown_L54, if_neg (nI_ge (by omega) (by omega)), gR_16 hs, rf_16_18 hs, Option.bind_some, X_pairOf hs hP.1 K (by omega), Option.bind_some]
    dsimp only
    rw [gR_16 hs, rf_16_3 hs, Option.bind_some, X_eggs X, Option.bind_some]
    dsimp only
    rw [if_neg (nI_ne0 (by omega) (by omega)), n_md (by omega) (by omega), nI_k10, e1', Option.bind_some]
    dsimp only
    rw [nI_1]
    exact e2
theorem aR40n (hs : eg_stt h) {i : Nat} (hi : i < 3) : eg_aR h 112 40 (nI i) = some (41 + 2 * i) := by
  have hcl : (nI i).toNatClampNeg = i := nI_clamp (by omega)
  unfold eg_aR
  rw [if_pos ⟨by omega, by rw [kd_40 hs], nI_pos (by omega), by rw [kd_40 hs, hcl]; exact hi⟩, hcl]
  rcases (by omega : i = 0 ∨ i = 1 ∨ i = 2) with rfl | rfl | rfl
  · exact rf_40_0 hs
  · exact rf_40_1 hs
  · exact rf_40_2 hs
theorem X_co_L {fs : Nat → Nat → Nat} {own k c st : Nat} (hd : ∀ j, dec (fs j)) (hs : eg_stt h) (hc3 : c ≤ 3) (hk : k ≤ 60) (H : ∀ m, m < c → CO h (41 + 2 * m) (fs m) st) (ho : own < c) : ∀ j i F, i + j = c → j < F → fX12_crownOf_L30 F h 16 (nI own) (nI c) (nI k) (jI ((crP fs own k i : Nat) : Int)) (nI i) = some (jI ((crP fs own k c : Nat) : Int), h) := by
  intro j
  induction j with
  | zero =>
    intro i F hi hF
    obtain ⟨F, rfl⟩ : ∃ F', F = F' + 1 := ⟨F - 1, by omega⟩
    obtain rfl : i = c := by omega
    rw [fX12_crownOf_L30, if_pos (nI_le (Nat.le_refl _) (by omega))]
  | succ j ih =>
    intro i F hi hF
    obtain ⟨F, rfl⟩ : ∃ F', F = F' + 1 := ⟨F - 1, by omega⟩
    have e3 := ih (i + 1) F (by omega) (by omega)
    rw [crP] at e3
    rw [fX12_crownOf_L30, if_neg (nI_ge (by omega) (by omega)), gR_16 hs, rf_16_17 hs, Option.bind_some, al_40 hs, Option.bind_some, if_neg (nI_ge (by omega) (by omega)), nI_1]
    by_cases c1 : i = own
    · rw [if_pos c1] at e3
      rw [if_pos (by rw [c1])]
      exact e3
    · rw [if_neg c1] at e3
      have hic : isC (41 + 2 * i) := by unfold isC; omega
      rw [if_neg (fun z => c1 ((nI_eq (by omega) (by omega)).mp z)), Option.bind_some, aR40n hs (by omega), Option.bind_some, X_fewer hic hs (H i (by omega)) (hd i) hk, Option.bind_some]
      dsimp only
      rw [show (1000000000 : Int64) = jI ((1000000000 : Nat) : Int) from rfl, j_md (cr_b hd own k i) (by omega), Option.bind_some]
      exact e3
theorem X_co {fs : Nat → Nat → Nat} {own k c st : Nat} (hd : ∀ j, dec (fs j)) (hs : eg_stt h) (hc3 : c ≤ 3) (hk : k ≤ 60) (H : ∀ m, m < c → CO h (41 + 2 * m) (fs m) st) (ho : own < c) : fX12_crownOf h 16 (nI own) (nI c) (nI k) = some (jI ((crP fs own k c : Nat) : Int), h) := by
  have hic : isC (41 + 2 * own) := by unfold isC; omega
  have e := X_co_L hd hs hc3 hk H ho c 0 eg_F (by omega) (by rw [eg_F_eq]; omega)
  have e' : fX12_crownOf_L30 eg_F h 16 (nI own) (nI c) (nI k) (jI ((jst (fs own) k : Nat) : Int)) 0 = _ := e
  unfold fX12_crownOf
  rw [if_pos (iO_16 hs), if_neg (nI_pos (by omega)), gR_16 hs, rf_16_17 hs, Option.bind_some, al_40 hs, Option.bind_some, if_pos (nI_lt (by omega) (by omega)), Option.bind_some, aR40n hs (by omega), Option.bind_some, X_just hic hs (H own ho) (hd own) hk, Option.bind_some]
  dsimp only
  rw [e', Option.bind_some]
theorem X_cs_L {fs : Nat → Nat → Nat} {own c st : Nat} (hd : ∀ j, dec (fs j)) (hs : eg_stt h) (hc3 : c ≤ 3) (H : ∀ m, m < c → CO h (41 + 2 * m) (fs m) st) (ho : own < c) : ∀ j i F, i + j = 61 → j < F → fX12_crown_L101 F h 16 (nI c) (nI own) (jI ((sm (fun k => crP fs own k c) i : Nat) : Int)) (nI i) = some (jI ((sm (fun k => crP fs own k c) 61 : Nat) : Int), h) := by
  intro j
  induction j with
  | zero =>
    intro i F hi hF
    obtain ⟨F, rfl⟩ : ∃ F', F = F' + 1 := ⟨F - 1, by omega⟩
    obtain rfl : i = 61 := by omega
    rw [fX12_crown_L101, if_pos (by decide)]
  | succ j ih =>
    intro i F hi hF
    obtain ⟨F, rfl⟩ : ∃ F', F = F' + 1 := ⟨F - 1, by omega⟩
    have e3 := ih (i + 1) F (by omega) (by omega)
    rw [sm, Int.natCast_add] at e3
    rw [fX12_crown_L101, if_neg (show ¬ (60 : Int32) < nI i from nI_nlt (a := 60) (by omega) (by omega)), X_co hd hs hc3 (by omega) H ho, Option.bind_some]
    dsimp only
    rw [jI_add, Option.bind_some, nI_1]
    exact e3
theorem X_crown (X : XI h σ B) (x l : Int32) : ∃ h', fX12_crown h 16 x l = some (aCrown σ x l, h') ∧ XOk h h' σ B := by
  have C := X.2.2.1
  have hs := C.1
  have hP := XI_P X
  obtain ⟨h1, e1, E1, K1⟩ := X_readPairs hs hP.1 x
  have O1 := Spr_x X E1
  have s1 := O1.1.2.2.1.1
  unfold fX12_crown aCrown
  rw [if_pos (iO_16 hs), gR_16 hs, rf_16_18 hs, Option.bind_some, gR_16 hs, rf_16_3 hs, Option.bind_some, X_persons X, Option.bind_some]
  dsimp only
  rw [e1, Option.bind_some]
  dsimp only
  rw [gR_16 s1, rf_16_18 s1, Option.bind_some]
  by_cases c1 : gPr (sP σ) x
  rotate_left
  · have el : fX9_pairOfLower h1 47 l (if gPr (sP σ) x then nI (cnW (wd (dN x) (sP σ)) (sP σ)) else 0) = some (-1, h1) := by
      rw [if_neg c1]
      unfold fX9_pairOfLower
      rw [if_pos (iO_47 s1), eg_F_eq, fX9_pairOfLower_L2, if_pos (by decide), Option.bind_some]
    rw [el, Option.bind_some]
    dsimp only
    rw [if_neg c1, if_pos rfl, if_neg (fun g => c1 g.1.1)]
    exact ⟨h1, rfl, O1⟩
  have hPp := c1.1.1
  have hw : ∀ i, i < sP σ → wd (dN x) (sP σ) i < sP σ := fun i hi => wd_lt c1.1.2 hi
  have K : XPr h1 (sP σ) (wd (dN x) (sP σ)) := K1 c1
  have hc0 := cn_pos hPp c1.2
  have hc3 := cn_3 hP.1 hw c1.2
  have hE1 := XI_E X hPp
  have el : fX9_pairOfLower h1 47 l (if gPr (sP σ) x then nI (cnW (wd (dN x) (sP σ)) (sP σ)) else 0) = some (if G1 (sP σ) l ∧ dN l < wd (dN x) (sP σ) (dN l) then nI (cnW (wd (dN x) (sP σ)) (dN l)) else -1, h1) := by
    rw [if_pos c1]
    exact X_pol l s1 hP.1 hw K
  rw [el, Option.bind_some]
  dsimp only
  rw [if_pos c1, if_neg (nI_ne0 (by omega) (by omega))]
  by_cases c2 : G1 (sP σ) l ∧ dN l < wd (dN x) (sP σ) (dN l)
  rotate_left
  · rw [if_neg c2, if_pos rfl, if_neg (fun g => c2 ⟨g.1.2, g.2⟩)]
    exact ⟨h1, rfl, O1⟩
  obtain ⟨n, hn, rfl⟩ := G1_n (by omega) c2.1
  have c22 := c2.2
  rw [dN_n (by omega)] at c22
  obtain ⟨q1, q2⟩ := lw_slot c22 (sP σ) hn
  rw [if_pos c2, if_pos (show gCr σ x (nI n) from ⟨⟨c1, c2.1⟩, c2.2⟩), dN_n (by omega), if_neg (nI_nm1 (by omega)), gR_16 s1, rf_16_3 s1, Option.bind_some, X_eggs O1.1, Option.bind_some]
  dsimp only
  obtain ⟨h2, e2, O2, H2⟩ := X_crown_L (own := nI (cnW (wd (dN x) (sP σ)) n)) hw hc3 hPp (cnW (wd (dN x) (sP σ)) (sP σ)) 0 h1 eg_F (by omega) (by rw [eg_F_eq]; omega) O1.1 K (fun m hm => by omega)
  have e2' : fX12_crown_L54 eg_F h1 16 (nI (cnW (wd (dN x) (sP σ)) (sP σ))) (nI (cnW (wd (dN x) (sP σ)) n)) 0 = _ := e2
  have e3 := X_cs_L (fs := crf σ (wd (dN x) (sP σ))) (own := cnW (wd (dN x) (sP σ)) n) (fun j => dec_pt) O2.1.2.2.1.1 hc3 H2 q1 61 0 eg_F (by omega) (by rw [eg_F_eq]; omega)
  have e3' : fX12_crown_L101 eg_F h2 16 (nI (cnW (wd (dN x) (sP σ)) (sP σ))) (nI (cnW (wd (dN x) (sP σ)) n)) 0 0 = _ := e3
  refine ⟨h2, ?_, XOk_tr O1 O2⟩
  rw [if_pos (show (0 : Int32) < nI (sE σ) from nI_lt (a := 0) (by omega) (by omega)), e2', Option.bind_some]
  dsimp only
  rw [e3', Option.bind_some]
def MCa (h : eg_H) (fs : Nat → Nat → Nat) (n : Nat) : Prop := ∀ m, m < n → ∀ k, k < 62 → eg_I h 79 (62 * m + k) = nI (ft (fs m) k)
theorem i62 (m k : Nat) : (62 : Int32) * nI m + nI k = nI (62 * m + k) := by
  rw [← iI_n, ← iI_n, ← iI_n, show (62 : Int32) = iI 62 from rfl, iI_mul, iI_add]
  rfl
theorem M_cp_L {fs : Nat → Nat → Nat} {i : Nat} {l2 l3 : Int32} (hi3 : i < 3) : ∀ j k h F, k + j = 62 → j < F → eg_stt h → (∀ m, m < 62 → eg_I h 75 m = nI (ft (fs i) m)) → MCa h fs i → (∀ m, m < k → eg_I h 79 (62 * i + m) = nI (ft (fs i) m)) → ∃ h', fX13_crown_L93 F h 54 l2 l3 (nI i) (nI k) = some (54, l2, l3, nI i, h') ∧ eg_eq [(79, none)] h h' ∧ MCa h' fs (i + 1) := by
  intro j
  induction j with
  | zero =>
    intro k h F hk hF hs H1 H2 H3
    obtain ⟨F, rfl⟩ : ∃ F', F = F' + 1 := ⟨F - 1, by omega⟩
    obtain rfl : k = 62 := by omega
    refine ⟨h, by rw [fX13_crown_L93, if_pos (by decide)], eq_rfl, fun m hm q hq => ?_⟩
    by_cases cm : m = i
    · subst cm; exact H3 q hq
    · exact H2 m (by omega) q hq
  | succ j ih =>
    intro k h F hk hF hs H1 H2 H3
    obtain ⟨F, rfl⟩ : ∃ F', F = F' + 1 := ⟨F - 1, by omega⟩
    have hcl : (nI k).toNatClampNeg = k := nI_clamp (by omega)
    have hcl2 : (nI (62 * i + k)).toNatClampNeg = 62 * i + k := nI_clamp (by omega)
    obtain ⟨h2, e2, E2, M2⟩ := ih (k + 1) (eg_sI h 79 (62 * i + k) (nI (ft (fs i) k))) F (by omega) (by omega) hs (fun m hm => by rw [I_sI, if_neg (by omega)]; exact H1 m hm) (fun m hm q hq => by rw [I_sI, if_neg (by omega)]; exact H2 m hm q hq) (fun m hm => by
      rw [I_sI]
      by_cases cm : m = k
      · subst cm; rw [if_pos ⟨rfl, rfl⟩]
      · rw [if_neg (by omega)]; exact H3 m (by omega))
    refine ⟨h2, ?_, eq_tr (eq_sI eq_rfl (by simp [eg_cov])) E2, M2⟩
    rw [fX13_crown_L93, if_neg (show ¬ (62 : Int32) ≤ nI k from nI_ge (b := 62) (by omega) (by omega)), gR_54 hs, rf_54_56 hs, Option.bind_some, gR_54 hs, rf_54_50 hs, Option.bind_some, aI_75 hs (nI_pos (by omega)) (by rw [hcl]; omega), hcl, Option.bind_some, H1 k (by omega), i62, wI_79 hs (nI_pos (by omega)) (by rw [hcl2]; omega), hcl2, Option.bind_some, nI_1]
    exact e2
def ownI (own i : Nat) : Int32 := if own < i then nI own else -1
theorem MPr_eq {h' : eg_H} {S : List (Nat × Option Nat)} {P : Nat} {w : Nat → Nat} (K : MPr h P w) (E : eg_eq S h h') (c : eg_cov S 54 54 = false ∧ ∀ i, eg_cov S 71 i = false ∧ eg_cov S 78 i = false) : MPr h' P w := ⟨⟨fun i hi => by rw [(E.2 71 i (c.2 i).1).1]; exact K.1.1 i hi, by rw [(E.2 54 54 c.1).1]; exact K.1.2⟩, fun k hk => by rw [(E.2 78 k (c.2 k).2).1]; exact K.2 k hk⟩
theorem M_crown_L {w : Nat → Nat} {n : Nat} (hw : ∀ i, i < sP σ → w i < sP σ) (hc3 : cnW w (sP σ) ≤ 3) (hPp : 0 < sP σ) (hn : n < sP σ) (hnw : n < w n) : ∀ j i h F, i + j = cnW w (sP σ) → j < F → RI h σ → MPr h (sP σ) w → MCa h (crf σ w) i → ∃ h', fX13_crown_L40 F h 54 (nI n) (ownI (cnW w n) i) (nI i) = some (54, ownI (cnW w n) (cnW w (sP σ)), h') ∧ ROk h h' σ ∧ MPr h' (sP σ) w ∧ MCa h' (crf σ w) (cnW w (sP σ)) := by
  intro j
  induction j with
  | zero =>
    intro i h F hi hF R K M
    obtain ⟨F, rfl⟩ : ∃ F', F = F' + 1 := ⟨F - 1, by omega⟩
    have hs := R.1
    obtain rfl : i = cnW w (sP σ) := by omega
    refine ⟨h, ?_, ⟨R, rfl, fun _ _ _ => ⟨rfl, rfl, rfl⟩⟩, K, M⟩
    rw [fX13_crown_L40, gI_54 hs, Option.bind_some, K.1.2, if_pos (nI_le (Nat.le_refl _) (by omega))]
  | succ j ih =>
    intro i h F hi hF R K M
    obtain ⟨F, rfl⟩ : ∃ F', F = F' + 1 := ⟨F - 1, by omega⟩
    have hs := R.1
    have hP := RI_P R
    have O := RI_RO R hPp
    have hE1 : 1 ≤ sE σ := (R.2.1.2.1.2.2.2 hPp).2.1
    have hl := lw_in (w := w) (sP σ) i (by omega)
    have hcn := lw_cn (w := w) (sP σ) i (by omega)
    have hwl := hw _ hl.1
    have hm : i % sE σ < sE σ := Nat.mod_lt _ (by omega)
    have hcl : (nI i).toNatClampNeg = i := nI_clamp (by omega)
    have hcl2 : (nI (lwT w (sP σ) i)).toNatClampNeg = lwT w (sP σ) i := nI_clamp (by omega)
    have a1 : ∀ g, eg_stt g → MPr g (sP σ) w → eg_aI g 100 78 (nI i) = some (nI (lwT w (sP σ) i)) := fun g sg Kg => by rw [aI_78 sg (nI_pos (by omega)) (by rw [hcl]; omega), hcl, Kg.2 i (by omega)]
    have a2 : eg_aI h 100 71 (nI (lwT w (sP σ) i)) = some (nI (w (lwT w (sP σ) i))) := by rw [aI_71 hs (nI_pos (by omega)) (by rw [hcl2]; omega), hcl2, K.1.1 _ hl.1]
    obtain ⟨h1, e1, E1, C1⟩ := M_layC O (q := 75) (Or.inl rfl) hl.1 hwl hm (d := 0) (by omega)
    have R1 := ROk_scr R (SL_x (Or.inl rfl) E1)
    have s1 := R1.1.1
    have K1 := MPr_eq K E1 ⟨rfl, fun _ => ⟨rfl, rfl⟩⟩
    have M1 : MCa h1 (crf σ w) i := fun m hm' k hk => by rw [(E1.2 79 _ rfl).1]; exact M m hm' k hk
    obtain ⟨h2, e2, E2, M2⟩ := M_cp_L (fs := crf σ w) (i := i) (l2 := nI n) (l3 := ownI (cnW w n) i) (by omega) 62 0 h1 eg_F (by omega) (by rw [eg_F_eq]; omega) s1 C1 M1 (fun m hm' => by omega)
    have e2' : fX13_crown_L93 eg_F h1 54 (nI n) (ownI (cnW w n) i) (nI i) 0 = _ := e2
    have R2 := ROk_scr R1.1 (cov_sub (S := [(79, none)]) (by decide) E2)
    have s2 := R2.1.1
    have K2 := MPr_eq K1 E2 ⟨rfl, fun _ => ⟨rfl, rfl⟩⟩
    obtain ⟨h3, e3, O3, K3, M3⟩ := ih (i + 1) h2 F (by omega) (by omega) R2.1 K2 M2
    refine ⟨h3, ?_, ROk_tr R1 (ROk_tr R2 O3), K3, M3⟩
    have e1' : fX13_layComes h 54 (nI (10 * lwT w (sP σ) i + w (lwT w (sP σ) i))) (nI (10 * (i % sE σ))) 75 = some h1 := e1
    rw [fX13_crown_L40, gI_54 hs, Option.bind_some, K.1.2, if_neg (nI_ge (by omega) (by omega)), gR_54 hs, rf_54_53 hs, Option.bind_some, a1 h hs K, Option.bind_some, gR_54 hs, rf_54_43 hs, Option.bind_some, Option.bind_some, a1 h hs K, Option.bind_some, a2, Option.bind_some, gI_54 hs, Option.bind_some, R.2.2.2.1.2.2.2.2, if_neg (nI_ne0 (by omega) (by omega)), gR_54 hs, rf_54_50 hs, Option.bind_some, k10, n_md (by omega) (by omega), nI_k10, e1', Option.bind_some, e2', Option.bind_some]
    dsimp only
    rw [gR_54 s2, rf_54_53 s2, Option.bind_some, a1 h2 s2 K2, Option.bind_some, nI_1]
    have hu : ∀ a b : Nat, ownI a b = if a < b then nI a else -1 := fun _ _ => rfl
    by_cases c : lwT w (sP σ) i = n
    · have hci : cnW w n = i := by rw [← c]; exact hcn
      rw [if_pos (by rw [c])]
      rw [hu, if_pos (by omega), hci] at e3
      rw [hci]
      exact e3
    · have hci : ¬ cnW w n = i := fun z => by
        have := (lw_slot hnw (sP σ) hn).2
        rw [z] at this
        exact c this
      have e5 : ownI (cnW w n) (i + 1) = ownI (cnW w n) i := by
        rw [hu, hu]
        by_cases c2 : cnW w n < i
        · rw [if_pos c2, if_pos (by omega)]
        · rw [if_neg c2, if_neg (by omega)]
      rw [if_neg (fun z => c ((nI_eq (by omega) (by omega)).mp z))]
      rw [e5] at e3
      exact e3
theorem M_co_L {fs : Nat → Nat → Nat} {own k c : Nat} {l4 : Int64} (hd : ∀ j, dec (fs j)) (hs : eg_stt h) (hc3 : c ≤ 3) (hk : k ≤ 60) (hC : eg_I h 54 54 = nI c) (M : MCa h fs c) (ho : own < c) : ∀ j i F, i + j = c → j < F → fX13_crown_L196 F h 54 (nI own) l4 (nI k) (jI ((crP fs own k i : Nat) : Int)) (nI i) = some (54, nI own, l4, nI k, jI ((crP fs own k c : Nat) : Int), h) := by
  intro j
  induction j with
  | zero =>
    intro i F hi hF
    obtain ⟨F, rfl⟩ : ∃ F', F = F' + 1 := ⟨F - 1, by omega⟩
    obtain rfl : i = c := by omega
    rw [fX13_crown_L196, gI_54 hs, Option.bind_some, hC, if_pos (nI_le (Nat.le_refl _) (by omega))]
  | succ j ih =>
    intro i F hi hF
    obtain ⟨F, rfl⟩ : ∃ F', F = F' + 1 := ⟨F - 1, by omega⟩
    have e3 := ih (i + 1) F (by omega) (by omega)
    rw [crP] at e3
    rw [fX13_crown_L196, gI_54 hs, Option.bind_some, hC, if_neg (nI_ge (by omega) (by omega)), nI_1]
    by_cases c1 : i = own
    · rw [if_pos c1] at e3
      rw [if_pos (by rw [c1])]
      exact e3
    · rw [if_neg c1] at e3
      have hcl2 : (nI (62 * i + k)).toNatClampNeg = 62 * i + k := nI_clamp (by omega)
      have hft := (ft_dec (hd i) k).2
      rw [if_neg (fun z => c1 ((nI_eq (by omega) (by omega)).mp z)), gR_54 hs, rf_54_56 hs, Option.bind_some, i62, aI_79 hs (nI_pos (by omega)) (by rw [hcl2]; omega), hcl2, Option.bind_some, M i (by omega) k (by omega), show (1000000000 : Int32) = nI 1000000000 from rfl, n_sub hft, nW (by omega), show (1000000000 : Int64) = jI ((1000000000 : Nat) : Int) from rfl, j_md (cr_b hd own k i) (by omega), Option.bind_some]
      exact e3
theorem M_cs_L {fs : Nat → Nat → Nat} {own c : Nat} (hd : ∀ j, dec (fs j)) (hs : eg_stt h) (hc3 : c ≤ 3) (hC : eg_I h 54 54 = nI c) (M : MCa h fs c) (ho : own < c) : ∀ j i F, i + j = 61 → j < F → fX13_crown_L156 F h 54 (nI own) (jI ((sm (fun k => crP fs own k c) i : Nat) : Int)) (nI i) = some (jI ((sm (fun k => crP fs own k c) 61 : Nat) : Int), h) := by
  intro j
  induction j with
  | zero =>
    intro i F hi hF
    obtain ⟨F, rfl⟩ : ∃ F', F = F' + 1 := ⟨F - 1, by omega⟩
    obtain rfl : i = 61 := by omega
    rw [fX13_crown_L156, if_pos (by decide)]
  | succ j ih =>
    intro i F hi hF
    obtain ⟨F, rfl⟩ : ∃ F', F = F' + 1 := ⟨F - 1, by omega⟩
    have e3 := ih (i + 1) F (by omega) (by omega)
    rw [sm, Int.natCast_add] at e3
    have hcl : (nI (62 * own + i)).toNatClampNeg = 62 * own + i := nI_clamp (by omega)
    have hcl2 : (nI (62 * own + i + 1)).toNatClampNeg = 62 * own + i + 1 := nI_clamp (by omega)
    have hdd := ft_dec (hd own) i
    have ej : (nI (ft (fs own) i) - nI (ft (fs own) (i + 1))).toInt64 = jI (jst (fs own) i : Nat) := by rw [n_sub hdd.1, nW (by omega)]; rfl
    have e := M_co_L (k := i) (l4 := jI ((sm (fun k => crP fs own k c) i : Nat) : Int)) hd hs hc3 (by omega) hC M ho c 0 eg_F (by omega) (by rw [eg_F_eq]; omega)
    have e' : fX13_crown_L196 eg_F h 54 (nI own) (jI ((sm (fun k => crP fs own k c) i : Nat) : Int)) (nI i) (jI ((jst (fs own) i : Nat) : Int)) 0 = _ := e
    rw [fX13_crown_L156, if_neg (show ¬ (60 : Int32) < nI i from nI_nlt (a := 60) (by omega) (by omega)), gR_54 hs, rf_54_56 hs, Option.bind_some, i62, aI_79 hs (nI_pos (by omega)) (by rw [hcl]; omega), hcl, Option.bind_some, M own ho i (by omega), Option.bind_some, nI_1 (62 * own + i), aI_79 hs (nI_pos (by omega)) (by rw [hcl2]; omega), hcl2, Option.bind_some, show 62 * own + i + 1 = 62 * own + (i + 1) by omega, M own ho (i + 1) (by omega), ej, Option.bind_some, e', Option.bind_some]
    dsimp only
    rw [jI_add, Option.bind_some, nI_1]
    exact e3
theorem M_crown (R : RI h σ) (x l : Int32) : ∃ h', fX13_crown h 54 x l = some (aCrown σ x l, h') ∧ ROk h h' σ := by
  obtain ⟨R0, Q0⟩ := R_0 R
  have hs := R.1
  have s0 := R0.1
  have hP := RI_P R
  obtain ⟨h1, e1, E1, K1⟩ := M_layPairs R0 x
  have O1 := ROk_scr R0 (Slp_x E1)
  have s1 := O1.1.1
  have O01 := ROk_tr (ROk_scr R Q0) O1
  unfold fX13_crown aCrown
  rw [if_pos (iO_54 hs), pI_54 hs, Option.bind_some, e1, Option.bind_some]
  dsimp only
  rw [g01]
  by_cases c1 : gPr (sP σ) x
  rotate_left
  · rw [if_neg c1, if_neg (fun g => c1 g.1.1)]; exact ⟨h1, rfl, O01⟩
  rw [if_pos c1, M_isPerson s1 O1.1.2.2.2.1 l, Option.bind_some]
  dsimp only
  rw [g01]
  by_cases c2 : G1 (sP σ) l
  rotate_left
  · rw [if_neg c2, if_neg (fun g => c2 g.1.2)]; exact ⟨h1, rfl, O01⟩
  have hPp := c1.1.1
  have hw : ∀ i, i < sP σ → wd (dN x) (sP σ) i < sP σ := fun i hi => wd_lt c1.1.2 hi
  have K : MPr h1 (sP σ) (wd (dN x) (sP σ)) := K1 c1
  have hc0 := cn_pos hPp c1.2
  have hc3 := cn_3 hP.1 hw c1.2
  obtain ⟨n, hn, rfl⟩ := G1_n (by omega) c2
  have hcl : (nI n).toNatClampNeg = n := nI_clamp (by omega)
  have hwn := hw n hn
  have hne := (c1.2 n hn).1
  rw [if_pos c2, gR_54 s1, rf_54_43 s1, Option.bind_some, aI_71 s1 (nI_pos (by omega)) (by rw [hcl]; omega), hcl, Option.bind_some, K.1.1 n hn]
  by_cases c3 : n < wd (dN x) (sP σ) n
  rotate_left
  · rw [if_neg (nI_ge (by omega) (by omega)), if_neg (fun g => c3 (by have := g.2; rw [dN_n (by omega)] at this; exact this))]; exact ⟨h1, rfl, O01⟩
  rw [if_pos (nI_le (by omega) (by omega)), if_pos (show gCr σ x (nI n) from ⟨⟨c1, c2⟩, by rw [dN_n (by omega)]; exact c3⟩)]
  obtain ⟨q1, q2⟩ := lw_slot c3 (sP σ) hn
  obtain ⟨h2, e2, O2, K2, M2⟩ := M_crown_L hw hc3 hPp hn c3 (cnW (wd (dN x) (sP σ)) (sP σ)) 0 h1 eg_F (by omega) (by rw [eg_F_eq]; omega) O1.1 K (fun m hm => by omega)
  have hu : ∀ a b : Nat, ownI a b = if a < b then nI a else -1 := fun _ _ => rfl
  rw [hu _ 0, if_neg (by omega), hu, if_pos q1] at e2
  have e2' : fX13_crown_L40 eg_F h1 54 (nI n) (-1) 0 = _ := e2
  have e3 := M_cs_L (fs := crf σ (wd (dN x) (sP σ))) (own := cnW (wd (dN x) (sP σ)) n) (fun j => dec_pt) O2.1.1 hc3 K2.1.2 M2 q1 61 0 eg_F (by omega) (by rw [eg_F_eq]; omega)
  have e3' : fX13_crown_L156 eg_F h2 54 (nI (cnW (wd (dN x) (sP σ)) n)) 0 0 = _ := e3
  refine ⟨h2, ?_, ROk_tr O01 O2⟩
  rw [e2', Option.bind_some]
  dsimp only
  rw [e3', Option.bind_some, dN_n (by omega)]
end CR
