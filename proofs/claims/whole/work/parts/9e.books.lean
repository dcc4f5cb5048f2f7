def isB (p : Nat) : Prop := p = 27 ∨ p = 29 ∨ p = 31 ∨ p = 33
theorem B_o {h : eg_H} (hs : eg_stt h) {p : Nat} (hp : isB p) : eg_isO h 1 p ∧ eg_P h p 0 = some (p + 1) ∧ eg_kd h (p + 1) = (100, if p ≤ 30 then 80 else 160) := by
  rcases hp with rfl | rfl | rfl | rfl
  · exact ⟨iO_27 hs, rf_27_0 hs, kd_28 hs⟩
  · exact ⟨iO_29 hs, rf_29_0 hs, kd_30 hs⟩
  · exact ⟨iO_31 hs, rf_31_0 hs, kd_32 hs⟩
  · exact ⟨iO_33 hs, rf_33_0 hs, kd_34 hs⟩
def aCount (σ : eg_S) (w : Int32) : Int32 := if w = 0 then nI (sP σ) else if w = 1 then nI (sE σ) else if w = 2 then nI (sN σ) else if w = 3 then nI (σ.1 0) else if w = 4 then nI (sU σ 0) else if w = 5 then nI (sU σ 1) else if w = 6 then nI (sU σ 2) else if w = 7 then nI (sU σ 3) else if w = 8 then iI ((σ.1 4 : Int) - 1) else if w = 9 then nI (σ.1 6) else if w = 10 then nI (σ.1 8) else if w = 11 then nI (sF σ) else if w = 12 then nI (σ.1 7) else -1000000
def aPlayed (σ : eg_S) (g w : Int32) : Int32 := if G1 (σ.1 8) g ∧ GI (nI 0) (nI 2) w then σ.2 6 (4 * dN g + dN w) else -1
def chF (f : Nat → Int32) : Nat → Nat
  | 0 => 0
  | n + 1 => if f (chF f n) < f n then n else chF f n
def aChamp (σ : eg_S) : Int32 := if σ.1 8 = 0 then -1 else nI (chF (fun i => σ.2 6 (4 * i + 2)) (σ.1 8))
section BO
variable {h : eg_H} {σ : eg_S} {B : Nat × Nat}
theorem X_size (hs : eg_stt h) {p : Nat} (hp : isB p) {m n : Nat} {r : Nat → Int32} (b : Bk h p m n r) : fX1_size h p = some (nI n, h) := by
  obtain ⟨o1, _, _⟩ := B_o hs hp
  unfold fX1_size
  rw [if_pos o1, show eg_gI h 1 2 p = some (eg_I h p 2) from if_pos o1, Option.bind_some, b.2.1]
theorem X_cell (hs : eg_stt h) {p : Nat} (hp : isB p) {m n i c : Nat} {r : Nat → Int32} (b : Bk h p m n r) (hn : 4 * n ≤ (if p ≤ 30 then 80 else 160)) (hi : i < n) (hc : c < 4) : fX1_cell h p (nI i) (nI c) = some (r (4 * i + c), h) := by
  obtain ⟨o1, o2, o3⟩ := B_o hs hp
  have h160 : (if p ≤ 30 then 80 else 160) ≤ 160 := by split <;> omega
  have hcl : (nI (4 * i + c)).toNatClampNeg = 4 * i + c := nI_clamp (by omega)
  have p16 : 16 ≤ p + 1 := by rcases hp with rfl | rfl | rfl | rfl <;> omega
  unfold fX1_cell
  rw [if_pos o1, if_neg (nI_pos (by omega)), show eg_gI h 1 2 p = some (eg_I h p 2) from if_pos o1, Option.bind_some, b.2.1, if_neg (nI_ge hi (by omega)), if_neg (nI_pos (by omega)), if_pos (show nI c ≤ (3 : Int32) from nI_le (b := 3) (by omega) (by omega)), show eg_gR h 1 0 p = eg_P h p 0 from if_pos o1, o2, Option.bind_some, nI_k4, nI_add]
  have hr : eg_aI h 100 (p + 1) (nI (4 * i + c)) = some (eg_I h (p + 1) (4 * i + c)) := by
    unfold eg_aI
    rw [if_pos ⟨p16, by rw [o3], nI_pos (by omega), by rw [o3, hcl]; show 4 * i + c < (if p ≤ 30 then 80 else 160); omega⟩, hcl]
  rw [hr, Option.bind_some, b.2.2 _ (by omega)]
theorem X_count (X : XI h σ B) (w : Int32) : ∃ h', fX12_count h 16 w = some (aCount σ w, h') ∧ XOk h h' σ B := by
  have C := X.2.2.1
  have hs := C.1
  obtain ⟨⟨a1, a2, a3, a4⟩, ⟨b1, b2⟩, ⟨k1, k2, k3, k4⟩, i1, i2⟩ := X.2.2.2
  have t : ∀ x, x < 4 → fX7_told h 23 (nI x) = some (nI (sU σ x), h) := fun x hx => X_told hs C.2.1 hx
  refine ⟨h, ?_, XOk_rfl X⟩
  unfold fX12_count aCount
  rw [if_pos (iO_16 hs)]
  by_cases c0 : w = 0
  · rw [if_pos c0, if_pos c0, gR_16 hs, rf_16_3 hs, Option.bind_some]
    unfold fX7_persons
    rw [if_pos (iO_23 hs), gI_23 hs, Option.bind_some, Option.bind_some, C.2.1.1]
  rw [if_neg c0, if_neg c0]
  by_cases c1 : w = 1
  · rw [if_pos c1, if_pos c1, gR_16 hs, rf_16_3 hs, Option.bind_some]
    unfold fX7_eggs
    rw [if_pos (iO_23 hs), gI_23 hs, Option.bind_some, Option.bind_some, C.2.1.2.1]
  rw [if_neg c1, if_neg c1]
  by_cases c2 : w = 2
  · rw [if_pos c2, if_pos c2, gI_16 hs, Option.bind_some, a1]
  rw [if_neg c2, if_neg c2]
  by_cases c3 : w = 3
  · rw [if_pos c3, if_pos c3, gR_16 hs, rf_16_0 hs, Option.bind_some]
    unfold fX10_length
    rw [if_pos (iO_17 hs), gI_17 hs, Option.bind_some, Option.bind_some, X.2.1.1]
  rw [if_neg c3, if_neg c3]
  by_cases c4 : w = 4
  · subst c4
    rw [if_pos rfl, if_pos rfl, gR_16 hs, rf_16_3 hs, Option.bind_some, show (4 : Int32) - 4 = nI 0 from rfl, t 0 (by omega), Option.bind_some]
  rw [if_neg c4, if_neg c4]
  by_cases c5 : w = 5
  · subst c5
    rw [if_pos rfl, if_pos rfl, gR_16 hs, rf_16_3 hs, Option.bind_some, show (5 : Int32) - 4 = nI 1 from rfl, t 1 (by omega), Option.bind_some]
  rw [if_neg c5, if_neg c5]
  by_cases c6 : w = 6
  · subst c6
    rw [if_pos rfl, if_pos rfl, gR_16 hs, rf_16_3 hs, Option.bind_some, show (6 : Int32) - 4 = nI 2 from rfl, t 2 (by omega), Option.bind_some]
  rw [if_neg c6, if_neg c6]
  by_cases c7 : w = 7
  · subst c7
    rw [if_pos rfl, if_pos rfl, gR_16 hs, rf_16_3 hs, Option.bind_some, show (7 : Int32) - 4 = nI 3 from rfl, t 3 (by omega), Option.bind_some]
  rw [if_neg c7, if_neg c7]
  by_cases c8 : w = 8
  · rw [if_pos c8, if_pos c8, gI_16 hs, Option.bind_some, a2]
  rw [if_neg c8, if_neg c8]
  by_cases c9 : w = 9
  · rw [if_pos c9, if_pos c9, gR_16 hs, rf_16_9 hs, Option.bind_some, X_size hs (Or.inl rfl) k1, Option.bind_some]
  rw [if_neg c9, if_neg c9]
  by_cases c10 : w = 10
  · rw [if_pos c10, if_pos c10, gR_16 hs, rf_16_11 hs, Option.bind_some, X_size hs (Or.inr (Or.inr (Or.inl rfl))) k3, Option.bind_some]
  rw [if_neg c10, if_neg c10]
  by_cases c11 : w = 11
  · rw [if_pos c11, if_pos c11, gI_16 hs, Option.bind_some, b1]
  rw [if_neg c11, if_neg c11]
  by_cases c12 : w = 12
  · rw [if_pos c12, if_pos c12, gR_16 hs, rf_16_10 hs, Option.bind_some, X_size hs (Or.inr (Or.inl rfl)) k2, Option.bind_some]
  rw [if_neg c12, if_neg c12]
theorem M_count (R : RI h σ) (w : Int32) : ∃ h', fX13_count h 54 w = some (aCount σ w, h') ∧ ROk h h' σ := by
  obtain ⟨R0, Q0⟩ := R_0 R
  have hs := R.1
  have s0 := R0.1
  obtain ⟨_, W, ⟨t1, t2⟩, ⟨v1, v2, v3, v4, v5⟩, ⟨b1, b2, b3⟩, ⟨c1, c2⟩, ⟨d1, d2⟩, ⟨e1, e2⟩, ⟨f1, f2⟩, ⟨g1, g2⟩, i1, i2⟩ := R0
  have j92 : ∀ x, x < 4 → fX13_count_j92 (eg_sI h 54 0 0) 54 (nI (x + 4)) = some (nI (sU σ x), eg_sI h 54 0 0) := by
    intro x hx
    have hcl : (nI x).toNatClampNeg = x := nI_clamp (by omega)
    have e4 : nI (x + 4) - 4 = nI x := by
      rw [← iI_n, ← iI_n, show (4 : Int32) = iI 4 from rfl, iI_sub]
      congr 1
      omega
    unfold fX13_count_j92
    rw [gI_54 s0, Option.bind_some, v4]
    by_cases c : sP σ = 0
    · rw [if_pos (show nI (sP σ) = 0 by rw [c]; rfl), (W.2.1.2.2.1 c).2 x hx]
      rfl
    · have := W.2.1.1
      rw [if_neg (nI_ne0 (by omega) (by omega)), gR_54 s0, rf_54_18 s0, Option.bind_some, e4, aI_59 s0 (nI_pos (by omega)) (by rw [hcl]; omega), hcl, v1 x hx, Option.bind_some]
  refine ⟨_, ?_, ROk_scr R Q0⟩
  unfold fX13_count aCount
  rw [if_pos (iO_54 hs), pI_54 hs, Option.bind_some]
  by_cases c0 : w = 0
  · rw [if_pos c0, if_pos c0, gI_54 s0, Option.bind_some, v4]
  rw [if_neg c0, if_neg c0]
  by_cases c1' : w = 1
  · rw [if_pos c1', if_pos c1', gI_54 s0, Option.bind_some, v5]
  rw [if_neg c1', if_neg c1']
  by_cases c2' : w = 2
  · rw [if_pos c2', if_pos c2', gI_54 s0, Option.bind_some, b1]
  rw [if_neg c2', if_neg c2']
  by_cases c3 : w = 3
  · rw [if_pos c3, if_pos c3, gI_54 s0, Option.bind_some, t1]
  rw [if_neg c3, if_neg c3]
  by_cases c4 : w = 4
  · rw [if_pos c4, if_pos c4, c4]; exact j92 0 (by omega)
  rw [if_neg c4, if_neg c4]
  by_cases c5 : w = 5
  · rw [if_pos c5, if_pos c5, c5]; exact j92 1 (by omega)
  rw [if_neg c5, if_neg c5]
  by_cases c6 : w = 6
  · rw [if_pos c6, if_pos c6, c6]; exact j92 2 (by omega)
  rw [if_neg c6, if_neg c6]
  by_cases c7 : w = 7
  · rw [if_pos c7, if_pos c7, c7]; exact j92 3 (by omega)
  rw [if_neg c7, if_neg c7]
  by_cases c8 : w = 8
  · rw [if_pos c8, if_pos c8, gI_54 s0, Option.bind_some, b2]
  rw [if_neg c8, if_neg c8]
  by_cases c9 : w = 9
  · rw [if_pos c9, if_pos c9, gI_54 s0, Option.bind_some, d1]
  rw [if_neg c9, if_neg c9]
  by_cases c10 : w = 10
  · rw [if_pos c10, if_pos c10, gI_54 s0, Option.bind_some, f1]
  rw [if_neg c10, if_neg c10]
  by_cases c11 : w = 11
  · rw [if_pos c11, if_pos c11, gI_54 s0, Option.bind_some, c1]
  rw [if_neg c11, if_neg c11]
  by_cases c12 : w = 12
  · rw [if_pos c12, if_pos c12, gI_54 s0, Option.bind_some, e1]
  rw [if_neg c12, if_neg c12]
theorem X_played (X : XI h σ B) (g w : Int32) : ∃ h', fX12_played h 16 g w = some (aPlayed σ g w, h') ∧ XOk h h' σ B := by
  have hs := X.2.2.1.1
  obtain ⟨_, _, ⟨k1, k2, k3, k4⟩, i1, i2⟩ := X.2.2.2
  have h40 := X.1.2.2.2.2.2.2.1
  have hsz := X_size hs (Or.inr (Or.inr (Or.inl rfl))) k3
  refine ⟨h, ?_, XOk_rfl X⟩
  unfold fX12_played aPlayed
  rw [if_pos (iO_16 hs)]
  by_cases c1 : g < 0
  · rw [if_pos c1, if_neg (fun z => z.1.1 c1)]
  · rw [if_neg c1, gR_16 hs, rf_16_11 hs, Option.bind_some, hsz, Option.bind_some]
    dsimp only
    by_cases c2 : nI (σ.1 8) ≤ g
    · rw [if_pos c2, if_neg (fun z => z.1.2 c2)]
    · rw [if_neg c2]
      by_cases c3 : GI (nI 0) (nI 2) w
      · rw [if_neg (show ¬ w < 0 from c3.1), if_pos (show w ≤ (2 : Int32) from Int32.not_lt.mp c3.2), if_pos ⟨⟨c1, c2⟩, c3⟩]
        obtain ⟨n, hn, rfl⟩ := G1_n (P := σ.1 8) (by omega) ⟨c1, c2⟩
        obtain ⟨m, m1, m2, rfl⟩ := GI_n (by omega) (by omega) c3
        rw [gR_16 hs, rf_16_11 hs, Option.bind_some, X_cell hs (Or.inr (Or.inr (Or.inl rfl))) k3 (by show 4 * σ.1 8 ≤ 160; omega) hn (by omega), Option.bind_some, dN_n (by omega), dN_n (by omega)]
      · rw [if_neg (show ¬ (G1 (σ.1 8) g ∧ GI (nI 0) (nI 2) w) from fun z => c3 z.2)]
        by_cases c4 : w < 0
        · rw [if_pos c4]
        · rw [if_neg c4, if_neg (show ¬ w ≤ (2 : Int32) from fun z => c3 ⟨c4, Int32.not_lt.mpr z⟩)]
theorem M_played (R : RI h σ) (g w : Int32) : ∃ h', fX13_played h 54 g w = some (aPlayed σ g w, h') ∧ ROk h h' σ := by
  obtain ⟨R0, Q0⟩ := R_0 R
  have hs := R.1
  have s0 := R0.1
  have h40 := R.2.1.2.2.2.2.2.2.1
  obtain ⟨f1, f2⟩ := R0.2.2.2.2.2.2.2.2.1
  refine ⟨_, ?_, ROk_scr R Q0⟩
  unfold fX13_played aPlayed
  have e1 : nI (σ.1 8) - 1 = iI ((σ.1 8 : Int) - 1) := by
    rw [← iI_n, show (1 : Int32) = iI 1 from rfl, iI_sub]
  rw [if_pos (iO_54 hs), pI_54 hs, Option.bind_some, gI_54 s0, Option.bind_some, f1, e1, M_GIi _ g (nI 0) (iI ((σ.1 8 : Int) - 1)) 0 _ rfl rfl, Option.bind_some]
  dsimp only
  rw [g01]
  have hiff : GI (nI 0) (iI ((σ.1 8 : Int) - 1)) g ↔ G1 (σ.1 8) g := by
    constructor
    · intro z
      refine ⟨z.1, fun y => z.2 ?_⟩
      rw [← iI_n, Int32.le_iff_toInt_le, iI_t (by unfold i3; omega)] at y
      rw [Int32.lt_iff_toInt_lt, iI_t (by unfold i3; omega)]
      omega
    · intro z
      refine ⟨z.1, fun y => z.2 ?_⟩
      rw [Int32.lt_iff_toInt_lt, iI_t (by unfold i3; omega)] at y
      rw [← iI_n, Int32.le_iff_toInt_le, iI_t (by unfold i3; omega)]
      omega
  by_cases c1 : G1 (σ.1 8) g
  · rw [if_pos (hiff.mpr c1), M_GI (lo := 0) (hi := 2) _ w (by omega) (by omega) 0 2 rfl rfl, Option.bind_some]
    dsimp only
    rw [g01]
    by_cases c2 : GI (nI 0) (nI 2) w
    · rw [if_pos c2, if_pos (show G1 (σ.1 8) g ∧ GI (nI 0) (nI 2) w from ⟨c1, c2⟩)]
      obtain ⟨n, hn, rfl⟩ := G1_n (by omega) c1
      obtain ⟨m, m1, m2, rfl⟩ := GI_n (by omega) (by omega) c2
      obtain ⟨z1, z2, z3⟩ := f2 n hn
      have hcl : (nI n).toNatClampNeg = n := nI_clamp (by omega)
      rw [dN_n (by omega), dN_n (by omega)]
      rcases (by omega : m = 0 ∨ m = 1 ∨ m = 2) with rfl | rfl | rfl
      · rw [if_pos (show nI 0 = 0 from rfl), gR_54 s0, rf_54_69 s0, Option.bind_some, aI_87 s0 (nI_pos (by omega)) (by rw [hcl]; omega), hcl, Option.bind_some, z1]
        rfl
      · rw [if_neg (show ¬ nI 1 = 0 by decide), if_pos (show nI 1 = 1 from rfl), gR_54 s0, rf_54_70 s0, Option.bind_some, aI_88 s0 (nI_pos (by omega)) (by rw [hcl]; omega), hcl, Option.bind_some, z2]
      · rw [if_neg (show ¬ nI 2 = 0 by decide), if_neg (show ¬ nI 2 = 1 by decide), gR_54 s0, rf_54_71 s0, Option.bind_some, aI_89 s0 (nI_pos (by omega)) (by rw [hcl]; omega), hcl, Option.bind_some, z3]
    · rw [if_neg c2, if_neg (fun z => c2 z.2)]
  · rw [if_neg (fun z => c1 (hiff.mp z)), if_neg (fun z => c1 z.1)]
theorem ch_lt (f : Nat → Int32) : ∀ n, 0 < n → chF f n < n := by
  intro n
  induction n with
  | zero => intro h; omega
  | succ n ih =>
    intro _
    unfold chF
    split
    · omega
    · rcases Nat.eq_zero_or_pos n with z | z
      · subst z; exact Nat.one_pos
      · have := ih z; omega
theorem ch_1 (f : Nat → Int32) : chF f 1 = 0 := by
  show (if _ then 0 else 0) = 0
  split <;> rfl
theorem X_champion (X : XI h σ B) : ∃ h', fX12_champion h 16 = some (aChamp σ, h') ∧ XOk h h' σ B := by
  have hs := X.2.2.1.1
  obtain ⟨_, _, ⟨k1, k2, k3, k4⟩, i1, i2⟩ := X.2.2.2
  have h40 := X.1.2.2.2.2.2.2.1
  have hsz := X_size hs (Or.inr (Or.inr (Or.inl rfl))) k3
  have hce : ∀ i, i < σ.1 8 → fX1_cell h 31 (nI i) 2 = some (σ.2 6 (4 * i + 2), h) := fun i hi => X_cell hs (Or.inr (Or.inr (Or.inl rfl))) k3 (by show 4 * σ.1 8 ≤ 160; omega) hi (c := 2) (by omega)
  have L : ∀ j i F, i + j = σ.1 8 → j < F → fX12_champion_L4 F h 16 (if i = 0 then -1 else nI (chF (fun i => σ.2 6 (4 * i + 2)) i)) (nI i) = some (aChamp σ, h) := by
    intro j
    induction j with
    | zero =>
      intro i F hi hF
      obtain ⟨F, rfl⟩ : ∃ F', F = F' + 1 := ⟨F - 1, by omega⟩
      obtain rfl : i = σ.1 8 := by omega
      rw [fX12_champion_L4, gR_16 hs, rf_16_11 hs, Option.bind_some, hsz, Option.bind_some]
      dsimp only
      rw [if_pos (nI_le (by omega) (by omega))]
      rfl
    | succ j ih =>
      intro i F hi hF
      obtain ⟨F, rfl⟩ : ∃ F', F = F' + 1 := ⟨F - 1, by omega⟩
      have z := ih (i + 1) F (by omega) (by omega)
      rw [if_neg (by omega)] at z
      rw [fX12_champion_L4, gR_16 hs, rf_16_11 hs, Option.bind_some, hsz, Option.bind_some]
      dsimp only
      rw [if_neg (nI_ge (by omega) (by omega))]
      by_cases c : i = 0
      · subst c
        rw [if_pos rfl, if_pos rfl, nI_1]
        rw [ch_1] at z
        exact z
      · have hlt := ch_lt (fun i => σ.2 6 (4 * i + 2)) i (by omega)
        rw [if_neg c, if_neg (nI_nm1 (by omega)), gR_16 hs, rf_16_11 hs, Option.bind_some, hce i (by omega), Option.bind_some]
        dsimp only
        rw [gR_16 hs, rf_16_11 hs, Option.bind_some, hce _ (by omega), Option.bind_some]
        dsimp only
        rw [nI_1]
        have e : chF (fun i => σ.2 6 (4 * i + 2)) (i + 1) = if σ.2 6 (4 * chF (fun i => σ.2 6 (4 * i + 2)) i + 2) < σ.2 6 (4 * i + 2) then i else chF (fun i => σ.2 6 (4 * i + 2)) i := rfl
        rw [e] at z
        by_cases c2 : σ.2 6 (4 * chF (fun i => σ.2 6 (4 * i + 2)) i + 2) < σ.2 6 (4 * i + 2)
        · rw [if_pos c2] at z
          rw [if_neg (Int32.not_le.mpr c2)]
          exact z
        · rw [if_neg c2] at z
          rw [if_pos (Int32.not_lt.mp c2)]
          exact z
  refine ⟨h, ?_, XOk_rfl X⟩
  have z := L (σ.1 8) 0 eg_F (by omega) (by rw [eg_F_eq]; omega)
  unfold fX12_champion
  rw [if_pos (iO_16 hs)]
  have z' : fX12_champion_L4 eg_F h 16 (-1) 0 = some (aChamp σ, h) := z
  rw [z', Option.bind_some]
theorem M_champion (R : RI h σ) : ∃ h', fX13_champion h 54 = some (aChamp σ, h') ∧ ROk h h' σ := by
  obtain ⟨R0, Q0⟩ := R_0 R
  have hs := R.1
  have s0 := R0.1
  have h40 := R.2.1.2.2.2.2.2.2.1
  obtain ⟨f1, f2⟩ := R0.2.2.2.2.2.2.2.2.1
  have hce : ∀ i, i < σ.1 8 → eg_aI (eg_sI h 54 0 0) 100 89 (nI i) = some (σ.2 6 (4 * i + 2)) := fun i hi => by
    have hcl : (nI i).toNatClampNeg = i := nI_clamp (by omega)
    rw [aI_89 s0 (nI_pos (by omega)) (by rw [hcl]; omega), hcl, (f2 i hi).2.2]
  have L : ∀ j i F, i + j = σ.1 8 → j < F → fX13_champion_L9 F (eg_sI h 54 0 0) 54 (if i = 0 then -1 else nI (chF (fun i => σ.2 6 (4 * i + 2)) i)) (nI i) = some (aChamp σ, eg_sI h 54 0 0) := by
    intro j
    induction j with
    | zero =>
      intro i F hi hF
      obtain ⟨F, rfl⟩ : ∃ F', F = F' + 1 := ⟨F - 1, by omega⟩
      obtain rfl : i = σ.1 8 := by omega
      rw [fX13_champion_L9, gI_54 s0, Option.bind_some, f1, if_pos (nI_le (by omega) (by omega))]
      rfl
    | succ j ih =>
      intro i F hi hF
      obtain ⟨F, rfl⟩ : ∃ F', F = F' + 1 := ⟨F - 1, by omega⟩
      have z := ih (i + 1) F (by omega) (by omega)
      rw [if_neg (by omega)] at z
      rw [fX13_champion_L9, gI_54 s0, Option.bind_some, f1, if_neg (nI_ge (by omega) (by omega))]
      by_cases c : i = 0
      · subst c
        rw [if_pos rfl, if_pos rfl, nI_1]
        rw [ch_1] at z
        exact z
      · have hlt := ch_lt (fun i => σ.2 6 (4 * i + 2)) i (by omega)
        rw [if_neg c, if_neg (nI_nm1 (by omega)), gR_54 s0, rf_54_71 s0, Option.bind_some, hce i (by omega), Option.bind_some, Option.bind_some, hce _ (by omega), Option.bind_some, nI_1]
        have e : chF (fun i => σ.2 6 (4 * i + 2)) (i + 1) = if σ.2 6 (4 * chF (fun i => σ.2 6 (4 * i + 2)) i + 2) < σ.2 6 (4 * i + 2) then i else chF (fun i => σ.2 6 (4 * i + 2)) i := rfl
        rw [e] at z
        by_cases c2 : σ.2 6 (4 * chF (fun i => σ.2 6 (4 * i + 2)) i + 2) < σ.2 6 (4 * i + 2)
        · rw [if_pos c2] at z
          rw [if_neg (Int32.not_le.mpr c2)]
          exact z
        · rw [if_neg c2] at z
          rw [if_pos (Int32.not_lt.mp c2)]
          exact z
  refine ⟨_, ?_, ROk_scr R Q0⟩
  have z := L (σ.1 8) 0 eg_F (by omega) (by rw [eg_F_eq]; omega)
  unfold fX13_champion
  rw [if_pos (iO_54 hs), pI_54 hs, Option.bind_some]
  have z' : fX13_champion_L9 eg_F (eg_sI h 54 0 0) 54 (-1) 0 = some (aChamp σ, eg_sI h 54 0 0) := z
  rw [z', Option.bind_some]
end BO
