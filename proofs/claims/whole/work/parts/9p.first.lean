theorem nW {n : Nat} (h : n < 2 ^ 31) : (nI n).toInt64 = jI (n : Int) := by rw [← iI_n, iI_w (by unfold i3; omega)]
theorem jW {n : Nat} (h : n < 2 ^ 31) : (jI (n : Int)).toInt32 = nI n := by rw [jI_w (by unfold i3; omega), iI_n]
theorem nI_k10 (x : Nat) : (10 : Int32) * nI x = nI (10 * x) := by
  rw [← iI_n, ← iI_n, show (10 : Int32) = iI 10 from rfl, iI_mul]
  rfl
theorem n_sub {a b : Nat} (h : b ≤ a) : nI a - nI b = nI (a - b) := by
  rw [← iI_n, ← iI_n, ← iI_n, iI_sub]
  congr 1
  omega
theorem j_md {a b c : Nat} (h : a * b ≤ 9000000000000000000) (hc : c ≤ 9000000000000000000) : jI (a : Int) * jI (b : Int) / jI (c : Int) = jI ((a * b / c : Nat) : Int) := by
  have hq : a * b / c ≤ a * b := Nat.div_le_self _ _
  have hz : ((a : Int) * (b : Int)) = ((a * b : Nat) : Int) := by rw [Int.natCast_mul]
  have e3 : ((a * b : Nat) : Int).tdiv ((c : Nat) : Int) = ((a * b / c : Nat) : Int) := by
    rw [Int.tdiv_eq_ediv_of_nonneg (Int.natCast_nonneg _), Int.natCast_ediv]
  have h1 : ((a * b : Nat) : Int) ≤ 9000000000000000000 := by omega
  have h2 : ((a * b / c : Nat) : Int) ≤ 9000000000000000000 := by omega
  have h3 := Int.natCast_nonneg (a * b)
  have h4 := Int.natCast_nonneg (a * b / c)
  rw [jI_mul, hz, jI_div (by unfold i6; omega) (by unfold i6; omega) (by rw [e3]; unfold i6; omega), e3]
theorem mn_n {a b : Nat} (ha : a < 2 ^ 31) (hb : b < 2 ^ 31) : eg_minI (nI a) (nI b) = nI (min a b) ∧ eg_maxI (nI a) (nI b) = nI (max a b) := by
  unfold eg_minI eg_maxI
  constructor
  · by_cases c : b < a
    · rw [if_pos (nI_lt c ha), Nat.min_eq_right (by omega)]
    · rw [if_neg (nI_nlt (by omega) hb), Nat.min_eq_left (by omega)]
  · by_cases c : a < b
    · rw [if_pos (nI_lt c hb), Nat.max_eq_right (by omega)]
    · rw [if_neg (nI_nlt (by omega) ha), Nat.max_eq_left (by omega)]
def wA (A G : Nat → Nat) (w : Int32) (i : Nat) : Int32 := if i = 0 then w else nI (A (bi G i))
def wB (A G : Nat → Nat) (w : Int64) (i : Nat) : Int64 := if i = 0 then w else jI (A (bi G i))
theorem wA_s {G : Nat → Nat} (A : Nat → Nat) (hG : ∀ k, G k ≤ 1000000000000000) (w : Int32) (i : Nat) : wA A G w (i + 1) = if jI (G i) ≤ mo G i then wA A G w i else nI (A i) := by
  have e : wA A G w (i + 1) = nI (A (bi G (i + 1))) := if_neg (by omega)
  rw [e, bi_up]
  by_cases c : i = 0 ∨ G (bi G i) < G i
  · rw [if_pos c, if_neg (fun z => (mo_le hG i).mp z c)]
  · rw [if_neg c, if_pos ((mo_le hG i).mpr c)]
    unfold wA
    rw [if_neg (fun z => c (Or.inl z))]
theorem wB_s {G : Nat → Nat} (A : Nat → Nat) (hG : ∀ k, G k ≤ 1000000000000000) (w : Int64) (i : Nat) : wB A G w (i + 1) = if jI (G i) ≤ mo G i then wB A G w i else jI (A i) := by
  have e : wB A G w (i + 1) = jI (A (bi G (i + 1))) := if_neg (by omega)
  rw [e, bi_up]
  by_cases c : i = 0 ∨ G (bi G i) < G i
  · rw [if_pos c, if_neg (fun z => (mo_le hG i).mp z c)]
  · rw [if_neg c, if_pos ((mo_le hG i).mpr c)]
    unfold wB
    rw [if_neg (fun z => c (Or.inl z))]
def gFi (σ : eg_S) (l u e : Nat) : Nat → Nat := fun k => hpS σ (if k < 2 then l else u) (if k < 2 then u else l) e (k % 2)
def aFi (l u : Nat) : Nat → Nat := fun k => 10 * (if k < 2 then l else u) + k % 2
def aFirst (σ : eg_S) (two e w : Int32) : Int64 := if (G2 (sP σ) two ∧ G1 (sE σ) e) ∧ GI (nI 0) (nI 1) w then (if w = 0 then jI (aFi (min (dA two) (dB two)) (max (dA two) (dB two)) (bi (gFi σ (min (dA two) (dB two)) (max (dA two) (dB two)) (dN e)) 4)) else jI (gFi σ (min (dA two) (dB two)) (max (dA two) (dB two)) (dN e) (bi (gFi σ (min (dA two) (dB two)) (max (dA two) (dB two)) (dN e)) 4))) else -1
theorem md_4 : ∀ i, i < 4 → nI i % 2 = nI (i % 2) := by decide +kernel
section FI
variable {h : eg_H} {σ : eg_S} {B : Nat × Nat}
theorem X_first_L {l u e : Nat} {w : Int32} (hl : l < sP σ) (hu : u < sP σ) (he : e < sE σ) : ∀ j i h F, i + j = 4 → j < F → XI h σ B → ∃ h', fX12_first_L70 F h 16 (nI e) w (nI l) (nI u) (mo (gFi σ l u e) i) (wA (aFi l u) (gFi σ l u e) 0 i) (nI i) = some (w, mo (gFi σ l u e) 4, wA (aFi l u) (gFi σ l u e) 0 4, h') ∧ XOk h h' σ B := by
  have hG : ∀ k, gFi σ l u e k ≤ 1000000000000000 := fun k => Nat.le_trans (hpS_le σ _ _ _ _) (by omega)
  intro j
  induction j with
  | zero =>
    intro i h F hi hF X
    obtain ⟨F, rfl⟩ : ∃ F', F = F' + 1 := ⟨F - 1, by omega⟩
    obtain rfl : i = 4 := by omega
    exact ⟨h, by rw [fX12_first_L70, if_pos (by decide)], XOk_rfl X⟩
  | succ j ih =>
    intro i h F hi hF X
    obtain ⟨F, rfl⟩ : ∃ F', F = F' + 1 := ⟨F - 1, by omega⟩
    obtain ⟨h1, e1, e2, O1⟩ := X_hp X (a := if i < 2 then l else u) (b := if i < 2 then u else l) (by split <;> assumption) (by split <;> assumption) he (d := i % 2) (by omega)
    obtain ⟨h2, e3, O2⟩ := ih (i + 1) h1 F (by omega) (by omega) O1.1
    refine ⟨h2, ?_, XOk_tr O1 O2⟩
    rw [mo_s hG, wA_s _ hG] at e3
    have hj : fX12_first_j116 (fX12_first_L70 F) h 16 (nI e) w (nI l) (nI u) (mo (gFi σ l u e) i) (wA (aFi l u) (gFi σ l u e) 0 i) (nI i) (nI (if i < 2 then l else u)) (nI (10 * (if i < 2 then l else u) + (if i < 2 then u else l))) = some (w, mo (gFi σ l u e) 4, wA (aFi l u) (gFi σ l u e) 0 4, h2) := by
      unfold fX12_first_j116
      rw [md_4 i (by omega), k10, e1, Option.bind_some]
      dsimp only
      rw [e2, Option.bind_some, nI_1, k10]
      dsimp only
      show (if jI (gFi σ l u e i) ≤ _ then _ else _) = _
      by_cases c : jI (gFi σ l u e i) ≤ mo (gFi σ l u e) i
      · rw [if_pos c, if_pos c] at e3
        rw [if_pos c]
        exact e3
      · rw [if_neg c, if_neg c] at e3
        rw [if_neg c, Option.bind_some]
        exact e3
    rw [fX12_first_L70, if_neg (show ¬ (4 : Int32) ≤ nI i from nI_ge (b := 4) (by omega) (by omega))]
    unfold fX12_first_j89
    by_cases c : i < 2
    · rw [if_neg (show ¬ (2 : Int32) ≤ nI i from nI_ge (b := 2) (by omega) (by omega)), if_neg (show ¬ (2 : Int32) ≤ nI i from nI_ge (b := 2) (by omega) (by omega)), k10]
      rw [if_pos c, if_pos c] at hj
      exact hj
    · rw [if_pos (show (2 : Int32) ≤ nI i from nI_le (a := 2) (by omega) (by omega)), if_pos (show (2 : Int32) ≤ nI i from nI_le (a := 2) (by omega) (by omega)), k10]
      rw [if_neg c, if_neg c] at hj
      exact hj
theorem X_first (X : XI h σ B) (two e w : Int32) : ∃ h', fX12_first h 16 two e w = some (aFirst σ two e w, h') ∧ XOk h h' σ B := by
  have C := X.2.2.1
  have hs := C.1
  have hP := XI_P X
  unfold fX12_first aFirst
  rw [if_pos (iO_16 hs), gR_16 hs, rf_16_3 hs, Option.bind_some]
  rw [X_isPair hs C.2.1 two, Option.bind_some]
  dsimp only
  rw [g01]
  by_cases c1 : G2 (sP σ) two
  rotate_left
  · rw [if_neg c1, if_neg (fun z => c1 z.1.1)]; exact ⟨h, rfl, XOk_rfl X⟩
  rw [if_pos c1]
  rw [gR_16 hs, rf_16_3 hs, Option.bind_some]
  rw [X_isEgg hs C.2.1 e, Option.bind_some]
  dsimp only
  rw [g01]
  by_cases c2 : G1 (sE σ) e
  rotate_left
  · rw [if_neg c2, if_neg (fun z => c2 z.1.2)]; exact ⟨h, rfl, XOk_rfl X⟩
  rw [if_pos c2]
  rw [X_isEither h w, Option.bind_some]
  dsimp only
  rw [g01]
  by_cases c3 : GI (nI 0) (nI 1) w
  rotate_left
  · rw [if_neg c3, if_neg (fun z => c3 z.2)]; exact ⟨h, rfl, XOk_rfl X⟩
  rw [if_pos c3]
  rw [if_pos (show (G2 (sP σ) two ∧ G1 (sE σ) e) ∧ GI (nI 0) (nI 1) w from ⟨⟨c1, c2⟩, c3⟩)]
  obtain ⟨a, b, ha, hb, hab, rfl⟩ := G2_n hP.1 c1
  obtain ⟨n, hn, rfl⟩ := G1_n (by omega) c2
  obtain ⟨h', e1, O1⟩ := X_first_L (w := w) (l := min a b) (u := max a b) (by omega) (by omega) hn 4 0 h eg_F (by omega) (by rw [eg_F_eq]; omega) X
  have e1' : fX12_first_L70 eg_F h 16 (nI n) w (nI (min a b)) (nI (max a b)) (-1) 0 0 = _ := e1
  refine ⟨h', ?_, O1⟩
  have em : mo (gFi σ (min a b) (max a b) n) 4 = jI (gFi σ (min a b) (max a b) n (bi (gFi σ (min a b) (max a b) n) 4)) := if_neg (by omega)
  have ew : wA (aFi (min a b) (max a b)) (gFi σ (min a b) (max a b) n) 0 4 = nI (aFi (min a b) (max a b) (bi (gFi σ (min a b) (max a b) n) 4)) := if_neg (by omega)
  have hbi := bi_lt (gFi σ (min a b) (max a b) n) 4 (by omega)
  have hA : aFi (min a b) (max a b) (bi (gFi σ (min a b) (max a b) n) 4) < 2 ^ 31 := by unfold aFi; split <;> omega
  rw [(i10 a b (by omega) (by omega)).1, (i10 a b (by omega) (by omega)).2, (mn_n (by omega) (by omega)).1, (mn_n (by omega) (by omega)).2, Option.bind_some, Option.bind_some, e1', Option.bind_some, em, ew, (dAB (a := a) (b := b) (by omega) (by omega)).1, (dAB (a := a) (b := b) (by omega) (by omega)).2, dN_n (by omega)]
  dsimp only
  by_cases w0 : w = 0
  · rw [if_pos w0, if_pos w0, nW hA]
  · rw [if_neg w0, if_neg w0]
theorem M_first_L {l u e : Nat} {w : Int32} (hl : l < sP σ) (hu : u < sP σ) (he : e < sE σ) : ∀ j i h F, i + j = 4 → j < F → RI h σ → ∃ h', fX13_first_L58 F h 54 (nI e) w (nI (10 * l + u)) (wB (aFi l u) (gFi σ l u e) (-1) i) (mo (gFi σ l u e) i) (nI i) = some (w, wB (aFi l u) (gFi σ l u e) (-1) 4, mo (gFi σ l u e) 4, h') ∧ ROk h h' σ := by
  have hG : ∀ k, gFi σ l u e k ≤ 1000000000000000 := fun k => Nat.le_trans (hpS_le σ _ _ _ _) (by omega)
  intro j
  induction j with
  | zero =>
    intro i h F hi hF R
    obtain ⟨F, rfl⟩ : ∃ F', F = F' + 1 := ⟨F - 1, by omega⟩
    obtain rfl : i = 4 := by omega
    exact ⟨h, by rw [fX13_first_L58, if_pos (by decide)], R, rfl, fun _ _ _ => ⟨rfl, rfl, rfl⟩⟩
  | succ j ih =>
    intro i h F hi hF R
    obtain ⟨F, rfl⟩ : ∃ F', F = F' + 1 := ⟨F - 1, by omega⟩
    have hP := RI_P R
    obtain ⟨h1, e1, O1⟩ := M_hp R (a := if i < 2 then l else u) (b := if i < 2 then u else l) (by split <;> assumption) (by split <;> assumption) he (d := i % 2) (by omega)
    obtain ⟨h2, e3, O2⟩ := ih (i + 1) h1 F (by omega) (by omega) O1.1
    refine ⟨h2, ?_, ROk_tr O1 O2⟩
    rw [mo_s hG, wB_s _ hG] at e3
    have hj : fX13_first_j80 (fX13_first_L58 F) h 54 (nI e) w (nI (10 * l + u)) (wB (aFi l u) (gFi σ l u e) (-1) i) (mo (gFi σ l u e) i) (nI i) (nI (10 * (if i < 2 then l else u) + (if i < 2 then u else l))) = some (w, wB (aFi l u) (gFi σ l u e) (-1) 4, mo (gFi σ l u e) 4, h2) := by
      have hx : (if i < 2 then l else u) ≤ 9 := by split <;> omega
      have hy : (if i < 2 then u else l) ≤ 9 := by split <;> omega
      unfold fX13_first_j80
      rw [md_4 i (by omega), k10, e1, Option.bind_some, nI_1, (i10 _ _ hx hy).1, Int32.mul_comm (nI _) 10, k10]
      dsimp only
      show (if _ < jI (gFi σ l u e i) then _ else _) = _
      by_cases c : jI (gFi σ l u e i) ≤ mo (gFi σ l u e) i
      · rw [if_pos c, if_pos c] at e3
        rw [if_neg (Int64.not_lt.mpr c)]
        exact e3
      · rw [if_neg c, if_neg c] at e3
        rw [if_pos (Int64.not_le.mp c), Option.bind_some, nW (by omega)]
        exact e3
    rw [fX13_first_L58, if_neg (show ¬ (4 : Int32) ≤ nI i from nI_ge (b := 4) (by omega) (by omega))]
    by_cases c : i < 2
    · rw [if_neg (show ¬ (2 : Int32) ≤ nI i from nI_ge (b := 2) (by omega) (by omega))]
      rw [if_pos c, if_pos c] at hj
      exact hj
    · rw [if_pos (show (2 : Int32) ≤ nI i from nI_le (a := 2) (by omega) (by omega))]
      unfold fX13_turned
      rw [Option.bind_some, (i10 l u (by omega) (by omega)).1, (i10 l u (by omega) (by omega)).2, Int32.mul_comm (nI u) 10, k10]
      rw [if_neg c, if_neg c] at hj
      exact hj
theorem M_first (R : RI h σ) (two e w : Int32) : ∃ h', fX13_first h 54 two e w = some (aFirst σ two e w, h') ∧ ROk h h' σ := by
  obtain ⟨R0, Q0⟩ := R_0 R
  have hs := R.1
  have s0 := R0.1
  have hP := RI_P R
  unfold fX13_first aFirst
  rw [if_pos (iO_54 hs), pI_54 hs, Option.bind_some]
  rw [M_isTwo s0 R0.2.2.2.1 two, Option.bind_some]
  dsimp only
  rw [g01]
  by_cases c1 : G2 (sP σ) two
  rotate_left
  · rw [if_neg c1, if_neg (fun z => c1 z.1.1)]; exact ⟨_, rfl, ROk_scr R Q0⟩
  rw [if_pos c1]
  rw [M_isEgg s0 R0.2.2.2.1 e, Option.bind_some]
  dsimp only
  rw [g01]
  by_cases c2 : G1 (sE σ) e
  rotate_left
  · rw [if_neg c2, if_neg (fun z => c2 z.1.2)]; exact ⟨_, rfl, ROk_scr R Q0⟩
  rw [if_pos c2]
  rw [M_GI (lo := 0) (hi := 1) _ w (by omega) (by omega) 0 1 rfl rfl, Option.bind_some]
  dsimp only
  rw [g01]
  by_cases c3 : GI (nI 0) (nI 1) w
  rotate_left
  · rw [if_neg c3, if_neg (fun z => c3 z.2)]; exact ⟨_, rfl, ROk_scr R Q0⟩
  rw [if_pos c3]
  rw [if_pos (show (G2 (sP σ) two ∧ G1 (sE σ) e) ∧ GI (nI 0) (nI 1) w from ⟨⟨c1, c2⟩, c3⟩)]
  obtain ⟨a, b, ha, hb, hab, rfl⟩ := G2_n hP.1 c1
  obtain ⟨n, hn, rfl⟩ := G1_n (by omega) c2
  obtain ⟨h', e1, O1⟩ := M_first_L (w := w) (l := min a b) (u := max a b) (by omega) (by omega) hn 4 0 (eg_sI h 54 0 0) eg_F (by omega) (by rw [eg_F_eq]; omega) R0
  have e1' : fX13_first_L58 eg_F (eg_sI h 54 0 0) 54 (nI n) w (nI (10 * min a b + max a b)) (-1) (-1) 0 = _ := e1
  refine ⟨h', ?_, ROk_tr (ROk_scr R Q0) O1⟩
  have em : mo (gFi σ (min a b) (max a b) n) 4 = jI (gFi σ (min a b) (max a b) n (bi (gFi σ (min a b) (max a b) n) 4)) := if_neg (by omega)
  have ew : wB (aFi (min a b) (max a b)) (gFi σ (min a b) (max a b) n) (-1) 4 = jI (aFi (min a b) (max a b) (bi (gFi σ (min a b) (max a b) n) 4)) := if_neg (by omega)
  have et : fX13_turned (eg_sI h 54 0 0) (nI (10 * a + b)) = some (nI (10 * b + a), eg_sI h 54 0 0) := by
    unfold fX13_turned
    rw [(i10 a b (by omega) (by omega)).1, (i10 a b (by omega) (by omega)).2, Int32.mul_comm (nI b) 10, k10]
  rw [et, Option.bind_some]
  dsimp only
  rw [(mn_n (by omega) (by omega)).1, Option.bind_some, show min (10 * a + b) (10 * b + a) = 10 * min a b + max a b by omega, e1', Option.bind_some, em, ew, (dAB (a := a) (b := b) (by omega) (by omega)).1, (dAB (a := a) (b := b) (by omega) (by omega)).2, dN_n (by omega)]
  dsimp only
  by_cases w0 : w = 0
  · rw [if_pos w0, if_pos w0]
  · rw [if_neg w0, if_neg w0]
end FI
def ft (f : Nat → Nat) (k : Nat) : Nat := if k ≤ 60 then f k else 0
def jst (f : Nat → Nat) (k : Nat) : Nat := ft f k - ft f (k + 1)
def dec (f : Nat → Nat) : Prop := (∀ k, f (k + 1) ≤ f k) ∧ ∀ k, f k ≤ 1000000000
theorem dec_pt {U : Nat → Nat} {lw : eg_LW} {wd a b e d st : Nat} : dec (ptF U lw wd a b e d st) := ⟨pt_dec, pt_le⟩
theorem ft_dec {f : Nat → Nat} (hd : dec f) (k : Nat) : ft f (k + 1) ≤ ft f k ∧ ft f k ≤ 1000000000 := by
  have h1 := hd.1 k
  have h2 := hd.2 k
  unfold ft
  constructor
  · split
    · rw [if_pos (by omega)]; exact h1
    · omega
  · split <;> omega
def dlF (f g : Nat → Nat) (w : Bool) (k : Nat) : Nat := jst f k * (if w = true then 1000000000 - ft g k else jst g k) / 1000000000
abbrev gDu (σ : eg_S) (one oth eg : Int32) : Prop := (((G2 (sP σ) one ∧ G2 (sP σ) oth) ∧ ¬ eg < 0) ∧ G1 (sE σ) (eg / 10)) ∧ G1 (sE σ) (eg % 10)
def aDuel (σ : eg_S) (one oth eg w : Int32) : Int64 := if gDu σ one oth eg ∧ GI (nI 0) (nI 1) w then jI ((sm (dlF (ptS σ (dA one) (dB one) (dA eg) 0) (ptS σ (dA oth) (dB oth) (dB eg) 0) (decide (w = 0))) 61 : Nat) : Int) else -1
section DU
variable {h : eg_H} {σ : eg_S} {B : Nat × Nat}
theorem X_areTwo {U : Nat → Nat} {P E : Nat} (hs : eg_stt h) (V : XV h U P E) (one oth eg : Int32) : fX12_areTwoPairs h 16 one oth eg = some (if (((G2 P one ∧ G2 P oth) ∧ ¬ eg < 0) ∧ G1 E (eg / 10)) ∧ G1 E (eg % 10) then 1 else 0, h) := by
  unfold fX12_areTwoPairs
  rw [if_pos (iO_16 hs), gR_16 hs, rf_16_3 hs, Option.bind_some, X_isPair hs V one, Option.bind_some]
  dsimp only
  rw [g01]
  by_cases c1 : G2 P one
  rotate_left
  · rw [if_neg c1, if_neg (fun z => c1 z.1.1.1.1)]
  rw [if_pos c1, gR_16 hs, rf_16_3 hs, Option.bind_some, X_isPair hs V oth, Option.bind_some]
  dsimp only
  rw [g01]
  by_cases c2 : G2 P oth
  rotate_left
  · rw [if_neg c2, if_neg (fun z => c2 z.1.1.1.2)]
  rw [if_pos c2]
  by_cases c3 : eg < 0
  · rw [if_pos c3, if_neg (fun z => z.1.1.2 c3)]
  rw [if_neg c3, gR_16 hs, rf_16_3 hs, Option.bind_some, X_isEgg hs V, Option.bind_some]
  dsimp only
  rw [g01]
  by_cases c4 : G1 E (eg / 10)
  rotate_left
  · rw [if_neg c4, if_neg (fun z => c4 z.1.2)]
  rw [if_pos c4, gR_16 hs, rf_16_3 hs, Option.bind_some, X_isEgg hs V, Option.bind_some]
  dsimp only
  rw [g01]
  by_cases c5 : G1 E (eg % 10)
  rotate_left
  · rw [if_neg c5, if_neg (fun z => c5 z.2)]
  rw [if_pos c5, if_pos ⟨⟨⟨⟨c1, c2⟩, c3⟩, c4⟩, c5⟩]
theorem gDu_n {P E : Nat} (hE : E ≤ 6) {eg : Int32} (c3 : ¬ eg < 0) (c4 : G1 E (eg / 10)) (c5 : G1 E (eg % 10)) : ∃ x y, x < E ∧ y < E ∧ eg = nI (10 * x + y) := by
  obtain ⟨n, hn, rfl⟩ := pos_n c3
  rw [(n10 hn).1] at c4
  rw [(n10 hn).2] at c5
  refine ⟨n / 10, n % 10, ?_, ?_, by rw [show 10 * (n / 10) + n % 10 = n by omega]⟩
  · rcases Nat.lt_or_ge (n / 10) E with z | z
    · exact z
    · exact absurd (nI_le z (by omega)) c4.2
  · rcases Nat.lt_or_ge (n % 10) E with z | z
    · exact z
    · exact absurd (nI_le z (by omega)) c5.2
theorem CO_gr {h' : eg_H} {c c' st : Nat} {f : Nat → Nat} (hc : isC c) (hc' : isC c') (hne : ¬ c = c') (K : CO h c f st) (G : eg_gr (SC c') h h') : CO h' c f st := by
  have c9 : c + 1 < 95 := by rcases hc with rfl | rfl | rfl <;> omega
  have cv : ∀ i, eg_cov (SC c') c i = false ∧ eg_cov (SC c') (c + 1) i = false := by
    intro i
    rcases hc with rfl | rfl | rfl <;> rcases hc' with rfl | rfl | rfl <;> first | exact ⟨rfl, rfl⟩ | exact absurd rfl hne
  have g1 : ∀ i, eg_I h' c i = eg_I h c i ∧ eg_L h' c i = eg_L h c i := fun i => by
    have := G.2.1 c i (by omega) (cv i).1
    exact ⟨this.1, this.2.1⟩
  have g2 : ∀ i, eg_I h' (c + 1) i = eg_I h (c + 1) i := fun i => (G.2.1 (c + 1) i (by omega) (cv i).2).1
  obtain ⟨k1, k2, k3, k4, k5⟩ := K
  exact ⟨fun k hk => by rw [g2]; exact k1 k hk, by rw [g2]; exact k2, by rw [(g1 2).1]; exact k3, by rw [(g1 3).1]; exact k4, by rw [(g1 4).2]; exact k5⟩
theorem X_ct {c : Nat} (hc : isC c) (hs : eg_stt h) {f : Nat → Nat} {st n : Nat} (K : CO h c f st) (hn : n < 2 ^ 31) : fX2_comesTo h c (nI n) = some (nI (ft f n), h) := by
  rw [X_comesTo hc hs K hn]
  unfold ft
  by_cases c : n ≤ 60
  · rw [if_pos c, if_pos c]
  · rw [if_neg c, if_neg c]; rfl
theorem X_just {c : Nat} (hc : isC c) (hs : eg_stt h) {f : Nat → Nat} {st n : Nat} (K : CO h c f st) (hd : dec f) (hn : n ≤ 60) : fX2_just h c (nI n) = some (jI (jst f n : Nat), h) := by
  have := ft_dec hd n
  unfold fX2_just
  rw [if_pos (C_o hs hc).1, X_ct hc hs K (by omega), Option.bind_some]
  dsimp only
  rw [nI_1, X_ct hc hs K (by omega), Option.bind_some]
  dsimp only
  rw [n_sub this.1, nW (by omega)]
  rfl
theorem X_fewer {c : Nat} (hc : isC c) (hs : eg_stt h) {f : Nat → Nat} {st n : Nat} (K : CO h c f st) (hd : dec f) (hn : n ≤ 60) : fX2_fewerThan h c (nI n) = some (jI (1000000000 - ft f n : Nat), h) := by
  have := ft_dec hd n
  unfold fX2_fewerThan
  rw [if_pos (C_o hs hc).1, X_ct hc hs K (by omega), Option.bind_some]
  dsimp only
  rw [show (1000000000 : Int32) = nI 1000000000 from rfl, n_sub this.2, nW (by omega)]
theorem dl_b {f g : Nat → Nat} {w : Bool} (hf : dec f) (hg : dec g) (k : Nat) : jst f k * (if w = true then 1000000000 - ft g k else jst g k) ≤ 1000000000000000000 := by
  have h1 := (ft_dec hf k).2
  have h2 := (ft_dec hg k).2
  have h3 : jst f k ≤ 1000000000 := Nat.le_trans (Nat.sub_le _ _) h1
  have h4 : (if w = true then 1000000000 - ft g k else jst g k) ≤ 1000000000 := by
    split
    · omega
    · exact Nat.le_trans (Nat.sub_le _ _) h2
  exact Nat.mul_le_mul h3 h4
theorem X_duel_L {f g : Nat → Nat} {st st' : Nat} {w : Int32} (hf : dec f) (hg : dec g) (hs : eg_stt h) (K1 : CO h 41 f st) (K2 : CO h 43 g st') : ∀ j i F, i + j = 61 → j < F → fX12_duel_L58 F h w 41 43 (jI ((sm (dlF f g (decide (w = 0))) i : Nat) : Int)) (nI i) = some (jI ((sm (dlF f g (decide (w = 0))) 61 : Nat) : Int), h) := by
  intro j
  induction j with
  | zero =>
    intro i F hi hF
    obtain ⟨F, rfl⟩ : ∃ F', F = F' + 1 := ⟨F - 1, by omega⟩
    obtain rfl : i = 61 := by omega
    rw [fX12_duel_L58, if_pos (by decide)]
  | succ j ih =>
    intro i F hi hF
    obtain ⟨F, rfl⟩ : ∃ F', F = F' + 1 := ⟨F - 1, by omega⟩
    have e3 := ih (i + 1) F (by omega) (by omega)
    have hb := dl_b (w := decide (w = 0)) hf hg i
    have hj : ∀ s : Nat, s = (if decide (w = 0) = true then 1000000000 - ft g i else jst g i) → fX12_duel_j87 (fX12_duel_L58 F) h w 41 43 (jI ((sm (dlF f g (decide (w = 0))) i : Nat) : Int)) (nI i) (jI (s : Int)) = some (jI ((sm (dlF f g (decide (w = 0))) 61 : Nat) : Int), h) := by
      intro s hs'
      rw [← hs'] at hb
      unfold fX12_duel_j87
      rw [X_just (Or.inl rfl) hs K1 hf (by omega), Option.bind_some]
      dsimp only
      rw [show (1000000000 : Int64) = jI ((1000000000 : Nat) : Int) from rfl, j_md (by omega) (by omega), jI_add, Option.bind_some, nI_1]
      rw [sm, dlF, ← hs', Int.natCast_add] at e3
      exact e3
    rw [fX12_duel_L58, if_neg (show ¬ (60 : Int32) < nI i from nI_nlt (a := 60) (by omega) (by omega))]
    by_cases c : w = 0
    · rw [if_pos c, X_fewer (Or.inr (Or.inl rfl)) hs K2 hg (by omega), Option.bind_some]
      exact hj _ (by rw [if_pos (decide_eq_true c)])
    · rw [if_neg c, X_just (Or.inr (Or.inl rfl)) hs K2 hg (by omega), Option.bind_some]
      exact hj _ (by rw [if_neg (fun z => c (of_decide_eq_true z))])
theorem X_duel (X : XI h σ B) (one oth eg w : Int32) : ∃ h', fX12_duel h 16 one oth eg w = some (aDuel σ one oth eg w, h') ∧ XOk h h' σ B := by
  have C := X.2.2.1
  have hs := C.1
  have hP := XI_P X
  unfold fX12_duel aDuel
  rw [if_pos (iO_16 hs)]
  rw [X_areTwo hs C.2.1 one oth eg, Option.bind_some]
  dsimp only
  rw [g01]
  by_cases c1 : gDu σ one oth eg
  rotate_left
  · rw [if_neg c1, if_neg (fun z => c1 z.1)]; exact ⟨h, rfl, XOk_rfl X⟩
  rw [if_pos c1]
  rw [X_isEither h w, Option.bind_some]
  dsimp only
  rw [g01]
  by_cases c3 : GI (nI 0) (nI 1) w
  rotate_left
  · rw [if_neg c3, if_neg (fun z => c3 z.2)]; exact ⟨h, rfl, XOk_rfl X⟩
  rw [if_pos c3]
  rw [if_pos (show gDu σ one oth eg ∧ GI (nI 0) (nI 1) w from ⟨c1, c3⟩)]
  obtain ⟨a, b, ha, hb, hab, rfl⟩ := G2_n hP.1 c1.1.1.1.1
  obtain ⟨p, q, hp, hq, hpq, rfl⟩ := G2_n hP.1 c1.1.1.1.2
  obtain ⟨x, y, hx, hy, rfl⟩ := gDu_n (P := sP σ) hP.2 c1.1.1.2 c1.1.2 c1.2
  obtain ⟨h1, e1, G1', X1, K1⟩ := X_along X (w := 0) (by omega) ha hb hx (d := 0) (by omega)
  obtain ⟨h2, e2, G2', X2, K2⟩ := X_along X1 (w := 1) (by omega) hp hq hy (d := 0) (by omega)
  have K1' := CO_gr (c := 41) (c' := 43) (Or.inl rfl) (Or.inr (Or.inl rfl)) (by omega) K1 G2'
  have e3 := X_duel_L (w := w) dec_pt dec_pt X2.2.2.1.1 K1' K2 61 0 eg_F (by omega) (by rw [eg_F_eq]; omega)
  have e3' : fX12_duel_L58 eg_F h2 w 41 43 0 0 = _ := e3
  have e1' : fX12_goAlong h 16 0 (nI (10 * a + b)) (nI (10 * x)) = some (41, h1) := e1
  have e2' : fX12_goAlong h1 16 1 (nI (10 * p + q)) (nI (10 * y)) = some (43, h2) := e2
  refine ⟨h2, ?_, X2, gc_tr (gr_cl (SC_x (Or.inl rfl) G1')) (gr_cl (SC_x (Or.inr (Or.inl rfl)) G2'))⟩
  rw [(i10 x y (by omega) (by omega)).1, (i10 x y (by omega) (by omega)).2, Int32.mul_comm (nI x) 10, Int32.mul_comm (nI y) 10, nI_k10, nI_k10, e1', Option.bind_some]
  dsimp only
  rw [e2', Option.bind_some]
  dsimp only
  rw [e3', Option.bind_some, (dAB (a := a) (b := b) (by omega) (by omega)).1, (dAB (a := a) (b := b) (by omega) (by omega)).2, (dAB (a := p) (b := q) (by omega) (by omega)).1, (dAB (a := p) (b := q) (by omega) (by omega)).2, (dAB (a := x) (b := y) (by omega) (by omega)).1, (dAB (a := x) (b := y) (by omega) (by omega)).2]
  rfl
end DU
