theorem mkF_cg {f g : Nat → Bool} : ∀ n, (∀ i, i < n → f i = g i) → mkF f n = mkF g n := by
  intro n
  induction n with
  | zero => intro _; rfl
  | succ n ih =>
    intro h
    show mkF f n ||| _ = mkF g n ||| _
    rw [ih (fun i hi => h i (by omega)), h n (by omega)]
theorem bt_1 {m s : Nat} (hm : m < 2 ^ 31) (hs : s < 31) : ((nI m >>> (nI s &&& 31)) &&& (1 : Int32) = 1) ↔ m.testBit s = true := by
  rw [nI_shr hm (by omega), show (1 : Int32) = nI 1 from rfl, nI_and, Nat.testBit_eq_decide_div_mod_eq, decide_eq_true_eq, Nat.and_one_is_mod, Nat.shiftRight_eq_div_pow]
  rw [nI_eq (by omega) (by omega)]
theorem bt_0 {m s : Nat} (hm : m < 2 ^ 31) (hs : s < 31) : ((nI m >>> (nI s &&& 31)) &&& (1 : Int32) = 0) ↔ ¬ m.testBit s = true := by
  rw [nI_shr hm (by omega), show (1 : Int32) = nI 1 from rfl, nI_and, Nat.testBit_eq_decide_div_mod_eq, decide_eq_true_eq, Nat.and_one_is_mod, Nat.shiftRight_eq_div_pow, show (0 : Int32) = nI 0 from rfl]
  rw [nI_eq (by omega) (by omega)]
  omega
def pBs (G : Nat → Nat) (i : Nat) : Nat → Bool := fun s => decide (1 ≤ s ∧ G (s - 1) = G (bi G i))
def bB (G : Nat → Nat) (i : Nat) : Nat := mkF (pBs G i) (i + 1)
theorem up_bi (G : Nat → Nat) {k i : Nat} (h : k < i) : G k ≤ G (bi G i) := by
  have := ms_up G i h
  unfold ms at this
  rw [if_neg (by omega)] at this
  exact this
theorem bB_s (G : Nat → Nat) (i : Nat) : bB G (i + 1) = if i = 0 ∨ G (bi G i) < G i then 2 ^ (i + 1) else if G i = G (bi G i) then bB G i ||| 2 ^ (i + 1) else bB G i := by
  have e : bB G (i + 1) = mkF (pBs G (i + 1)) (i + 1) ||| (if pBs G (i + 1) (i + 1) = true then 2 ^ (i + 1) else 0) := rfl
  have eb := bi_up (G := G) i
  rw [e]
  by_cases c : i = 0 ∨ G (bi G i) < G i
  · rw [if_pos c] at eb
    rw [if_pos c, mkF_0 (i + 1) (fun s hs z => ?_), if_pos ?_, Nat.zero_or]
    · unfold pBs
      rw [eb]
      exact decide_eq_true ⟨by omega, by rw [show i + 1 - 1 = i by omega]⟩
    · unfold pBs at z
      rw [eb] at z
      have z := of_decide_eq_true z
      have := up_bi G (k := s - 1) (i := i) (by omega)
      omega
  · rw [if_neg c] at eb
    have ep : ∀ s, pBs G (i + 1) s = pBs G i s := fun s => by unfold pBs; rw [eb]
    rw [if_neg c, mkF_cg (i + 1) (fun s _ => ep s), ep]
    by_cases c2 : G i = G (bi G i)
    · rw [if_pos c2, if_pos (by unfold pBs; exact decide_eq_true ⟨by omega, by rw [show i + 1 - 1 = i by omega]; exact c2⟩)]
      rfl
    · rw [if_neg c2, if_neg (fun z => by unfold pBs at z; have z := of_decide_eq_true z; rw [show i + 1 - 1 = i by omega] at z; exact c2 z.2), Nat.or_zero]
      rfl
theorem bB_lt (G : Nat → Nat) : bB G 3 < 2 ^ 4 := mkF_lt _ 4
theorem bB_t (G : Nat → Nat) {s : Nat} (h1 : 1 ≤ s) (h3 : s ≤ 3) : (bB G 3).testBit s = decide (G (s - 1) = G (bi G 3)) := by
  unfold bB
  rw [mkF_t, decide_eq_true (show s < 3 + 1 by omega), Bool.true_and]
  unfold pBs
  by_cases c : G (s - 1) = G (bi G 3)
  · rw [decide_eq_true c, decide_eq_true ⟨h1, c⟩]
  · rw [decide_eq_false c, decide_eq_false (fun z => c z.2)]
def bIn (pa pb : Nat → Bool) (i : Int32) (a : Nat) : Nat → Nat → Nat → Nat ⊕ (Nat × Nat)
  | _, 0, n => .inl n
  | b, j + 1, n => if pa a = true ∧ pb b = true then (if nI n = i then .inr (a, b) else bIn pa pb i a (b + 1) j (n + 1)) else bIn pa pb i a (b + 1) j n
def bOut (pa pb : Nat → Bool) (i : Int32) : Nat → Nat → Nat → Nat ⊕ (Nat × Nat)
  | _, 0, n => .inl n
  | a, j + 1, n => match bIn pa pb i a 1 3 n with
    | .inl m => bOut pa pb i (a + 1) j m
    | .inr z => .inr z
def boR (i : Int32) (x : Nat ⊕ (Nat × Nat)) : Int32 := match x with
  | .inl n => if i = -1 then nI n else -1
  | .inr z => nI (10 * z.1 + z.2)
def gBo (σ : eg_S) (a b e n : Nat) : Nat → Nat := fun s => gnF (sU σ 3) (s + 1) (ptF (sU σ) (sL σ) (sU σ 0) a b e 0 (s + 1)) n
def pBo (G : Nat → Nat) : Nat → Bool := fun s => decide (G (s - 1) = G (bi G 3))
def aBold (σ : eg_S) (one oth eg k i : Int32) : Int32 := if (gDu σ one oth eg ∧ GI (nI 1) (nI 9) k) ∧ (-1 : Int32) ≤ i then boR i (bOut (pBo (gBo σ (dA one) (dB one) (dA eg) (dN k - 1))) (pBo (gBo σ (dA oth) (dB oth) (dB eg) (dN k - 1))) i 1 3 0) else -1
section BL
variable {h : eg_H} {σ : eg_S} {B : Nat × Nat}
theorem gBo_b (σ : eg_S) (a b e n k : Nat) : gBo σ a b e n k ≤ 2000000000 := Nat.le_trans (gn_b dec_pt dz_pt).2 (by omega)
theorem X_bold_L {a b e n : Nat} (ha : a < sP σ) (hb : b < sP σ) (he : e < sE σ) (hn : n ≤ 8) : ∀ j i h F, i + j = 3 → j < F → XI h σ B → ∃ h', fX12_boldest_L9 F h 16 (nI (10 * a + b)) (nI e) (nI (n + 1)) (mI (gBo σ a b e n) i) (nI (if i = 0 then 0 else bB (gBo σ a b e n) i)) (nI (i + 1)) = some (nI (bB (gBo σ a b e n) 3), h') ∧ XOk h h' σ B := by
  intro j
  induction j with
  | zero =>
    intro i h F hi hF X
    obtain ⟨F, rfl⟩ : ∃ F', F = F' + 1 := ⟨F - 1, by omega⟩
    obtain rfl : i = 3 := by omega
    exact ⟨h, by rw [fX12_boldest_L9, if_pos (by decide)]; rfl, XOk_rfl X⟩
  | succ j ih =>
    intro i h F hi hF X
    obtain ⟨F, rfl⟩ : ∃ F', F = F' + 1 := ⟨F - 1, by omega⟩
    have C := X.2.2.1
    have hs := C.1
    have hU := XI_U X (by omega)
    have e0 : fX7_told h 23 0 = some (nI (sU σ 0), h) := X_told hs C.2.1 (x := 0) (by omega)
    obtain ⟨h1, e1, O1, K1⟩ := X_fillS X ha hb he (d := 0) (by omega) (s := i + 1) (by omega)
    have C1 := O1.1.2.2.1
    have s1 := C1.1
    have e2 := X_gainOf (c := 41) (n := n) (Or.inl rfl) s1 C1.2.1 hU.1.2.2.2.2.2.2.2 dec_pt dz_pt K1 (by omega) (by omega)
    obtain ⟨h2, e3, O2⟩ := ih (i + 1) h1 F (by omega) (by omega) O1.1
    refine ⟨h2, ?_, XOk_tr O1 O2⟩
    have gi := mI_le (gBo_b σ a b e n) i
    rw [mI_s (gBo_b σ a b e n), if_neg (show ¬ i + 1 = 0 by omega), bB_s] at e3
    have e1' : fX2_fill h 41 38 (nI (10 * a + b)) (nI (10 * e)) (nI (i + 1)) (nI (sU σ 0)) = some h1 := e1
    have e2' : fX2_gainOf h1 41 (nI (n + 1)) = some (nI (gBo σ a b e n i), h1) := e2
    rw [fX12_boldest_L9, if_neg (show ¬ (3 : Int32) < nI (i + 1) from nI_nlt (a := 3) (by omega) (by omega)), gR_16 hs, rf_16_17 hs, Option.bind_some, aR_40_0 hs, Option.bind_some, gR_16 hs, rf_16_16 hs, Option.bind_some, gR_16 hs, rf_16_3 hs, Option.bind_some, e0, Option.bind_some]
    dsimp only
    rw [nI_k10, e1', Option.bind_some, gR_16 s1, rf_16_17 s1, Option.bind_some, aR_40_0 s1, Option.bind_some, e2', Option.bind_some]
    dsimp only
    unfold fX12_boldest_j69
    by_cases c : i = 0 ∨ gBo σ a b e n (bi (gBo σ a b e n) i) < gBo σ a b e n i
    · have c' : ¬ nI (gBo σ a b e n i) ≤ mI (gBo σ a b e n) i := fun z => gi.mp z c
      rw [if_pos c, if_neg c'] at e3
      rw [if_neg c', if_pos rfl, one_shl (i + 1) (by omega), show (0 : Int32) = nI 0 from rfl, nI_or, Nat.zero_or, Option.bind_some, nI_1]
      exact e3
    · have c' : nI (gBo σ a b e n i) ≤ mI (gBo σ a b e n) i := gi.mpr c
      have i0 : ¬ i = 0 := fun z => c (Or.inl z)
      have em : mI (gBo σ a b e n) i = nI (gBo σ a b e n (bi (gBo σ a b e n) i)) := if_neg i0
      rw [if_neg c, if_pos c'] at e3
      rw [if_pos c', if_neg i0, em, nI_1]
      rw [em] at e3
      have b1 := gBo_b σ a b e n i
      have b2 := gBo_b σ a b e n (bi (gBo σ a b e n) i)
      by_cases c2 : gBo σ a b e n i = gBo σ a b e n (bi (gBo σ a b e n) i)
      · rw [if_pos c2] at e3
        rw [if_pos (by rw [← c2]), one_shl (i + 1) (by omega), nI_or, Option.bind_some]
        exact e3
      · rw [if_neg c2] at e3
        rw [if_neg (fun z => c2 ((nI_eq (by omega) (by omega)).mp z))]
        exact e3
theorem X_boldest (X : XI h σ B) {a b e n : Nat} (ha : a < sP σ) (hb : b < sP σ) (he : e < sE σ) (hn : n ≤ 8) : ∃ h', fX12_boldest h 16 (nI (10 * a + b)) (nI e) (nI (n + 1)) = some (nI (bB (gBo σ a b e n) 3), h') ∧ XOk h h' σ B := by
  obtain ⟨h', e1, O1⟩ := X_bold_L ha hb he hn 3 0 h eg_F (by omega) (by rw [eg_F_eq]; omega) X
  have e1' : fX12_boldest_L9 eg_F h 16 (nI (10 * a + b)) (nI e) (nI (n + 1)) (-1) 0 1 = _ := e1
  refine ⟨h', ?_, O1⟩
  unfold fX12_boldest
  rw [if_pos (iO_16 X.2.2.1.1), e1', Option.bind_some]
theorem X_bIn {G H : Nat → Nat} {i : Int32} {a : Nat} (ha : 1 ≤ a ∧ a ≤ 3) : ∀ j b n F, b + j = 4 → 1 ≤ b → j < F → fX12_bold_L72 F h i (nI (bB G 3)) (nI (bB H 3)) (nI n) (nI a) (nI b) = some (match bIn (pBo G) (pBo H) i a b j n with
    | .inl m => .inl (i, nI (bB G 3), nI (bB H 3), nI m, nI a, h)
    | .inr z => .inr (nI z.1, nI z.2, h)) := by
  have g1 := bB_lt G
  have g2 := bB_lt H
  intro j
  induction j with
  | zero =>
    intro b n F hb hb1 hF
    obtain ⟨F, rfl⟩ : ∃ F', F = F' + 1 := ⟨F - 1, by omega⟩
    obtain rfl : b = 4 := by omega
    rw [fX12_bold_L72, if_pos (by decide)]
    rfl
  | succ j ih =>
    intro b n F hb hb1 hF
    obtain ⟨F, rfl⟩ : ∃ F', F = F' + 1 := ⟨F - 1, by omega⟩
    have t1 := bt_1 (m := bB G 3) (s := a) (by omega) (by omega)
    have t2 := bt_1 (m := bB H 3) (s := b) (by omega) (by omega)
    rw [bB_t G ha.1 ha.2] at t1
    rw [bB_t H hb1 (by omega)] at t2
    rw [fX12_bold_L72, if_neg (show ¬ (3 : Int32) < nI b from nI_nlt (a := 3) (by omega) (by omega)), nI_1, nI_1, bIn]
    by_cases c1 : pBo G a = true
    · rw [if_pos (t1.mpr c1)]
      by_cases c2 : pBo H b = true
      · rw [if_pos (t2.mpr c2), if_pos (show pBo G a = true ∧ pBo H b = true from ⟨c1, c2⟩)]
        by_cases c3 : nI n = i
        · rw [if_pos c3, if_pos c3]
        · rw [if_neg c3, if_neg c3]
          exact ih (b + 1) (n + 1) F (by omega) (by omega) (by omega)
      · rw [if_neg (fun z => c2 (t2.mp z)), if_neg (fun z => c2 z.2)]
        exact ih (b + 1) n F (by omega) (by omega) (by omega)
    · rw [if_neg (fun z => c1 (t1.mp z)), if_neg (fun z => c1 z.1)]
      exact ih (b + 1) n F (by omega) (by omega) (by omega)
theorem X_bOut {G H : Nat → Nat} {i : Int32} : ∀ j a n F, a + j = 4 → 1 ≤ a → j < F → fX12_bold_L63 F h i (nI (bB G 3)) (nI (bB H 3)) (nI n) (nI a) = some (match bOut (pBo G) (pBo H) i a j n with
    | .inl m => .inl (i, nI m, h)
    | .inr z => .inr (nI z.1, nI z.2, h)) := by
  intro j
  induction j with
  | zero =>
    intro a n F ha ha1 hF
    obtain ⟨F, rfl⟩ : ∃ F', F = F' + 1 := ⟨F - 1, by omega⟩
    obtain rfl : a = 4 := by omega
    rw [fX12_bold_L63, if_pos (by decide)]
    rfl
  | succ j ih =>
    intro a n F ha ha1 hF
    obtain ⟨F, rfl⟩ : ∃ F', F = F' + 1 := ⟨F - 1, by omega⟩
    have e := X_bIn (h := h) (G := G) (H := H) (i := i) (a := a) ⟨ha1, by omega⟩ 3 1 n eg_F (by omega) (by omega) (by rw [eg_F_eq]; omega)
    have e' : fX12_bold_L72 eg_F h i (nI (bB G 3)) (nI (bB H 3)) (nI n) (nI a) 1 = _ := e
    rw [fX12_bold_L63, if_neg (show ¬ (3 : Int32) < nI a from nI_nlt (a := 3) (by omega) (by omega)), e', Option.bind_some, bOut]
    cases bIn (pBo G) (pBo H) i a 1 3 n with
    | inl m =>
      dsimp only
      rw [nI_1]
      exact ih (a + 1) m F (by omega) (by omega) (by omega)
    | inr z => rfl
theorem X_bold (X : XI h σ B) (one oth eg k i : Int32) : ∃ h', fX12_bold h 16 one oth eg k i = some (aBold σ one oth eg k i, h') ∧ XOk h h' σ B := by
  have C := X.2.2.1
  have hs := C.1
  have hP := XI_P X
  unfold fX12_bold aBold
  rw [if_pos (iO_16 hs)]
  rw [X_areTwo hs C.2.1 one oth eg, Option.bind_some]
  dsimp only
  rw [g01]
  by_cases c1 : gDu σ one oth eg
  rotate_left
  · rw [if_neg c1, if_neg (fun z => c1 z.1.1)]; exact ⟨h, rfl, XOk_rfl X⟩
  rw [if_pos c1]
  by_cases c9 : k < 1
  · rw [if_pos c9, if_neg (fun z => z.1.2.1 c9)]; exact ⟨h, rfl, XOk_rfl X⟩
  rw [if_neg c9]
  by_cases c8 : (9 : Int32) < k
  · rw [if_pos c8, if_neg (fun z => z.1.2.2 c8)]; exact ⟨h, rfl, XOk_rfl X⟩
  rw [if_neg c8]
  have c2 : GI (nI 1) (nI 9) k := ⟨c9, c8⟩
  by_cases c3 : (-1 : Int32) ≤ i
  rotate_left
  · rw [if_neg c3, if_neg (fun z => c3 z.2)]; exact ⟨h, rfl, XOk_rfl X⟩
  rw [if_pos c3, if_pos (show (gDu σ one oth eg ∧ GI (nI 1) (nI 9) k) ∧ (-1 : Int32) ≤ i from ⟨⟨c1, c2⟩, c3⟩)]
  obtain ⟨a, b, ha, hb, hab, rfl⟩ := G2_n hP.1 c1.1.1.1.1
  obtain ⟨p, q, hp, hq, hpq, rfl⟩ := G2_n hP.1 c1.1.1.1.2
  obtain ⟨x, y, hx, hy, rfl⟩ := gDu_n (P := sP σ) hP.2 c1.1.1.2 c1.1.2 c1.2
  obtain ⟨n, n1, n2, rfl⟩ := GI_n (by omega) (by omega) c2
  obtain ⟨m, rfl⟩ : ∃ m, n = m + 1 := ⟨n - 1, by omega⟩
  obtain ⟨h1, e1, O1⟩ := X_boldest X ha hb hx (n := m) (by omega)
  obtain ⟨h2, e2, O2⟩ := X_boldest O1.1 hp hq hy (n := m) (by omega)
  have e3 := X_bOut (h := h2) (G := gBo σ a b x m) (H := gBo σ p q y m) (i := i) 3 1 0 eg_F (by omega) (by omega) (by rw [eg_F_eq]; omega)
  have e3' : fX12_bold_L63 eg_F h2 i (nI (bB (gBo σ a b x m) 3)) (nI (bB (gBo σ p q y m) 3)) 0 1 = _ := e3
  refine ⟨h2, ?_, XOk_tr O1 O2⟩
  rw [(i10 x y (by omega) (by omega)).1, (i10 x y (by omega) (by omega)).2, e1, Option.bind_some]
  dsimp only
  rw [e2, Option.bind_some]
  dsimp only
  rw [e3', Option.bind_some, (dAB (a := a) (b := b) (by omega) (by omega)).1, (dAB (a := a) (b := b) (by omega) (by omega)).2, (dAB (a := p) (b := q) (by omega) (by omega)).1, (dAB (a := p) (b := q) (by omega) (by omega)).2, (dAB (a := x) (b := y) (by omega) (by omega)).1, (dAB (a := x) (b := y) (by omega) (by omega)).2, dN_n (by omega), show m + 1 - 1 = m by omega]
  cases bOut (pBo (gBo σ a b x m)) (pBo (gBo σ p q y m)) i 1 3 0 with
  | inl r =>
    show (if i = -1 then some (nI r, h2) else some (-1, h2)) = some (if i = -1 then nI r else -1, h2)
    split <;> rfl
  | inr z =>
    show some ((10 : Int32) * nI z.1 + nI z.2, h2) = some (nI (10 * z.1 + z.2), h2)
    rw [k10]
theorem M_gainOf {U : Nat → Nat} {P E : Nat} {lw : eg_LW} (O : RO h U P E lw) {a b e n s : Nat} (ha : a < P) (hb : b < P) (he : e < E) (hn : n ≤ 8) (hs' : s ≤ 9) : ∃ h', fX13_gainOf h 54 (nI (10 * a + b)) (nI e) (nI (n + 1)) (nI s) = some (nI (gnF (U 3) s (ptF U lw (U 0) a b e 0 s) n), h') ∧ eg_eq SP h h' := by
  have hs := O.1
  have hU := O.2.1
  have h3 := hU.1.2.2.2.2.2.2.2
  have e0 : eg_aI h 100 59 3 = some (nI (U 3)) := R_mea O (x := 3) (by omega)
  have h2 : n * s ≤ 8 * 9 := Nat.mul_le_mul hn hs'
  have ey : nI (U 3) + (nI (n + 1) - 1) * nI s = nI (U 3 + n * s) := by
    rw [nI_m1, ← iI_n, ← iI_n, ← iI_n, ← iI_n, iI_mul, iI_add]
    rfl
  have gb := gn_b (i := n) (dec_pt (U := U) (lw := lw) (wd := U 0) (a := a) (b := b) (e := e) (d := 0) (st := s)) dz_pt
  unfold fX13_gainOf
  rw [if_pos (iO_54 hs), gR_54 hs, rf_54_18 hs, Option.bind_some, e0, Option.bind_some, ey, Option.bind_some]
  by_cases c : U 3 + n * s ≤ 60
  · obtain ⟨h', e1, E1, K1⟩ := M_pair O ha hb he (d := 0) (by omega) (st := s) (n := n + 1) (by omega) (by omega)
    have e1' : fX13_goPair h 54 (nI (10 * a + b)) (nI (10 * e)) (nI s) (nI (n + 1)) = _ := e1
    have hp := pt_le (U := U) (lw := lw) (wd := U 0) (a := a) (b := b) (e := e) (d := 0) (st := s) (n + 1)
    refine ⟨h', ?_, E1⟩
    have eft : ft (ptF U lw (U 0) a b e 0 s) (n + 1) = ptF U lw (U 0) a b e 0 s (n + 1) := if_pos (by omega)
    have eg : gnF (U 3) s (ptF U lw (U 0) a b e 0 s) n = (U 3 + n * s) * ptF U lw (U 0) a b e 0 s (n + 1) / 1000000 := by unfold gnF; rw [eft]
    rw [eft] at gb
    rw [if_pos (show nI (U 3 + n * s) ≤ (60 : Int32) from nI_le (b := 60) c (by omega)), nI_k10, e1', Option.bind_some]
    dsimp only
    rw [nW (by omega), nW (by omega), show (1000000 : Int64) = jI ((1000000 : Nat) : Int) from rfl, j_md (by omega) (by omega), ← eg, jW (by omega)]
  · refine ⟨h, ?_, eq_rfl⟩
    have ez : gnF (U 3) s (ptF U lw (U 0) a b e 0 s) n = 0 := by
      have e0 : ft (ptF U lw (U 0) a b e 0 s) (n + 1) = 0 := by
        unfold ft
        rw [dz_pt n (by omega)]
        split <;> rfl
      unfold gnF
      rw [e0, Nat.mul_zero, Nat.zero_div]
    rw [if_neg (show ¬ nI (U 3 + n * s) ≤ (60 : Int32) from nI_ge (a := 60) (by omega) (by omega)), ez]
    rfl
theorem mI_mx {G : Nat → Nat} (hG : ∀ k, G k ≤ 2000000000) (i : Nat) : eg_maxI (mI G i) (nI (G i)) = mI G (i + 1) := by
  rw [mI_s hG]
  unfold eg_maxI
  by_cases c : nI (G i) ≤ mI G i
  · rw [if_pos c, if_neg (Int32.not_lt.mpr c)]
  · rw [if_neg c, if_pos (Int32.not_le.mp c)]
theorem M_gB (R : RI h σ) {a b e n s : Nat} (ha : a < sP σ) (hb : b < sP σ) (he : e < sE σ) (hn : n ≤ 8) (hs' : s ≤ 8) : ∃ h', fX13_gainOf h 54 (nI (10 * a + b)) (nI e) (nI (n + 1)) (nI (s + 1)) = some (nI (gBo σ a b e n s), h') ∧ ROk h h' σ := by
  obtain ⟨h', e1, E1⟩ := M_gainOf (RI_RO R (by omega)) ha hb he hn (s := s + 1) (by omega)
  exact ⟨h', e1, ROk_scr R (SP_x E1)⟩
theorem M_bold_L {a b p q x y n : Nat} {i : Int32} (ha : a < sP σ) (hb : b < sP σ) (hp : p < sP σ) (hq : q < sP σ) (hx : x < sE σ) (hy : y < sE σ) (hn : n ≤ 8) : ∀ j s h F, s + j = 3 → j < F → RI h σ → ∃ h', fX13_bold_L77 F h 54 (nI (10 * a + b)) (nI (10 * p + q)) (nI (10 * x + y)) (nI (n + 1)) i (mI (gBo σ a b x n) s) (mI (gBo σ p q y n) s) (nI (s + 1)) = some (54, nI (10 * a + b), nI (10 * p + q), nI (10 * x + y), nI (n + 1), i, mI (gBo σ a b x n) 3, mI (gBo σ p q y n) 3, h') ∧ ROk h h' σ := by
  intro j
  induction j with
  | zero =>
    intro s h F hi hF R
    obtain ⟨F, rfl⟩ : ∃ F', F = F' + 1 := ⟨F - 1, by omega⟩
    obtain rfl : s = 3 := by omega
    exact ⟨h, by rw [fX13_bold_L77, if_pos (by decide)], R, rfl, fun _ _ _ => ⟨rfl, rfl, rfl⟩⟩
  | succ j ih =>
    intro s h F hi hF R
    obtain ⟨F, rfl⟩ : ∃ F', F = F' + 1 := ⟨F - 1, by omega⟩
    have hP := RI_P R
    obtain ⟨h1, e1, O1⟩ := M_gB R ha hb hx hn (s := s) (by omega)
    obtain ⟨h2, e2, O2⟩ := M_gB O1.1 hp hq hy hn (s := s) (by omega)
    obtain ⟨h3, e3, O3⟩ := ih (s + 1) h2 F (by omega) (by omega) O2.1
    refine ⟨h3, ?_, ROk_tr O1 (ROk_tr O2 O3)⟩
    rw [fX13_bold_L77, if_neg (show ¬ (4 : Int32) ≤ nI (s + 1) from nI_ge (b := 4) (by omega) (by omega)), (i10 x y (by omega) (by omega)).1, (i10 x y (by omega) (by omega)).2, e1, Option.bind_some]
    dsimp only
    rw [mI_mx (gBo_b σ a b x n), Option.bind_some, e2, Option.bind_some]
    dsimp only
    rw [mI_mx (gBo_b σ p q y n), Option.bind_some, nI_1]
    exact e3
theorem M_bIn {a b p q x y n : Nat} {i : Int32} (ha : a < sP σ) (hb : b < sP σ) (hp : p < sP σ) (hq : q < sP σ) (hx : x < sE σ) (hy : y < sE σ) (hn : n ≤ 8) {s : Nat} (hs' : 1 ≤ s ∧ s ≤ 3) : ∀ j t r h F, t + j = 4 → 1 ≤ t → j < F → RI h σ → ∃ h', fX13_bold_L144 F h 54 (nI (10 * a + b)) (nI (10 * p + q)) (nI (10 * x + y)) (nI (n + 1)) i (mI (gBo σ a b x n) 3) (mI (gBo σ p q y n) 3) (nI r) (nI s) (nI t) = some (match bIn (pBo (gBo σ a b x n)) (pBo (gBo σ p q y n)) i s t j r with
    | .inl m => .inl (54, nI (10 * a + b), nI (10 * p + q), nI (10 * x + y), nI (n + 1), i, mI (gBo σ a b x n) 3, mI (gBo σ p q y n) 3, nI m, nI s, h')
    | .inr z => .inr (nI z.1, nI z.2, h')) ∧ ROk h h' σ := by
  have iff : ∀ (a b e s : Nat), 1 ≤ s → ((nI (gBo σ a b e n (s - 1)) = mI (gBo σ a b e n) 3) ↔ pBo (gBo σ a b e n) s = true) := by
    intro a b e s h1
    have b1 := gBo_b σ a b e n (s - 1)
    have b2 := gBo_b σ a b e n (bi (gBo σ a b e n) 3)
    have em : mI (gBo σ a b e n) 3 = nI (gBo σ a b e n (bi (gBo σ a b e n) 3)) := if_neg (by omega)
    unfold pBo
    rw [em, nI_eq (by omega) (by omega), decide_eq_true_eq]
  intro j
  induction j with
  | zero =>
    intro t r h F ht ht1 hF R
    obtain ⟨F, rfl⟩ : ∃ F', F = F' + 1 := ⟨F - 1, by omega⟩
    obtain rfl : t = 4 := by omega
    refine ⟨h, ?_, R, rfl, fun _ _ _ => ⟨rfl, rfl, rfl⟩⟩
    rw [fX13_bold_L144, if_pos (by decide)]
    rfl
  | succ j ih =>
    intro t r h F ht ht1 hF R
    obtain ⟨F, rfl⟩ : ∃ F', F = F' + 1 := ⟨F - 1, by omega⟩
    have hP := RI_P R
    obtain ⟨h1, e1, O1⟩ := M_gB R ha hb hx hn (s := s - 1) (by omega)
    obtain ⟨h2, e2, O2⟩ := M_gB O1.1 hp hq hy hn (s := t - 1) (by omega)
    rw [show s - 1 + 1 = s by omega] at e1
    rw [show t - 1 + 1 = t by omega] at e2
    rw [fX13_bold_L144, if_neg (show ¬ (4 : Int32) ≤ nI t from nI_ge (b := 4) (by omega) (by omega)), (i10 x y (by omega) (by omega)).1, (i10 x y (by omega) (by omega)).2, e1, Option.bind_some, nI_1, nI_1, bIn]
    dsimp only
    by_cases c1 : pBo (gBo σ a b x n) s = true
    · rw [if_pos ((iff a b x s hs'.1).mpr c1), e2, Option.bind_some]
      dsimp only
      by_cases c2 : pBo (gBo σ p q y n) t = true
      · rw [if_pos ((iff p q y t ht1).mpr c2), if_pos (show pBo (gBo σ a b x n) s = true ∧ pBo (gBo σ p q y n) t = true from ⟨c1, c2⟩)]
        by_cases c3 : nI r = i
        · rw [if_pos c3, if_pos c3]
          exact ⟨h2, rfl, ROk_tr O1 O2⟩
        · rw [if_neg c3, if_neg c3]
          obtain ⟨h3, e3, O3⟩ := ih (t + 1) (r + 1) h2 F (by omega) (by omega) (by omega) O2.1
          exact ⟨h3, e3, ROk_tr O1 (ROk_tr O2 O3)⟩
      · rw [if_neg (fun z => c2 ((iff p q y t ht1).mp z)), if_neg (fun z => c2 z.2)]
        obtain ⟨h3, e3, O3⟩ := ih (t + 1) r h2 F (by omega) (by omega) (by omega) O2.1
        exact ⟨h3, e3, ROk_tr O1 (ROk_tr O2 O3)⟩
    · rw [if_neg (fun z => c1 ((iff a b x s hs'.1).mp z)), if_neg (fun z => c1 z.1)]
      obtain ⟨h3, e3, O3⟩ := ih (t + 1) r h1 F (by omega) (by omega) (by omega) O1.1
      exact ⟨h3, e3, ROk_tr O1 O3⟩
theorem M_bOut {a b p q x y n : Nat} {i : Int32} (ha : a < sP σ) (hb : b < sP σ) (hp : p < sP σ) (hq : q < sP σ) (hx : x < sE σ) (hy : y < sE σ) (hn : n ≤ 8) : ∀ j s r h F, s + j = 4 → 1 ≤ s → j < F → RI h σ → ∃ h', fX13_bold_L135 F h 54 (nI (10 * a + b)) (nI (10 * p + q)) (nI (10 * x + y)) (nI (n + 1)) i (mI (gBo σ a b x n) 3) (mI (gBo σ p q y n) 3) (nI r) (nI s) = some (match bOut (pBo (gBo σ a b x n)) (pBo (gBo σ p q y n)) i s j r with
    | .inl m => .inl (i, nI m, h')
    | .inr z => .inr (nI z.1, nI z.2, h')) ∧ ROk h h' σ := by
  intro j
  induction j with
  | zero =>
    intro s r h F hs hs1 hF R
    obtain ⟨F, rfl⟩ : ∃ F', F = F' + 1 := ⟨F - 1, by omega⟩
    obtain rfl : s = 4 := by omega
    refine ⟨h, ?_, R, rfl, fun _ _ _ => ⟨rfl, rfl, rfl⟩⟩
    rw [fX13_bold_L135, if_pos (by decide)]
    rfl
  | succ j ih =>
    intro s r h F hs hs1 hF R
    obtain ⟨F, rfl⟩ : ∃ F', F = F' + 1 := ⟨F - 1, by omega⟩
    obtain ⟨h1, e, O1⟩ := M_bIn (i := i) ha hb hp hq hx hy hn (s := s) ⟨hs1, by omega⟩ 3 1 r h eg_F (by omega) (by omega) (by rw [eg_F_eq]; omega) R
    have e' : fX13_bold_L144 eg_F h 54 (nI (10 * a + b)) (nI (10 * p + q)) (nI (10 * x + y)) (nI (n + 1)) i (mI (gBo σ a b x n) 3) (mI (gBo σ p q y n) 3) (nI r) (nI s) 1 = _ := e
    rw [fX13_bold_L135, if_neg (show ¬ (4 : Int32) ≤ nI s from nI_ge (b := 4) (by omega) (by omega)), e', Option.bind_some, bOut]
    cases bIn (pBo (gBo σ a b x n)) (pBo (gBo σ p q y n)) i s 1 3 r with
    | inl m =>
      dsimp only
      rw [nI_1]
      obtain ⟨h2, e2, O2⟩ := ih (s + 1) m h1 F (by omega) (by omega) (by omega) O1.1
      exact ⟨h2, e2, ROk_tr O1 O2⟩
    | inr z => exact ⟨h1, rfl, O1⟩
theorem M_bold (R : RI h σ) (one oth eg k i : Int32) : ∃ h', fX13_bold h 54 one oth eg k i = some (aBold σ one oth eg k i, h') ∧ ROk h h' σ := by
  obtain ⟨R0, Q0⟩ := R_0 R
  have hs := R.1
  have s0 := R0.1
  have hP := RI_P R
  unfold fX13_bold aBold
  rw [if_pos (iO_54 hs), pI_54 hs, Option.bind_some]
  rw [M_isTwo s0 R0.2.2.2.1 one, Option.bind_some]
  dsimp only
  rw [g01]
  by_cases c1 : G2 (sP σ) one
  rotate_left
  · rw [if_neg c1, if_neg (fun z => c1 z.1.1.1.1.1.1)]; exact ⟨_, rfl, ROk_scr R Q0⟩
  rw [if_pos c1]
  rw [M_isTwo s0 R0.2.2.2.1 oth, Option.bind_some]
  dsimp only
  rw [g01]
  by_cases c2 : G2 (sP σ) oth
  rotate_left
  · rw [if_neg c2, if_neg (fun z => c2 z.1.1.1.1.1.2)]; exact ⟨_, rfl, ROk_scr R Q0⟩
  rw [if_pos c2]
  by_cases c3 : eg < 0
  · rw [if_pos c3, if_neg (fun z => z.1.1.1.1.2 c3)]; exact ⟨_, rfl, ROk_scr R Q0⟩
  rw [if_neg c3]
  rw [M_isEgg s0 R0.2.2.2.1 _, Option.bind_some]
  dsimp only
  rw [g01]
  by_cases c4 : G1 (sE σ) (eg / 10)
  rotate_left
  · rw [if_neg c4, if_neg (fun z => c4 z.1.1.1.2)]; exact ⟨_, rfl, ROk_scr R Q0⟩
  rw [if_pos c4]
  rw [M_isEgg s0 R0.2.2.2.1 _, Option.bind_some]
  dsimp only
  rw [g01]
  by_cases c5 : G1 (sE σ) (eg % 10)
  rotate_left
  · rw [if_neg c5, if_neg (fun z => c5 z.1.1.2)]; exact ⟨_, rfl, ROk_scr R Q0⟩
  rw [if_pos c5]
  rw [M_GI (lo := 1) (hi := 9) _ k (by omega) (by omega) 1 9 rfl rfl, Option.bind_some]
  dsimp only
  rw [g01]
  by_cases c6 : GI (nI 1) (nI 9) k
  rotate_left
  · rw [if_neg c6, if_neg (fun z => c6 z.1.2)]; exact ⟨_, rfl, ROk_scr R Q0⟩
  rw [if_pos c6]
  by_cases c7 : (-1 : Int32) ≤ i
  rotate_left
  · rw [if_neg c7, if_neg (fun z => c7 z.2)]; exact ⟨_, rfl, ROk_scr R Q0⟩
  rw [if_pos c7, if_pos (show (gDu σ one oth eg ∧ GI (nI 1) (nI 9) k) ∧ (-1 : Int32) ≤ i from ⟨⟨⟨⟨⟨⟨c1, c2⟩, c3⟩, c4⟩, c5⟩, c6⟩, c7⟩)]
  obtain ⟨a, b, ha, hb, hab, rfl⟩ := G2_n hP.1 c1
  obtain ⟨p, q, hp, hq, hpq, rfl⟩ := G2_n hP.1 c2
  obtain ⟨x, y, hx, hy, rfl⟩ := gDu_n (P := sP σ) hP.2 c3 c4 c5
  obtain ⟨n, n1, n2, rfl⟩ := GI_n (by omega) (by omega) c6
  obtain ⟨m, rfl⟩ : ∃ m, n = m + 1 := ⟨n - 1, by omega⟩
  obtain ⟨h1, e1, O1⟩ := M_bold_L (n := m) (i := i) ha hb hp hq hx hy (by omega) 3 0 (eg_sI h 54 0 0) eg_F (by omega) (by rw [eg_F_eq]; omega) R0
  have e1' : fX13_bold_L77 eg_F (eg_sI h 54 0 0) 54 (nI (10 * a + b)) (nI (10 * p + q)) (nI (10 * x + y)) (nI (m + 1)) i (-1) (-1) 1 = _ := e1
  obtain ⟨h2, e2, O2⟩ := M_bOut (n := m) (i := i) ha hb hp hq hx hy (by omega) 3 1 0 h1 eg_F (by omega) (by omega) (by rw [eg_F_eq]; omega) O1.1
  have e2' : fX13_bold_L135 eg_F h1 54 (nI (10 * a + b)) (nI (10 * p + q)) (nI (10 * x + y)) (nI (m + 1)) i (mI (gBo σ a b x m) 3) (mI (gBo σ p q y m) 3) 0 1 = _ := e2
  refine ⟨h2, ?_, ROk_tr (ROk_scr R Q0) (ROk_tr O1 O2)⟩
  rw [e1', Option.bind_some]
  dsimp only
  rw [e2', Option.bind_some, (dAB (a := a) (b := b) (by omega) (by omega)).1, (dAB (a := a) (b := b) (by omega) (by omega)).2, (dAB (a := p) (b := q) (by omega) (by omega)).1, (dAB (a := p) (b := q) (by omega) (by omega)).2, (dAB (a := x) (b := y) (by omega) (by omega)).1, (dAB (a := x) (b := y) (by omega) (by omega)).2, dN_n (by omega), show m + 1 - 1 = m by omega]
  cases bOut (pBo (gBo σ a b x m)) (pBo (gBo σ p q y m)) i 1 3 0 with
  | inl r =>
    show (if i = -1 then some (nI r, h2) else some (-1, h2)) = some (if i = -1 then nI r else -1, h2)
    split <;> rfl
  | inr z =>
    show some ((10 : Int32) * nI z.1 + nI z.2, h2) = some (nI (10 * z.1 + z.2), h2)
    rw [k10]
end BL
