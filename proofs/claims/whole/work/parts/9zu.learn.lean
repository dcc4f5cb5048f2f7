section LY
variable {h h' : eg_H} {σ : eg_S} {B : Nat × Nat}
theorem X_rise (X : XI h σ B) {a b e d N G : Nat} (hab : ¬ a = b) (ha : a < sP σ) (hb : b < sP σ) (hN : N ≤ 60) (hG : G ≤ 1000000000) (hy : sU σ 3 + (N - 1) * sU σ 2 ≤ 60) (H : ∀ k' x, 1 ≤ k' → k' ≤ N → x < 10 → eg_I h 53 (10 * k' + x) = nI (clG σ a b e d k' x)) : fX9_leastRise h 47 23 (nI (10 * a + b)) (nI N) (nI G) = some (rLrn (lzS (okB σ a b e d N G) 19), h) := by
  have hP := XI_P X
  have C := X.2.2.1
  have hs := C.1
  have hU := XI_U X (by omega)
  have hA : sU σ (4 + (4 * a + 3)) ≤ 9 := by have := (hU.2.1 a ha).2.2.2; rw [show 4 + (4 * a + 3) = 7 + 4 * a by omega]; exact this
  have hB : sU σ (4 + (4 * b + 3)) ≤ 9 := by have := (hU.2.1 b hb).2.2.2; rw [show 4 + (4 * b + 3) = 7 + 4 * b by omega]; exact this
  have eA : fX7_ofPerson h 23 (nI a) 3 = some (nI (sU σ (4 + (4 * a + 3))), h) := by
    have := X_ofPerson hs C.2.1 hU ha (j := 3) (by omega)
    rw [show 4 + 4 * a + 3 = 4 + (4 * a + 3) by omega] at this
    exact this
  have eB : fX7_ofPerson h 23 (nI b) 3 = some (nI (sU σ (4 + (4 * b + 3))), h) := by
    have := X_ofPerson hs C.2.1 hU hb (j := 3) (by omega)
    rw [show 4 + 4 * b + 3 = 4 + (4 * b + 3) by omega] at this
    exact this
  have inn : ∀ s, s ≤ 18 → ∀ k F, k ≤ s + 1 → k < F → fX9_leastRise_L35 F h 47 23 (nI (10 * a + b)) (nI N) (nI G) (nI (sU σ (4 + (4 * a + 3)))) (nI (sU σ (4 + (4 * b + 3)))) (nI s) (nI (s + 1 - k)) = some (match lzI (okB σ a b e d N G) s k with
      | none => .inl (47, 23, nI (10 * a + b), nI N, nI G, nI (sU σ (4 + (4 * a + 3))), nI (sU σ (4 + (4 * b + 3))), nI s, h)
      | some i => .inr (nI s, nI i, h)) := by
    intro s hs18 k
    induction k with
    | zero =>
      intro F hk hF
      obtain ⟨F, rfl⟩ : ∃ F', F = F' + 1 := ⟨F - 1, by omega⟩
      rw [fX9_leastRise_L35, if_pos (nI_lt (show s < s + 1 - 0 by omega) (by omega))]
      rfl
    | succ k ih =>
      intro F hk hF
      obtain ⟨F, rfl⟩ : ∃ F', F = F' + 1 := ⟨F - 1, by omega⟩
      have nx := ih F (by omega) (by omega)
      rw [show s + 1 - (k + 1) = s - k by omega]
      rw [show s + 1 - k = s - k + 1 by omega] at nx
      have hi : s - k ≤ s := by omega
      unfold lzI
      generalize s - k = i at *
      have e4 : nI (sU σ (4 + (4 * b + 3))) + nI s - nI i = nI (sU σ (4 + (4 * b + 3)) + s - i) := by rw [nI_add, nI_sb (by omega)]
      rw [fX9_leastRise_L35, if_neg (nI_nlt (by omega) (by omega)), nI_add, Option.bind_some, e4, Option.bind_some]
      by_cases c1 : sU σ (4 + (4 * a + 3)) + i ≤ 9
      rotate_left
      · have no : ¬ okB σ a b e d N G s i = true := fun z => c1 (of_decide_eq_true z).1.1
        rw [if_pos (show (9 : Int32) < nI _ from nI_lt (a := 9) (by omega) (by omega)), if_neg no, nI_1]
        exact nx
      rw [if_neg (show ¬ (9 : Int32) < nI _ from nI_nlt (a := 9) (by omega) (by omega))]
      by_cases c2 : sU σ (4 + (4 * b + 3)) + s - i ≤ 9
      rotate_left
      · have no : ¬ okB σ a b e d N G s i = true := fun z => c2 (of_decide_eq_true z).1.2
        rw [if_pos (show (9 : Int32) < nI _ from nI_lt (a := 9) (by omega) (by omega)), if_neg no, nI_1]
        exact nx
      rw [if_neg (show ¬ (9 : Int32) < nI _ from nI_nlt (a := 9) (by omega) (by omega)), show (100 : Int32) = nI 100 from rfl, nI_kk, nI_add, X_rch X hab ha hb hN hG c1 c2 hy H, Option.bind_some]
      dsimp only
      rw [g01]
      by_cases c3 : G ≤ vlL σ a b e d N (sU σ (4 + (4 * a + 3)) + i) (sU σ (4 + (4 * b + 3)) + s - i)
      · have yes : okB σ a b e d N G s i = true := decide_eq_true ⟨⟨c1, c2⟩, c3⟩
        rw [if_pos c3, if_pos yes]
      · have no : ¬ okB σ a b e d N G s i = true := fun z => c3 (of_decide_eq_true z).2
        rw [if_neg c3, if_neg no, nI_1]
        exact nx
  have out : ∀ k F, k ≤ 19 → k < F → fX9_leastRise_L25 F h 47 23 (nI (10 * a + b)) (nI N) (nI G) (nI (sU σ (4 + (4 * a + 3)))) (nI (sU σ (4 + (4 * b + 3)))) (nI (19 - k)) = some (match lzS (okB σ a b e d N G) k with
      | none => .inl h
      | some q => .inr (nI q.1, nI q.2, h)) := by
    intro k
    induction k with
    | zero =>
      intro F hk hF
      obtain ⟨F, rfl⟩ : ∃ F', F = F' + 1 := ⟨F - 1, by omega⟩
      rw [fX9_leastRise_L25, if_pos (by decide)]
      rfl
    | succ k ih =>
      intro F hk hF
      obtain ⟨F, rfl⟩ : ∃ F', F = F' + 1 := ⟨F - 1, by omega⟩
      have nx := ih F (by omega) (by omega)
      have l1 := inn (18 - k) (by omega) (18 - k + 1) eg_F (Nat.le_refl _) (by rw [eg_F_eq]; omega)
      rw [Nat.sub_self] at l1
      rw [show 19 - (k + 1) = 18 - k by omega]
      rw [show 19 - k = 18 - k + 1 by omega] at nx
      have l1' : fX9_leastRise_L35 eg_F h 47 23 (nI (10 * a + b)) (nI N) (nI G) (nI (sU σ (4 + (4 * a + 3)))) (nI (sU σ (4 + (4 * b + 3)))) (nI (18 - k)) 0 = _ := l1
      rw [fX9_leastRise_L25, if_neg (show ¬ (18 : Int32) < nI _ from nI_nlt (a := 18) (by omega) (by omega)), l1', Option.bind_some]
      unfold lzS
      cases hr : lzI (okB σ a b e d N G) (18 - k) (18 - k + 1) with
      | none =>
        dsimp only
        rw [nI_1]
        exact nx
      | some i => rfl
  have o0 := out 19 eg_F (Nat.le_refl _) (by rw [eg_F_eq]; omega)
  have o0' : fX9_leastRise_L25 eg_F h 47 23 (nI (10 * a + b)) (nI N) (nI G) (nI (sU σ (4 + (4 * a + 3)))) (nI (sU σ (4 + (4 * b + 3)))) 0 = _ := o0
  unfold fX9_leastRise
  rw [if_pos (iO_47 hs), (i10 a b (by omega) (by omega)).1, eA, Option.bind_some]
  dsimp only
  rw [(i10 a b (by omega) (by omega)).2, eB, Option.bind_some]
  dsimp only
  rw [o0', Option.bind_some]
  cases hr : lzS (okB σ a b e d N G) 19 with
  | none => rfl
  | some q =>
    have hq := lzS_le 19 (Nat.le_refl _) hr
    dsimp only
    rw [show (10 : Int32) = nI 10 from rfl, nI_kk, nI_add, nI_sb (by omega)]
    rfl
theorem X_learn (X : XI h σ B) (two c n g : Int32) : ∃ h', fX12_learn h 16 two c n g = some (aLrn σ two c n g, h') ∧ XOk h h' σ B := by
  have C := X.2.2.1
  have hs := C.1
  have hP := XI_P X
  unfold fX12_learn aLrn
  rw [if_pos (iO_16 hs), X_isCourse hs C.2.1 two c, Option.bind_some]
  dsimp only
  rw [g01]
  by_cases c1 : G2 (sP σ) two ∧ GE (sE σ) c
  rotate_left
  · have gg : ¬ gLrn σ two c n g := fun z => c1 z.1.1
    rw [if_neg c1, if_neg gg]; exact ⟨h, rfl, XOk_rfl X⟩
  rw [if_pos c1]
  by_cases c2 : n < 0
  · have gg : ¬ gLrn σ two c n g := fun z => z.1.2.1 c2
    rw [if_pos c2, if_neg gg]; exact ⟨h, rfl, XOk_rfl X⟩
  rw [if_neg c2]
  by_cases c3 : (60 : Int32) < n
  · have gg : ¬ gLrn σ two c n g := fun z => z.1.2.2 c3
    rw [if_pos c3, if_neg gg]; exact ⟨h, rfl, XOk_rfl X⟩
  rw [if_neg c3]
  by_cases c4 : g < 0
  · have gg : ¬ gLrn σ two c n g := fun z => z.2.1 c4
    rw [if_pos c4, if_neg gg]; exact ⟨h, rfl, XOk_rfl X⟩
  rw [if_neg c4]
  by_cases c5 : g ≤ 1000000000
  rotate_left
  · have gg : ¬ gLrn σ two c n g := fun z => c5 (Int32.not_lt.mp z.2.2)
    rw [if_neg c5, if_neg gg]; exact ⟨h, rfl, XOk_rfl X⟩
  have gg : gLrn σ two c n g := ⟨⟨c1, c2, c3⟩, c4, Int32.not_lt.mpr c5⟩
  rw [if_pos c5, if_pos gg]
  obtain ⟨a, b, ha, hb, hab, rfl⟩ := G2_n hP.1 c1.1
  obtain ⟨e, d, he, hd, rfl⟩ := GE_n hP.2 c1.2
  obtain ⟨N, _, N2, rfl⟩ := GI_n (lo := 0) (hi := 60) (x := n) (by omega) (by omega) ⟨c2, c3⟩
  obtain ⟨G, _, G2', rfl⟩ := GI_n (lo := 0) (hi := 1000000000) (x := g) (by omega) (by omega) ⟨c4, Int32.not_lt.mpr c5⟩
  have hU := XI_U X (by omega)
  rw [(dAB (by omega) (by omega)).1, (dAB (by omega) (by omega)).2, (dAB (a := e) (by omega) (by omega)).1, (dAB (a := e) (by omega) (by omega)).2, dN_n (by omega), dN_n (by omega)]
  have hA : sU σ (4 + (4 * a + 3)) ≤ 9 := by have := (hU.2.1 a ha).2.2.2; rw [show 4 + (4 * a + 3) = 7 + 4 * a by omega]; exact this
  have hB : sU σ (4 + (4 * b + 3)) ≤ 9 := by have := (hU.2.1 b hb).2.2.2; rw [show 4 + (4 * b + 3) = 7 + 4 * b by omega]; exact this
  by_cases c6 : N = 0
  · have ok : okB σ a b e d N G 0 0 = true := decide_eq_true ⟨⟨by omega, by omega⟩, by rw [c6]; exact G2'⟩
    rw [if_pos (by rw [c6]; rfl), lzS_0 ok]
    exact ⟨h, rfl, XOk_rfl X⟩
  rw [if_neg (nI_ne0 (by omega) (by omega))]
  by_cases c7 : G = 0
  · have ok : okB σ a b e d N G 0 0 = true := decide_eq_true ⟨⟨by omega, by omega⟩, by rw [c7]; exact Nat.zero_le _⟩
    rw [if_pos (by rw [c7]; rfl), lzS_0 ok]
    exact ⟨h, rfl, XOk_rfl X⟩
  rw [if_neg (nI_ne0 (by omega) (by omega))]
  have e2 : fX7_told h 23 2 = some (nI (sU σ 2), h) := X_told hs C.2.1 (x := 2) (by omega)
  have e0 : fX7_told h 23 0 = some (nI (sU σ 0), h) := X_told hs C.2.1 (x := 0) (by omega)
  have u2 := hU.1.2.2.2.2.2.1
  have u3 := hU.1.2.2.2.2.2.2.2
  have hmul : (N - 1) * sU σ 2 ≤ 60 * 9 := Nat.mul_le_mul (by omega) u2
  rw [gR_16 hs, rf_16_3 hs, Option.bind_some, Option.bind_some, e2, Option.bind_some]
  dsimp only
  rw [X_yards hs C.2.1 (by omega), Option.bind_some]
  dsimp only
  by_cases c8 : sU σ 3 + (N - 1) * sU σ 2 ≤ 60
  rotate_left
  · have no : ∀ s i, okB σ a b e d N G s i = false := fun s i => by
      simp only [decide_eq_false_iff_not]
      intro z
      have z2 := z.2
      obtain ⟨k, rfl⟩ : ∃ k, N = k + 1 := ⟨N - 1, by omega⟩
      have : vlL σ a b e d (k + 1) (sU σ (4 + (4 * a + 3)) + i) (sU σ (4 + (4 * b + 3)) + s - i) = 0 := by
        refine if_pos (Or.inl ?_)
        show 60 < upB σ a b _ _ 3 + k * sU σ 2
        rw [upB_o (by omega) (by omega)]
        rw [show k + 1 - 1 = k by omega] at c8
        omega
      omega
    rw [if_neg (show ¬ nI (sU σ 3 + (N - 1) * sU σ 2) ≤ (60 : Int32) from nI_ge (a := 60) (by omega) (by omega)), lzS_no no]
    exact ⟨h, rfl, XOk_rfl X⟩
  rw [if_pos (show nI (sU σ 3 + (N - 1) * sU σ 2) ≤ (60 : Int32) from nI_le (b := 60) c8 (by omega)), gR_16 hs, rf_16_3 hs, Option.bind_some, e0, Option.bind_some]
  dsimp only
  obtain ⟨g1, e1, O1, H1⟩ := X_ln81 X (l4 := nI G) ha hb he hd N2 c8 N 1 h eg_F (by omega) (by omega) (by rw [eg_F_eq]; omega) (XOk_rfl X) (fun k' x h1 h2 _ => by omega)
  have e1' : fX12_learn_L81 eg_F h 16 (nI (10 * a + b)) (nI (10 * e + d)) (nI N) (nI G) (nI (sU σ 0)) 1 = some (16, nI (10 * a + b), nI N, nI G, g1) := e1
  have s1 := O1.1.2.2.1.1
  rw [e1', Option.bind_some]
  dsimp only
  rw [gR_16 s1, rf_16_18 s1, Option.bind_some, gR_16 s1, rf_16_3 s1, Option.bind_some, X_rise O1.1 hab ha hb N2 G2' c8 H1, Option.bind_some]
  exact ⟨g1, rfl, O1⟩
end LY
