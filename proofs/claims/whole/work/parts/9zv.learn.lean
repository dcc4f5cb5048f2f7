section LM
variable {h h' : eg_H} {σ : eg_S}
def S61 : List (Nat × Option Nat) := (61, none) :: Rx
def LG (σ : eg_S) (a b : Nat) (h g : eg_H) : Prop := eg_eq S61 h g ∧ (∀ x, (eg_L g 61 x = eg_L h 61 x ∧ eg_P g 61 x = eg_P h 61 x) ∧ (¬ x = 4 * a + 3 → ¬ x = 4 * b + 3 → eg_I g 61 x = eg_I h 61 x)) ∧ ∃ xa xb, RO g (upB σ a b xa xb) (sP σ) (sE σ) (sL σ)
theorem cov_61 (p i : Nat) (hc : eg_cov Rx p i = false) (hp : ¬ p = 61) : eg_cov S61 p i = false := by
  unfold S61 eg_cov
  rw [List.any_cons]
  have : ((61 : Nat) == p) = false := by simp; omega
  show (((61 : Nat) == p && _) || _) = false
  rw [this, Bool.false_and, Bool.false_or]
  exact hc
theorem eq_61 {g : eg_H} (E : eg_eq Rx h g) : eg_eq S61 h g := cov_sub (by decide) E
theorem Uok_b (hU : Uok (sU σ) (sP σ) (sE σ)) {a b x y : Nat} (ha : a < sP σ) (hb : b < sP σ) (hx : x ≤ 9) (hy : y ≤ 9) : Uok (upB σ a b x y) (sP σ) (sE σ) := Uok_p (j := 3) (Uok_p (j := 3) hU ha (by omega) (by simpa using hx)) hb (by omega) (by simpa using hy)
theorem upB_2 {a b x y x' y' : Nat} : upU (upU (upB σ a b x' y') (4 + (4 * a + 3)) x) (4 + (4 * b + 3)) y = upB σ a b x y := by
  funext z
  unfold upB upU
  by_cases c1 : z = 4 + (4 * b + 3)
  · simp only [if_pos c1]
  · simp only [if_neg c1]
    by_cases c2 : z = 4 + (4 * a + 3)
    · simp only [if_pos c2]
    · simp only [if_neg c2]
theorem upB_0 {a b : Nat} : upB σ a b (sU σ (4 + (4 * a + 3))) (sU σ (4 + (4 * b + 3))) = sU σ := by
  funext z
  unfold upB upU
  by_cases c1 : z = 4 + (4 * b + 3)
  · rw [if_pos c1, c1]
  · rw [if_neg c1]
    by_cases c2 : z = 4 + (4 * a + 3)
    · rw [if_pos c2, c2]
    · rw [if_neg c2]
theorem M_try {a b e d N x y : Nat} (hU : Uok (sU σ) (sP σ) (sE σ)) (ha : a < sP σ) (hb : b < sP σ) (hab : ¬ a = b) (he : e < sE σ) (hd : d ≤ 1) (hN : N ≤ 60) (hx : x ≤ 9) (hy : y ≤ 9) {g : eg_H} (L : LG σ a b h g) : ∃ g', fX13_goPair (eg_sI (eg_sI g 61 (4 * a + 3) (nI x)) 61 (4 * b + 3) (nI y)) 54 (nI (10 * a + b)) (nI (10 * e + d)) (nI (sU σ 2)) (nI N) = some (nI (vlL σ a b e d N x y), g') ∧ LG σ a b h g' ∧ eg_aI (eg_sI (eg_sI g 61 (4 * a + 3) (nI x)) 61 (4 * b + 3) (nI y)) 100 59 2 = some (nI (sU σ 2)) := by
  obtain ⟨E, K, xa, xb, O⟩ := L
  have hP := hU.1.1
  have U2 : ∀ z, Uok (upU (upB σ a b xa xb) (4 + (4 * a + 3)) z) (sP σ) (sE σ) ∨ True := fun _ => Or.inr trivial
  have Ua : Uok (upU (upB σ a b xa xb) (4 + (4 * a + 3)) x) (sP σ) (sE σ) := Uok_p (j := 3) O.2.1 ha (by omega) (by simpa using hx)
  have O1 := RO_p (x := 4 * a + 3) O (by omega) Ua
  have Ub : Uok (upU (upU (upB σ a b xa xb) (4 + (4 * a + 3)) x) (4 + (4 * b + 3)) y) (sP σ) (sE σ) := Uok_p (j := 3) Ua hb (by omega) (by simpa using hy)
  have O2 := RO_p (x := 4 * b + 3) O1 (by omega) Ub
  rw [upB_2] at O2
  have e0 : upB σ a b x y 0 = sU σ 0 := upB_o (by omega) (by omega)
  have e2 : upB σ a b x y 2 = sU σ 2 := upB_o (by omega) (by omega)
  have u2 := hU.1.2.2.2.2.2.1
  obtain ⟨g', e1, E1, _⟩ := M_pair O2 ha hb he hd (st := sU σ 2) (by omega) hN
  rw [e0] at e1
  refine ⟨g', e1, ⟨?_, fun z => ?_, x, y, RO_P O2 E1⟩, ?_⟩
  · exact eq_tr (eq_sI (eq_sI E rfl) rfl) (eq_61 (SP_x E1))
  · obtain ⟨q1, q2, q3⟩ := E1.2 61 z rfl
    refine ⟨⟨by rw [q2]; exact (K z).1.1, by rw [q3]; exact (K z).1.2⟩, fun z1 z2 => ?_⟩
    rw [q1, I_sI, if_neg (fun w => z2 w.2), I_sI, if_neg (fun w => z1 w.2)]
    exact (K z).2 z1 z2
  · have := R_mea O2 (x := 2) (by omega)
    rw [e2] at this
    exact this
theorem M_learn (R : RI h σ) (two c n g : Int32) : ∃ h', fX13_learn h 54 two c n g = some (aLrn σ two c n g, h') ∧ ROk h h' σ := by
  obtain ⟨R0, Q0⟩ := R_0 R
  have hs := R.1
  have s0 := R0.1
  have hP := RI_P R
  unfold fX13_learn aLrn
  rw [if_pos (iO_54 hs), pI_54 hs, Option.bind_some, M_isTwo s0 R0.2.2.2.1 two, Option.bind_some]
  dsimp only
  rw [g01]
  by_cases c1 : G2 (sP σ) two
  rotate_left
  · have gg : ¬ gLrn σ two c n g := fun z => c1 z.1.1.1
    rw [if_neg c1, if_neg gg]; exact ⟨_, rfl, ROk_scr R Q0⟩
  rw [if_pos c1, M_isFrom s0 R0.2.2.2.1 c, Option.bind_some]
  dsimp only
  rw [g01]
  by_cases c2 : GE (sE σ) c
  rotate_left
  · have gg : ¬ gLrn σ two c n g := fun z => c2 z.1.1.2
    rw [if_neg c2, if_neg gg]; exact ⟨_, rfl, ROk_scr R Q0⟩
  rw [if_pos c2, M_GI (lo := 0) (hi := 60) _ n (by omega) (by omega) 0 60 rfl rfl, Option.bind_some]
  dsimp only
  rw [g01]
  by_cases c3 : GI (nI 0) (nI 60) n
  rotate_left
  · have gg : ¬ gLrn σ two c n g := fun z => c3 z.1.2
    rw [if_neg c3, if_neg gg]; exact ⟨_, rfl, ROk_scr R Q0⟩
  rw [if_pos c3, M_GI (lo := 0) (hi := 1000000000) _ g (by omega) (by omega) 0 1000000000 rfl rfl, Option.bind_some]
  dsimp only
  rw [g01]
  by_cases c4 : GI (nI 0) (nI 1000000000) g
  rotate_left
  · have gg : ¬ gLrn σ two c n g := fun z => c4 z.2
    rw [if_neg c4, if_neg gg]; exact ⟨_, rfl, ROk_scr R Q0⟩
  have gg : gLrn σ two c n g := ⟨⟨⟨c1, c2⟩, c3⟩, c4⟩
  rw [if_pos c4, if_pos gg]
  obtain ⟨a, b, ha, hb, hab, rfl⟩ := G2_n hP.1 c1
  obtain ⟨e, d, he, hd, rfl⟩ := GE_n hP.2 c2
  obtain ⟨N, _, N2, rfl⟩ := GI_n (by omega) (by omega) c3
  obtain ⟨G, _, G2', rfl⟩ := GI_n (by omega) (by omega) c4
  have O := RI_RO R0 (by omega)
  have hU := O.2.1
  rw [(dAB (by omega) (by omega)).1, (dAB (by omega) (by omega)).2, (dAB (a := e) (by omega) (by omega)).1, (dAB (a := e) (by omega) (by omega)).2, dN_n (by omega), dN_n (by omega)]
  have hA : sU σ (4 + (4 * a + 3)) ≤ 9 := by have := (hU.2.1 a ha).2.2.2; rw [show 4 + (4 * a + 3) = 7 + 4 * a by omega]; exact this
  have hB : sU σ (4 + (4 * b + 3)) ≤ 9 := by have := (hU.2.1 b hb).2.2.2; rw [show 4 + (4 * b + 3) = 7 + 4 * b by omega]; exact this
  have ca : (nI (4 * a + 3)).toNatClampNeg = 4 * a + 3 := nI_clamp (by omega)
  have cb : (nI (4 * b + 3)).toNatClampNeg = 4 * b + 3 := nI_clamp (by omega)
  generalize hh0 : eg_sI h 54 0 0 = h0 at *
  have inn : ∀ s, s ≤ 18 → ∀ k F g, k ≤ s + 1 → k < F → LG σ a b h0 g → ∃ g', fX13_learn_L108 F g 54 (nI (10 * a + b)) (nI (10 * e + d)) (nI N) (nI G) (nI (4 * a + 3)) (nI (4 * b + 3)) (nI (sU σ (4 + (4 * a + 3)))) (nI (sU σ (4 + (4 * b + 3)))) (-1) (nI s) (nI (s + 1 - k)) = some (54, nI (10 * a + b), nI (10 * e + d), nI N, nI G, nI (4 * a + 3), nI (4 * b + 3), nI (sU σ (4 + (4 * a + 3))), nI (sU σ (4 + (4 * b + 3))), (match lzI (okB σ a b e d N G) s k with
      | none => -1
      | some i => nI (10 * i + s - i)), nI s, g') ∧ LG σ a b h0 g' := by
    intro s hs18 k
    induction k with
    | zero =>
      intro F g hk hF L
      obtain ⟨F, rfl⟩ : ∃ F', F = F' + 1 := ⟨F - 1, by omega⟩
      exact ⟨g, by rw [fX13_learn_L108, if_pos (nI_lt (show s < s + 1 - 0 by omega) (by omega))]; rfl, L⟩
    | succ k ih =>
      intro F g hk hF L
      obtain ⟨F, rfl⟩ : ∃ F', F = F' + 1 := ⟨F - 1, by omega⟩
      have nx := ih F
      rw [show s + 1 - (k + 1) = s - k by omega]
      rw [show s + 1 - k = s - k + 1 by omega] at nx
      have hi : s - k ≤ s := by omega
      unfold lzI
      generalize s - k = i at *
      have e4 : nI (sU σ (4 + (4 * b + 3))) + nI s - nI i = nI (sU σ (4 + (4 * b + 3)) + s - i) := by rw [nI_add, nI_sb (by omega)]
      have ev : (10 : Int32) * nI i + nI s - nI i = nI (10 * i + s - i) := by rw [show (10 : Int32) = nI 10 from rfl, nI_kk, nI_add, nI_sb (by omega)]
      rw [fX13_learn_L108, if_neg (nI_nlt (by omega) (by omega)), if_pos rfl, nI_add, e4]
      by_cases k1 : sU σ (4 + (4 * a + 3)) + i ≤ 9
      rotate_left
      · have no : ¬ okB σ a b e d N G s i = true := fun z => k1 (of_decide_eq_true z).1.1
        rw [if_pos (show (9 : Int32) < nI _ from nI_lt (a := 9) (by omega) (by omega)), if_neg no, nI_1]
        exact nx g (by omega) (by omega) L
      rw [if_neg (show ¬ (9 : Int32) < nI _ from nI_nlt (a := 9) (by omega) (by omega))]
      by_cases k2 : sU σ (4 + (4 * b + 3)) + s - i ≤ 9
      rotate_left
      · have no : ¬ okB σ a b e d N G s i = true := fun z => k2 (of_decide_eq_true z).1.2
        rw [if_neg (show ¬ nI _ ≤ (9 : Int32) from nI_ge (a := 9) (by omega) (by omega)), if_neg no, nI_1]
        exact nx g (by omega) (by omega) L
      obtain ⟨g1, e1, L1, e59⟩ := M_try (h := h0) (N := N) hU ha hb hab he hd N2 k1 k2 L
      have sg : eg_stt g := by obtain ⟨_, _, _, _, O'⟩ := L; exact O'.1
      have s1 : eg_stt (eg_sI g 61 (4 * a + 3) (nI (sU σ (4 + (4 * a + 3)) + i))) := sg
      have s2 : eg_stt (eg_sI (eg_sI g 61 (4 * a + 3) (nI (sU σ (4 + (4 * a + 3)) + i))) 61 (4 * b + 3) (nI (sU σ (4 + (4 * b + 3)) + s - i))) := sg
      have hvl := vl_le (σ := σ) (a := a) (b := b) (e := e) (d := d) (x := sU σ (4 + (4 * a + 3)) + i) (y := sU σ (4 + (4 * b + 3)) + s - i) (k := N)
      rw [if_pos (show nI _ ≤ (9 : Int32) from nI_le (b := 9) k2 (by omega)), gR_54 sg, rf_54_20 sg, Option.bind_some, wI_61 sg (nI_pos (by omega)) (by rw [ca]; omega), ca, Option.bind_some, gR_54 s1, rf_54_20 s1, Option.bind_some, wI_61 s1 (nI_pos (by omega)) (by rw [cb]; omega), cb, Option.bind_some, gR_54 s2, rf_54_18 s2, Option.bind_some, e59, Option.bind_some, e1, Option.bind_some]
      dsimp only
      by_cases k3 : G ≤ vlL σ a b e d N (sU σ (4 + (4 * a + 3)) + i) (sU σ (4 + (4 * b + 3)) + s - i)
      · have yes : okB σ a b e d N G s i = true := decide_eq_true ⟨⟨k1, k2⟩, k3⟩
        rw [if_neg (nI_nlt k3 (by omega)), if_pos yes, ev, Option.bind_some, nI_1]
        obtain ⟨F, rfl⟩ : ∃ F', F = F' + 1 := ⟨F - 1, by omega⟩
        refine ⟨g1, ?_, L1⟩
        rw [fX13_learn_L108]
        by_cases w : nI s < nI (i + 1)
        · rw [if_pos w]
        · rw [if_neg w, if_neg (nI_nm1 (by omega))]
      · have no : ¬ okB σ a b e d N G s i = true := fun z => k3 (of_decide_eq_true z).2
        rw [if_pos (nI_lt (by omega) (by omega)), if_neg no, nI_1]
        exact nx g1 (by omega) (by omega) L1
  have out : ∀ k F g, k ≤ 19 → k < F → LG σ a b h0 g → ∃ g', fX13_learn_L92 F g 54 (nI (10 * a + b)) (nI (10 * e + d)) (nI N) (nI G) (nI (4 * a + 3)) (nI (4 * b + 3)) (nI (sU σ (4 + (4 * a + 3)))) (nI (sU σ (4 + (4 * b + 3)))) (-1) (nI (19 - k)) = some (54, nI (4 * a + 3), nI (4 * b + 3), nI (sU σ (4 + (4 * a + 3))), nI (sU σ (4 + (4 * b + 3))), rLrn (lzS (okB σ a b e d N G) k), g') ∧ LG σ a b h0 g' := by
    intro k
    induction k with
    | zero =>
      intro F g hk hF L
      obtain ⟨F, rfl⟩ : ∃ F', F = F' + 1 := ⟨F - 1, by omega⟩
      exact ⟨g, by rw [fX13_learn_L92, if_pos (by decide)]; rfl, L⟩
    | succ k ih =>
      intro F g hk hF L
      obtain ⟨F, rfl⟩ : ∃ F', F = F' + 1 := ⟨F - 1, by omega⟩
      have nx := ih F
      obtain ⟨g1, e1, L1⟩ := inn (18 - k) (by omega) (18 - k + 1) eg_F g (Nat.le_refl _) (by rw [eg_F_eq]; omega) L
      rw [Nat.sub_self] at e1
      have e1' : fX13_learn_L108 eg_F g 54 (nI (10 * a + b)) (nI (10 * e + d)) (nI N) (nI G) (nI (4 * a + 3)) (nI (4 * b + 3)) (nI (sU σ (4 + (4 * a + 3)))) (nI (sU σ (4 + (4 * b + 3)))) (-1) (nI (18 - k)) 0 = _ := e1
      rw [show 19 - (k + 1) = 18 - k by omega]
      rw [show 19 - k = 18 - k + 1 by omega] at nx
      rw [fX13_learn_L92, if_neg (show ¬ (18 : Int32) < nI _ from nI_nlt (a := 18) (by omega) (by omega)), if_pos rfl, e1', Option.bind_some]
      unfold lzS
      cases hr : lzI (okB σ a b e d N G) (18 - k) (18 - k + 1) with
      | none =>
        dsimp only
        rw [nI_1]
        exact nx g1 (by omega) (by omega) L1
      | some i =>
        have hile := lzI_le _ hr
        dsimp only
        obtain ⟨F, rfl⟩ : ∃ F', F = F' + 1 := ⟨F - 1, by omega⟩
        refine ⟨g1, ?_, L1⟩
        rw [nI_1, fX13_learn_L92]
        by_cases w : (18 : Int32) < nI (18 - k + 1)
        · rw [if_pos w]; rfl
        · rw [if_neg w, if_neg (nI_nm1 (by omega))]; rfl
  have LG0 : LG σ a b h0 h0 := ⟨eq_rfl, fun _ => ⟨⟨rfl, rfl⟩, fun _ _ => rfl⟩, _, _, by rw [upB_0]; exact O⟩
  obtain ⟨g1, e1, L1⟩ := out 19 eg_F h0 (Nat.le_refl _) (by rw [eg_F_eq]; omega) LG0
  have e1' : fX13_learn_L92 eg_F h0 54 (nI (10 * a + b)) (nI (10 * e + d)) (nI N) (nI G) (nI (4 * a + 3)) (nI (4 * b + 3)) (nI (sU σ (4 + (4 * a + 3)))) (nI (sU σ (4 + (4 * b + 3)))) (-1) 0 = _ := e1
  obtain ⟨E1, K1, xa, xb, O1⟩ := L1
  have s1 := O1.1
  let g2 := eg_sI g1 61 (4 * a + 3) (nI (sU σ (4 + (4 * a + 3))))
  let g3 := eg_sI g2 61 (4 * b + 3) (nI (sU σ (4 + (4 * b + 3))))
  have s2 : eg_stt g2 := s1
  have va : eg_I h0 61 (4 * a + 3) = nI (sU σ (4 + (4 * a + 3))) := O.2.2.1.2.1 (4 * a + 3) (by omega)
  have vb : eg_I h0 61 (4 * b + 3) = nI (sU σ (4 + (4 * b + 3))) := O.2.2.1.2.1 (4 * b + 3) (by omega)
  have Q3 : eg_eq Rx h0 g3 := by
    refine ⟨E1.1, fun p i hc => ?_⟩
    by_cases hp : p = 61
    · subst hp
      refine ⟨?_, (K1 i).1.1, (K1 i).1.2⟩
      show eg_I (eg_sI (eg_sI g1 61 (4 * a + 3) (nI (sU σ (4 + (4 * a + 3))))) 61 (4 * b + 3) (nI (sU σ (4 + (4 * b + 3))))) 61 i = _
      rw [I_sI, I_sI]
      by_cases z2 : i = 4 * b + 3
      · rw [if_pos ⟨rfl, z2⟩, z2, vb]
      · by_cases z1 : i = 4 * a + 3
        · rw [if_neg (fun w => z2 w.2), if_pos ⟨rfl, z1⟩, z1, va]
        · rw [if_neg (fun w => z2 w.2), if_neg (fun w => z1 w.2)]; exact (K1 i).2 z1 z2
    · obtain ⟨q1, q2, q3⟩ := E1.2 p i (cov_61 p i hc hp)
      refine ⟨?_, q2, q3⟩
      show eg_I (eg_sI (eg_sI g1 61 (4 * a + 3) (nI (sU σ (4 + (4 * a + 3))))) 61 (4 * b + 3) (nI (sU σ (4 + (4 * b + 3))))) p i = _
      rw [I_sI, if_neg (fun w => hp w.1), I_sI, if_neg (fun w => hp w.1)]; exact q1
  refine ⟨g3, ?_, ROk_scr R (eq_tr Q0 Q3)⟩
  rw [(i10 a b (by omega) (by omega)).1, (i10 a b (by omega) (by omega)).2, nI_k4, nI_k4, show (3 : Int32) = nI 3 from rfl, nI_add, nI_add, Option.bind_some, Option.bind_some, gR_54 s0, rf_54_20 s0, Option.bind_some, R_per O (by omega), Option.bind_some, Option.bind_some, R_per O (by omega), Option.bind_some, e1', Option.bind_some]
  dsimp only
  unfold fX13_learn_j217
  rw [gR_54 s1, rf_54_20 s1, Option.bind_some, wI_61 s1 (nI_pos (by omega)) (by rw [ca]; omega), ca, Option.bind_some]
  show ((eg_gR g2 13 20 54).bind _) = _
  rw [gR_54 s2, rf_54_20 s2, Option.bind_some, wI_61 s2 (nI_pos (by omega)) (by rw [cb]; omega), cb, Option.bind_some]
end LM
