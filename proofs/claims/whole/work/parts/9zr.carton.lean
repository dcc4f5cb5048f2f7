theorem od_n : ∀ s, s < 6 → ((nI s % 2 = 0) ↔ s % 2 = 0) := by decide +kernel
theorem d1_n : ∀ d, d ≤ 1 → (1 : Int32) - nI d = nI (1 - d) := by decide +kernel
theorem fOd_e {s a b : Nat} (h : s % 2 = 0) : fOd (s + 1) a b = a := by unfold fOd; rw [if_pos (by omega)]
theorem fOd_o {s a b : Nat} (h : ¬ s % 2 = 0) : fOd (s + 1) a b = b := by unfold fOd; rw [if_neg (by omega)]
section CM
variable {h h' : eg_H} {σ : eg_S}
def PMc (σ : eg_S) (N : Nat) (gd sl : Nat → Nat) (h g : eg_H) (b : Nat × Nat) : Prop := eg_eq Rx h g ∧ (∀ s c, s < N → c < sE σ → eg_I g 80 (6 * s + c) = nI (gd (6 * s + c)) ∧ eg_I g 81 s = nI (sl s)) ∧ eg_I g 54 60 = iI ((b.1 : Int) - 1) ∧ (¬ b.1 = 0 → eg_I g 54 59 = nI b.2) ∧ b.1 ≤ 1000000001
theorem M_goCar (R : RI h σ) {N : Nat} {gd sl : Nat → Nat} (hN : N ≤ 6) (hg : ∀ a c, c < sE σ → gd (6 * a + c) ≤ sl a) (h11 : ∀ a, 1 ≤ sl a ∧ sl a ≤ 11) : ∀ j, j ≤ N → ∀ n g m cd tot b, j < n → PMc σ N gd sl h g b → m < 64 → tot ≤ 1000000000 → ∃ g', fX13_goCarton n g 54 (nI (N - j)) (nI N) (nI m) (nI cd) (nI tot) = some g' ∧ PMc σ N gd sl h g' (plF N (sE σ) (shF 0 gd sl) j m cd tot b) := by
  have hE := (RI_P R).2
  have hsl := sh_le (md := 0) hg
  intro j
  induction j with
  | zero =>
    intro _ n g m cd tot b hn M hm ht
    obtain ⟨n, rfl⟩ : ∃ n', n = n' + 1 := ⟨n - 1, by omega⟩
    obtain ⟨Q, hr, h60, h59, hb1⟩ := id M
    have hs := (RI_scr R Q).1
    show ∃ g', fX13_goCartonB (fX13_goCarton n) g 54 (nI N) (nI N) (nI m) (nI cd) (nI tot) = some g' ∧ _
    unfold fX13_goCartonB plF
    rw [if_pos (iO_54 hs), if_pos rfl, gI_54 hs, Option.bind_some, h60]
    have hlt : (iI ((b.1 : Int) - 1) < nI tot) ↔ b.1 ≤ tot := by rw [← iI_n, iI_lt (by unfold i3; omega) (by unfold i3; omega)]; omega
    by_cases c : b.1 ≤ tot
    · rw [if_pos (hlt.mpr c), pI_54 hs, Option.bind_some, pI_54 (h := eg_sI g 54 59 (nI cd)) hs, Option.bind_some, if_pos c]
      refine ⟨_, rfl, eq_sI (eq_sI Q rfl) rfl, fun s c hs' hc => ?_, ?_, fun _ => ?_, by show tot + 1 ≤ _; omega⟩
      · rw [I_sI, if_neg (by omega), I_sI, if_neg (by omega), I_sI, if_neg (by omega), I_sI, if_neg (by omega)]; exact hr s c hs' hc
      · rw [I_sI, if_pos ⟨rfl, rfl⟩, ← iI_n]
        congr 1
        show (tot : Int) = ((tot + 1 : Nat) : Int) - 1
        omega
      · rw [I_sI, if_neg (by omega), I_sI, if_pos ⟨rfl, rfl⟩]
    · rw [if_neg (fun z => c (hlt.mp z)), if_neg c]
      exact ⟨g, rfl, M⟩
  | succ j ih =>
    intro hj n g m cd tot b hn M hm ht
    obtain ⟨n, rfl⟩ : ∃ n', n = n' + 1 := ⟨n - 1, by omega⟩
    have IH := ih (by omega) n
    show ∃ g', fX13_goCartonB (fX13_goCarton n) g 54 (nI (N - (j + 1))) (nI N) (nI m) (nI cd) (nI tot) = some g' ∧ _
    have loop : ∀ k, k ≤ sE σ → ∀ f g b, k < f → PMc σ N gd sl h g b → ∃ g', fX13_goCarton_L31 (fX13_goCarton n) f g 54 (nI (N - (j + 1))) (nI N) (nI m) (nI cd) (nI tot) (nI (sE σ - k)) = some g' ∧ PMc σ N gd sl h g' (lqF (plF N (sE σ) (shF 0 gd sl) j) (sE σ) (shF 0 gd sl (N - (j + 1)) cd tot) m cd k b) := by
      intro k
      induction k with
      | zero =>
        intro _ f g b hf M
        obtain ⟨f, rfl⟩ : ∃ f', f = f' + 1 := ⟨f - 1, by omega⟩
        have Rg := RI_scr R M.1
        exact ⟨g, by rw [fX13_goCarton_L31, gI_54 Rg.1, Option.bind_some, Rg.2.2.2.1.2.2.2.2, if_pos (nI_le (show sE σ ≤ sE σ - 0 by omega) (by omega))], M⟩
      | succ k ihk =>
        intro hk f g b hf' M
        obtain ⟨f, rfl⟩ : ∃ f', f = f' + 1 := ⟨f - 1, by omega⟩
        obtain ⟨Q, hr, h60, h59, hb1⟩ := id M
        have Rg := RI_scr R Q
        have hs := Rg.1
        unfold lqF
        generalize hc : sE σ - (k + 1) = c at *
        have hcE : c < sE σ := by omega
        rw [fX13_goCarton_L31, gI_54 hs, Option.bind_some, Rg.2.2.2.1.2.2.2.2, if_neg (nI_ge (by omega) (by omega)), M_hasb g hm (by omega), Option.bind_some]
        dsimp only
        rw [g01]
        by_cases z : m.testBit c = true
        · rw [if_pos z, if_pos z, nI_1, show c + 1 = sE σ - k by omega]
          exact ihk (by omega) f g b (by omega) M
        · rw [if_neg z, if_neg z]
          have hle := hsl (N - (j + 1)) cd tot c hcE
          obtain ⟨g1, e1, M1⟩ := IH g (m ||| 2 ^ c) (10 * cd + c) (shF 0 gd sl (N - (j + 1)) cd tot c) b (by omega) M (or_64 hm (by omega)) (by omega)
          obtain ⟨g2, e2, M2⟩ := ihk (by omega) f g1 _ (by omega) M1
          rw [show sE σ - k = c + 1 by omega] at e2
          rw [show N - j = N - (j + 1) + 1 by omega] at e1
          refine ⟨g2, ?_, M2⟩
          have es : shF 0 gd sl (N - (j + 1)) cd tot c = tot * gd (6 * (N - (j + 1)) + c) / sl (N - (j + 1)) := if_neg (fun w => by omega)
          generalize hst : N - (j + 1) = s at *
          obtain ⟨r1, r2⟩ := hr s c (by omega) hcE
          have hl := h11 s
          have hga := hg s c hcE
          obtain ⟨n0, ev⟩ := shr_n ht hga hl.1 hl.2
          have eo : nI m ||| ((1 : Int32) <<< (nI c &&& 31)) = nI (m ||| 2 ^ c) := by rw [shl1 c (by omega), nI_or]
          have ec : (10 : Int32) * nI cd + nI c = nI (10 * cd + c) := by rw [show (10 : Int32) = nI 10 from rfl, nI_kk, nI_add]
          have e6 : (6 : Int32) * nI s + nI c = nI (6 * s + c) := by rw [show (6 : Int32) = nI 6 from rfl, nI_kk, nI_add]
          have c1 : (nI s).toNatClampNeg = s := nI_clamp (by omega)
          have c2 : (nI (6 * s + c)).toNatClampNeg = 6 * s + c := nI_clamp (by omega)
          rw [gR_54 hs, rf_54_57 hs, Option.bind_some, e6, aI_80 hs (nI_pos (by omega)) (by rw [c2]; omega), c2, Option.bind_some, r1, gR_54 hs, rf_54_58 hs, Option.bind_some, aI_81 hs (nI_pos (by omega)) (by rw [c1]; omega), c1, Option.bind_some, r2, if_neg n0, if_pos (iO_54 hs), nI_1, eo, ec, ev, ← es, e1, Option.bind_some, nI_1]
          exact e2
    obtain ⟨Q, hr, h60, h59, hb1⟩ := id M
    have hs := (RI_scr R Q).1
    unfold fX13_goCartonB
    obtain ⟨g1, e1, M1⟩ := loop (sE σ) (Nat.le_refl _) eg_F g b (by rw [eg_F_eq]; omega) M
    rw [Nat.sub_self] at e1
    have e1' : fX13_goCarton_L31 (fX13_goCarton n) eg_F g 54 (nI (N - (j + 1))) (nI N) (nI m) (nI cd) (nI tot) 0 = some g1 := e1
    refine ⟨g1, ?_, M1⟩
    rw [if_pos (iO_54 hs), if_neg (fun w => by have q := congrArg dN w; rw [dN_n (by omega), dN_n (by omega)] at q; omega), e1', Option.bind_some]
def Tc (σ : eg_S) (N a b d : Nat) (g : eg_H) (z p : Nat) : Prop := (∀ s c, c < sE σ → 6 * s + c < z → s < N → eg_I g 80 (6 * s + c) = nI (gdC σ N a b d (6 * s + c))) ∧ ∀ s, s < p → s < N → eg_I g 81 s = nI (slC σ N a b s)
theorem M_ca162 (R : RI h σ) {N a b d s : Nat} {k l1 l3 : Int32} (ha : a < sP σ) (hb : b < sP σ) (hd : d ≤ 1) (hs : s < N) (hN : N ≤ 6) (hy : sU σ 3 + s * sU σ 2 ≤ 60) : ∀ j c g F, c + j = sE σ → j < F → eg_eq Rx h g → Tc σ N a b d g (6 * s + c) (s + 1) → ∃ g', fX13_carton_L162 F g 54 l1 (nI d) l3 k (nI s) (nI (sU σ 3 + s * sU σ 2)) (nI (fOd (s + 1) a b)) (nI (fOd (s + 1) b a)) (nI c) = some (54, l1, nI d, l3, k, nI s, g') ∧ eg_eq Rx h g' ∧ Tc σ N a b d g' (6 * s + sE σ) (s + 1) := by
  have hP := RI_P R
  intro j
  induction j with
  | zero =>
    intro c g F hi hF Q H
    obtain ⟨F, rfl⟩ : ∃ F', F = F' + 1 := ⟨F - 1, by omega⟩
    have Rg := RI_scr R Q
    obtain rfl : c = sE σ := by omega
    exact ⟨g, by rw [fX13_carton_L162, gI_54 Rg.1, Option.bind_some, Rg.2.2.2.1.2.2.2.2, if_pos (nI_le (Nat.le_refl _) (by omega))], Q, H⟩
  | succ j ih =>
    intro c g F hi hF Q H
    obtain ⟨F, rfl⟩ : ∃ F', F = F' + 1 := ⟨F - 1, by omega⟩
    have Rg := RI_scr R Q
    have sg := Rg.1
    have O := RI_RO Rg (by omega)
    have fa : fOd (s + 1) a b < sP σ := fOd_P ha hb
    have fb : fOd (s + 1) b a < sP σ := fOd_P hb ha
    have fd : fOd (s + 1) d (1 - d) ≤ 1 := fOd_1 hd
    obtain ⟨g1, e1, E1, _, _, b3⟩ := M_best O fa fb (show c < sE σ by omega) fd (y := sU σ 3 + s * sU σ 2) hy
    have Q1 : eg_eq Rx h g1 := eq_tr Q (SB_x E1)
    have s1 := (RI_scr R Q1).1
    have eg : bgd (sL σ) (tOf (sU σ) (sU σ 0) (fOd (s + 1) a b) (fOd (s + 1) b a) c (fOd (s + 1) d (1 - d))) (sU σ 3 + s * sU σ 2) = gdC σ N a b d (6 * s + c) := by
      unfold gdC
      rw [show (6 * s + c) / 6 = s by omega, show (6 * s + c) % 6 = c by omega, if_pos hs]
    rw [eg] at b3
    have e6 : (6 : Int32) * nI s + nI c = nI (6 * s + c) := by rw [show (6 : Int32) = nI 6 from rfl, nI_kk, nI_add]
    have hcl : (nI (6 * s + c)).toNatClampNeg = 6 * s + c := nI_clamp (by omega)
    have hcs : (nI s).toNatClampNeg = s := nI_clamp (by omega)
    have H2 : Tc σ N a b d (eg_sI g1 80 (6 * s + c) (nI (gdC σ N a b d (6 * s + c)))) (6 * s + (c + 1)) (s + 1) := ⟨fun s' c' hc' hlt hs' => by
      rw [I_sI]
      by_cases w : 6 * s' + c' = 6 * s + c
      · rw [if_pos ⟨rfl, w⟩, w]
      · rw [if_neg (fun z => w z.2), (E1.2 80 _ rfl).1]; exact H.1 s' c' hc' (by omega) hs', fun s' h1 h2 => by
      rw [I_sI, if_neg (by omega), (E1.2 81 _ rfl).1]; exact H.2 s' h1 h2⟩
    obtain ⟨g2, e2, Q2, H3⟩ := ih (c + 1) _ F (by omega) (by omega) (eq_sI Q1 rfl) H2
    refine ⟨g2, ?_, Q2, H3⟩
    have ec : ∀ x, (10 : Int32) * nI c + nI x = nI (10 * c + x) := fun x => by rw [show (10 : Int32) = nI 10 from rfl, nI_kk, nI_add]
    have tail : ∀ (x : Int32), (10 : Int32) * nI c + x = nI (10 * c + fOd (s + 1) d (1 - d)) → fX13_carton_j195 (fX13_carton_L162 F) g 54 l1 (nI d) l3 k (nI s) (nI (sU σ 3 + s * sU σ 2)) (nI (fOd (s + 1) a b)) (nI (fOd (s + 1) b a)) (nI c) 54 (nI (fOd (s + 1) a b)) (nI (fOd (s + 1) b a)) ((10 : Int32) * nI c) x = some (54, l1, nI d, l3, k, nI s, g2) := fun x hx => by
      unfold fX13_carton_j195
      rw [hx, e1, Option.bind_some, gR_54 s1, rf_54_57 s1, Option.bind_some, gI_54 s1, Option.bind_some, b3, e6, wI_80 s1 (nI_pos (by omega)) (by rw [hcl]; omega), hcl, Option.bind_some, nI_1]
      exact e2
    rw [fX13_carton_L162, gI_54 sg, Option.bind_some, Rg.2.2.2.1.2.2.2.2, if_neg (nI_ge (by omega) (by omega))]
    by_cases q : s % 2 = 0
    · rw [if_pos ((od_n s (by omega)).mpr q)]
      exact tail _ (by rw [ec, fOd_e q])
    · rw [if_neg (fun w => q ((od_n s (by omega)).mp w)), d1_n d hd]
      exact tail _ (by rw [ec, fOd_o q])
theorem M_carton (R : RI h σ) (two d n k : Int32) : ∃ h', fX13_carton h 54 two d n k = some (aCar σ two d n k, h') ∧ ROk h h' σ := by
  obtain ⟨R0, Q0⟩ := R_0 R
  have hs := R.1
  have s0 := R0.1
  have hP := RI_P R
  unfold fX13_carton aCar
  rw [if_pos (iO_54 hs), pI_54 hs, Option.bind_some, M_isTwo s0 R0.2.2.2.1 two, Option.bind_some]
  dsimp only
  rw [g01]
  by_cases c1 : G2 (sP σ) two
  rotate_left
  · have gg : ¬ gCar σ two d n k := fun z => c1 z.1.1.1.1
    rw [if_neg c1, if_neg gg]; exact ⟨_, rfl, ROk_scr R Q0⟩
  rw [if_pos c1, M_GI (lo := 0) (hi := 1) _ d (by omega) (by omega) 0 1 rfl rfl, Option.bind_some]
  dsimp only
  rw [g01]
  by_cases c2 : GI (nI 0) (nI 1) d
  rotate_left
  · have gg : ¬ gCar σ two d n k := fun z => c2 z.1.1.1.2
    rw [if_neg c2, if_neg gg]; exact ⟨_, rfl, ROk_scr R Q0⟩
  rw [if_pos c2, gI_54 s0, Option.bind_some, R0.2.2.2.1.2.2.2.2, M_GIi _ n (nI 1) (nI (sE σ)) 1 (nI (sE σ)).toInt64 rfl rfl, Option.bind_some]
  dsimp only
  rw [g01]
  by_cases c3 : GI (nI 1) (nI (sE σ)) n
  rotate_left
  · have gg : ¬ gCar σ two d n k := fun z => c3 z.1.1.2
    rw [if_neg c3, if_neg gg]; exact ⟨_, rfl, ROk_scr R Q0⟩
  rw [if_pos c3, M_GI (lo := 0) (hi := 1) _ k (by omega) (by omega) 0 1 rfl rfl, Option.bind_some]
  dsimp only
  rw [g01]
  by_cases c5 : GI (nI 0) (nI 1) k
  rotate_left
  · have gg : ¬ gCar σ two d n k := fun z => c5 z.1.2
    rw [if_neg c5, if_neg gg]; exact ⟨_, rfl, ROk_scr R Q0⟩
  obtain ⟨a, b, ha, hb, hab, rfl⟩ := G2_n hP.1 c1
  obtain ⟨d', _, d2, rfl⟩ := GI_n (by omega) (by omega) c2
  obtain ⟨N, N1, N2, rfl⟩ := GI_n (lo := 1) (hi := sE σ) (x := n) (by omega) (by omega) c3
  have O := RI_RO R0 (by omega)
  have hU := O.2.1
  have u2 := hU.1.2.2.2.2.2.1
  have u3 := hU.1.2.2.2.2.2.2.2
  have hmul : (N - 1) * sU σ 2 ≤ 5 * 9 := Nat.mul_le_mul (by omega) u2
  have e2 : eg_aI (eg_sI h 54 0 0) 100 59 2 = some (nI (sU σ 2)) := R_mea O (x := 2) (by omega)
  have e3 : eg_aI (eg_sI h 54 0 0) 100 59 3 = some (nI (sU σ 3)) := R_mea O (x := 3) (by omega)
  have en : nI N - 1 = nI (N - 1) := by
    have := nI_m1 (N - 1)
    rw [show N - 1 + 1 = N by omega] at this
    exact this
  rw [if_pos c5, gR_54 s0, rf_54_18 s0, Option.bind_some, e3, Option.bind_some, Option.bind_some, e2, Option.bind_some, en, nI_kk, nI_add]
  by_cases c6 : sU σ 3 + (N - 1) * sU σ 2 ≤ 60
  rotate_left
  · have gg : ¬ gCar σ (nI (10 * a + b)) (nI d') (nI N) k := fun z => c6 (by have := z.2; rw [dN_n (by omega)] at this; exact this)
    rw [if_neg (show ¬ nI (sU σ 3 + (N - 1) * sU σ 2) ≤ (60 : Int32) from nI_ge (a := 60) (by omega) (by omega)), if_neg gg]; exact ⟨_, rfl, ROk_scr R Q0⟩
  have gg : gCar σ (nI (10 * a + b)) (nI d') (nI N) k := ⟨⟨⟨⟨c1, c2⟩, c3⟩, c5⟩, by rw [dN_n (by omega)]; exact c6⟩
  rw [if_pos (show nI (sU σ 3 + (N - 1) * sU σ 2) ≤ (60 : Int32) from nI_le (b := 60) c6 (by omega)), if_pos gg, dN_n (by omega), dN_n (by omega), (dAB (by omega) (by omega)).1, (dAB (by omega) (by omega)).2]
  have key : ∀ j s g F, s + j = N → j < F → eg_eq Rx (eg_sI h 54 0 0) g → Tc σ N a b d' g (6 * s) s → ∃ g', fX13_carton_L75 F g 54 (nI (10 * a + b)) (nI d') (nI N) k (nI s) = some (54, nI N, k, g') ∧ eg_eq Rx (eg_sI h 54 0 0) g' ∧ Tc σ N a b d' g' (6 * N) N := by
    intro j
    induction j with
    | zero =>
      intro s g F hi hF Q H
      obtain ⟨F, rfl⟩ : ∃ F', F = F' + 1 := ⟨F - 1, by omega⟩
      obtain rfl : s = N := by omega
      exact ⟨g, by rw [fX13_carton_L75, if_pos (nI_le (Nat.le_refl _) (by omega))], Q, H⟩
    | succ j ih =>
      intro s g F hi hF Q H
      obtain ⟨F, rfl⟩ : ∃ F', F = F' + 1 := ⟨F - 1, by omega⟩
      have Rg := RI_scr R0 Q
      have sg := Rg.1
      have Og := RI_RO Rg (by omega)
      have hsm : s * sU σ 2 ≤ (N - 1) * sU σ 2 := Nat.mul_le_mul_right _ (by omega)
      have fa : fOd (s + 1) a b < sP σ := fOd_P ha hb
      have g2' : eg_aI g 100 59 2 = some (nI (sU σ 2)) := R_mea Og (x := 2) (by omega)
      have g3' : eg_aI g 100 59 3 = some (nI (sU σ 3)) := R_mea Og (x := 3) (by omega)
      have hcs : (nI s).toNatClampNeg = s := nI_clamp (by omega)
      have es : 2 * sU σ (4 + 4 * fOd (s + 1) a b) + 1 = slC σ N a b s := (if_pos (by omega)).symm
      obtain ⟨g1, e1, Q1, H1⟩ := M_ca162 R0 (k := k) (l1 := nI (10 * a + b)) (l3 := nI N) ha hb d2 (show s < N by omega) (by omega) (by omega) (sE σ) 0 (eg_sI g 81 s (nI (slC σ N a b s))) eg_F (by omega) (by rw [eg_F_eq]; omega) (eq_sI Q rfl) ⟨fun s' c' hc' hlt hs' => by
        rw [I_sI, if_neg (by omega)]; exact H.1 s' c' hc' (by omega) hs', fun s' h1 h2 => by
        rw [I_sI]
        by_cases w : s' = s
        · rw [if_pos ⟨rfl, w⟩, w]
        · rw [if_neg (fun z => w z.2)]; exact H.2 s' (by omega) h2⟩
      have e1' : fX13_carton_L162 eg_F (eg_sI g 81 s (nI (slC σ N a b s))) 54 (nI (10 * a + b)) (nI d') (nI N) k (nI s) (nI (sU σ 3 + s * sU σ 2)) (nI (fOd (s + 1) a b)) (nI (fOd (s + 1) b a)) 0 = some (54, nI (10 * a + b), nI d', nI N, k, nI s, g1) := e1
      obtain ⟨g2, e2', Q2, H2⟩ := ih (s + 1) g1 F (by omega) (by omega) Q1 ⟨fun s' c' hc' hlt hs' => H1.1 s' c' hc' (by omega) hs', H1.2⟩
      refine ⟨g2, ?_, Q2, H2⟩
      have j137 : fX13_carton_j137 (fX13_carton_L75 F) g 54 (nI (10 * a + b)) (nI d') (nI N) k (nI s) (nI (sU σ 3 + s * sU σ 2)) (nI (fOd (s + 1) a b)) (nI (fOd (s + 1) b a)) = some (54, nI N, k, g2) := by
        unfold fX13_carton_j137
        rw [gR_54 sg, rf_54_58 sg, Option.bind_some, gR_54 sg, rf_54_20 sg, Option.bind_some, nI_k4, R_per Og (by omega), Option.bind_some, nI_k2, nI_1, es, wI_81 sg (nI_pos (by omega)) (by rw [hcs]; omega), hcs, Option.bind_some, e1', Option.bind_some]
        dsimp only
        rw [nI_1]
        exact e2'
      rw [fX13_carton_L75, if_neg (nI_ge (by omega) (by omega)), gR_54 sg, rf_54_18 sg, Option.bind_some, g3', Option.bind_some, Option.bind_some, g2', Option.bind_some, nI_kk, nI_add, Option.bind_some, (i10 a b (by omega) (by omega)).1, (i10 a b (by omega) (by omega)).2]
      unfold fX13_carton_j117
      rw [(i10 a b (by omega) (by omega)).1, (i10 a b (by omega) (by omega)).2]
      by_cases q : s % 2 = 0
      · rw [fOd_e q, fOd_e q] at j137
        rw [if_pos ((od_n s (by omega)).mpr q), if_pos ((od_n s (by omega)).mpr q)]
        exact j137
      · rw [fOd_o q, fOd_o q] at j137
        rw [if_neg (fun w => q ((od_n s (by omega)).mp w)), if_neg (fun w => q ((od_n s (by omega)).mp w))]
        exact j137
  obtain ⟨g1, e1, Q1, H1⟩ := key N 0 (eg_sI h 54 0 0) eg_F (by omega) (by rw [eg_F_eq]; omega) eq_rfl ⟨fun s c hc hlt hs => by omega, fun s h1 h2 => by omega⟩
  have e1' : fX13_carton_L75 eg_F (eg_sI h 54 0 0) 54 (nI (10 * a + b)) (nI d') (nI N) k 0 = some (54, nI N, k, g1) := e1
  have s1 := (RI_scr R0 Q1).1
  let g2 := eg_sI g1 54 60 (-1)
  have M2 : PMc σ N (gdC σ N a b d') (slC σ N a b) (eg_sI h 54 0 0) g2 (0, 0) := ⟨eq_sI Q1 rfl, fun s c hs' hc => by
    show eg_I (eg_sI g1 54 60 (-1)) 80 (6 * s + c) = _ ∧ eg_I (eg_sI g1 54 60 (-1)) 81 s = _
    rw [I_sI, if_neg (by omega), I_sI, if_neg (by omega)]
    exact ⟨H1.1 s c hc (by omega) hs', H1.2 s hs' hs'⟩, by rw [I_sI, if_pos ⟨rfl, rfl⟩]; rfl, fun z => absurd rfl z, by show 0 ≤ 1000000001; omega⟩
  obtain ⟨g3, e3', M3⟩ := M_goCar R0 (by omega) (gdC_le hP.2) (slC_11 R.2.1 ha hb) N (Nat.le_refl _) eg_D g2 0 0 1000000000 (0, 0) (by show N < 64; omega) M2 (by omega) (by omega)
  rw [Nat.sub_self] at e3'
  have e3'' : fX13_goCarton eg_D g2 54 0 (nI N) 0 0 1000000000 = some g3 := e3'
  obtain ⟨Q3, _, v60, v59, _⟩ := M3
  have s3 := (RI_scr R0 Q3).1
  have pos : ¬ (bsC σ N a b d').1 = 0 := by
    have := pl_pos (N := N) (K := sE σ) (sh := shF 0 (gdC σ N a b d') (slC σ N a b)) N 0 0 1000000000 (0, 0) (by rw [fr6_0 _ hP.2]; exact N2)
    unfold bsC
    omega
  rw [e1', Option.bind_some]
  dsimp only
  rw [pI_54 s1, Option.bind_some]
  show ∃ h', ((fX13_goCarton eg_D g2 54 0 (nI N) 0 0 1000000000).bind _) = _ ∧ _
  rw [e3'', Option.bind_some]
  by_cases c7 : k = 0
  · rw [if_pos c7, if_pos c7, gI_54 s3, Option.bind_some, v59 pos]
    exact ⟨g3, rfl, ROk_scr R (eq_tr Q0 Q3)⟩
  · rw [if_neg c7, if_neg c7, gI_54 s3, Option.bind_some, v60]
    exact ⟨g3, rfl, ROk_scr R (eq_tr Q0 Q3)⟩
end CM
