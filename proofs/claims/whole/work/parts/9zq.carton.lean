def gdC (σ : eg_S) (N a b d z : Nat) : Nat := if z / 6 < N then bgd (sL σ) (tOf (sU σ) (sU σ 0) (fOd (z / 6 + 1) a b) (fOd (z / 6 + 1) b a) (z % 6) (fOd (z / 6 + 1) d (1 - d))) (sU σ 3 + z / 6 * sU σ 2) else 0
def slC (σ : eg_S) (N a b s : Nat) : Nat := if s < N then 2 * sU σ (4 + 4 * fOd (s + 1) a b) + 1 else 1
abbrev gCar (σ : eg_S) (two d n k : Int32) : Prop := (((G2 (sP σ) two ∧ GI (nI 0) (nI 1) d) ∧ GI (nI 1) (nI (sE σ)) n) ∧ GI (nI 0) (nI 1) k) ∧ sU σ 3 + (dN n - 1) * sU σ 2 ≤ 60
def bsC (σ : eg_S) (N a b d : Nat) : Nat × Nat := plF N (sE σ) (shF 0 (gdC σ N a b d) (slC σ N a b)) N 0 0 1000000000 (0, 0)
def aCar (σ : eg_S) (two d n k : Int32) : Int32 := if gCar σ two d n k then (if k = 0 then nI (bsC σ (dN n) (dA two) (dB two) (dN d)).2 else iI (((bsC σ (dN n) (dA two) (dB two) (dN d)).1 : Int) - 1)) else -1
theorem fOd_P {k a b P : Nat} (ha : a < P) (hb : b < P) : fOd k a b < P := by unfold fOd; split <;> assumption
theorem fOd_1 {k d : Nat} (hd : d ≤ 1) : fOd k d (1 - d) ≤ 1 := by unfold fOd; split <;> omega
section CA
variable {h h' : eg_H} {σ : eg_S} {B : Nat × Nat}
theorem gdC_le {N a b d : Nat} (hE : sE σ ≤ 6) (s c : Nat) (hc : c < sE σ) : gdC σ N a b d (6 * s + c) ≤ slC σ N a b s := by
  unfold gdC slC
  rw [show (6 * s + c) / 6 = s by omega, show (6 * s + c) % 6 = c by omega]
  by_cases z : s < N
  · rw [if_pos z, if_pos z]; exact bgd_sl _ _
  · rw [if_neg z, if_neg z]; exact Nat.zero_le _
theorem slC_11 {N a b : Nat} (W : Wσ σ) (ha : a < sP σ) (hb : b < sP σ) (s : Nat) : 1 ≤ slC σ N a b s ∧ slC σ N a b s ≤ 11 := by
  unfold slC
  by_cases z : s < N
  · have := ((W.2.1.2.2.2 (by omega)).2.2.2.1 _ (fOd_P (k := s + 1) ha hb)).1
    rw [if_pos z]; omega
  · rw [if_neg z]; omega
theorem X_ca91 (X : XI h σ B) {N a b d s : Nat} {k l3 : Int32} (ha : a < sP σ) (hb : b < sP σ) (hd : d ≤ 1) (hs : s < N) (hN : N ≤ 6) (hy : sU σ 3 + s * sU σ 2 ≤ 60) : ∀ j c g F, c + j = sE σ → j < F → XOk h g σ B → Tg (gdC σ N a b d) (slC σ N a b) (sE σ) (fun s _ => s < N) g (6 * s + c) → ∃ g', fX12_carton_L91 F g 16 (nI (10 * a + b)) (nI d) l3 k (nI (sU σ 2)) (nI (s + 1)) (nI (10 * fOd (s + 1) a b + fOd (s + 1) b a)) (nI c) = some (16, nI (10 * a + b), nI d, l3, k, nI (sU σ 2), nI (s + 1), g') ∧ XOk h g' σ B ∧ Tg (gdC σ N a b d) (slC σ N a b) (sE σ) (fun s _ => s < N) g' (6 * s + sE σ) := by
  have hP := XI_P X
  intro j
  induction j with
  | zero =>
    intro c g F hi hF O H
    obtain ⟨F, rfl⟩ : ∃ F', F = F' + 1 := ⟨F - 1, by omega⟩
    have C := O.1.2.2.1
    obtain rfl : c = sE σ := by omega
    refine ⟨g, ?_, O, H⟩
    rw [fX12_carton_L91, gR_16 C.1, rf_16_3 C.1, Option.bind_some, X_eggs O.1, Option.bind_some]
    dsimp only
    rw [if_pos (nI_le (Nat.le_refl _) (by omega))]
  | succ j ih =>
    intro c g F hi hF O H
    obtain ⟨F, rfl⟩ : ∃ F', F = F' + 1 := ⟨F - 1, by omega⟩
    have Xg := O.1
    have C := Xg.2.2.1
    have sg := C.1
    have hU := XI_U Xg (by omega)
    have fa : fOd (s + 1) a b < sP σ := fOd_P ha hb
    have fb : fOd (s + 1) b a < sP σ := fOd_P hb ha
    have fd : fOd (s + 1) d (1 - d) ≤ 1 := fOd_1 hd
    obtain ⟨g1, r1, e1, hgd, O1, G1'⟩ := X_good1 Xg fa fb (show c < sE σ by omega) (y := sU σ 3 + s * sU σ 2) hy (d := fOd (s + 1) d (1 - d)) fd
    have s1 := O1.1.2.2.1.1
    have C1 := O1.1.2.2.1
    have e0 : fX7_told g 23 0 = some (nI (sU σ 0), g) := X_told sg C.2.1 (x := 0) (by omega)
    have ep : (10 : Int32) * nI c + nI d = nI (10 * c + d) := by rw [show (10 : Int32) = nI 10 from rfl, nI_kk, nI_add]
    have ey := X_yards sg C.2.1 (k := s + 1) (s := sU σ 2) (by omega)
    rw [show s + 1 - 1 = s by omega] at ey
    have eg : bgd (sL σ) (tOf (sU σ) (sU σ 0) (fOd (s + 1) a b) (fOd (s + 1) b a) c (fOd (s + 1) d (1 - d))) (sU σ 3 + s * sU σ 2) = gdC σ N a b d (6 * s + c) := by
      unfold gdC
      rw [show (6 * s + c) / 6 = s by omega, show (6 * s + c) % 6 = c by omega, if_pos hs]
    have es : 2 * sU σ (4 + 4 * fOd (s + 1) a b) + 1 = slC σ N a b s := (if_pos hs).symm
    have O2 := XOk_low O1.1 (S := [(51, none), (52, none)]) (eq_sI (p := 52) (i := s) (x := nI (slC σ N a b s)) (eq_sI (p := 51) (i := 6 * s + c) (x := nI (gdC σ N a b d (6 * s + c))) eq_rfl rfl) rfl) (by decide) (by decide) ⟨rfl, rfl, rfl, rfl, fun _ => ⟨rfl, rfl⟩⟩ (by decide)
    rw [fX12_carton_L91, gR_16 sg, rf_16_3 sg, Option.bind_some, X_eggs Xg, Option.bind_some]
    dsimp only
    rw [if_neg (nI_ge (by omega) (by omega)), ep, X_endOf g (by omega) (by omega) hd, Option.bind_some]
    dsimp only
    rw [gR_16 sg, rf_16_16 sg, Option.bind_some, gR_16 sg, rf_16_3 sg, Option.bind_some, ey, Option.bind_some]
    dsimp only
    rw [gR_16 sg, rf_16_3 sg, Option.bind_some, e0, Option.bind_some]
    dsimp only
    rw [e1, Option.bind_some]
    dsimp only
    rw [gR_16 s1, rf_16_18 s1, Option.bind_some, hgd g1, Option.bind_some]
    dsimp only
    rw [gR_16 s1, rf_16_3 s1, Option.bind_some, (i10 _ _ (by omega) (by omega)).1, X_slips s1 C1.2.1 hU fa, Option.bind_some]
    dsimp only
    rw [nI_m1, X_keepG s1 (by omega) (by omega), Option.bind_some, nI_1, eg, es]
    refine ih (c + 1) _ F (by omega) (by omega) (XOk_tr O (XOk_tr O1 O2)) ?_
    refine Tg_up hP.2 (by omega) (fun a' c' hc' hlt ho => ?_)
    rw [(G1'.2.1 51 _ (by omega) rfl).1, (G1'.2.1 52 _ (by omega) rfl).1]
    exact H a' c' hc' hlt ho
theorem X_carton (X : XI h σ B) (two d n k : Int32) : ∃ h', fX12_carton h 16 two d n k = some (aCar σ two d n k, h') ∧ XOk h h' σ B := by
  have C := X.2.2.1
  have hs := C.1
  have hP := XI_P X
  unfold fX12_carton aCar
  rw [if_pos (iO_16 hs), gR_16 hs, rf_16_3 hs, Option.bind_some, X_isPair hs C.2.1 two, Option.bind_some]
  dsimp only
  rw [g01]
  by_cases c1 : G2 (sP σ) two
  rotate_left
  · have gg : ¬ gCar σ two d n k := fun z => c1 z.1.1.1.1
    rw [if_neg c1, if_neg gg]; exact ⟨h, rfl, XOk_rfl X⟩
  rw [if_pos c1, X_isEnd, Option.bind_some]
  dsimp only
  rw [g01]
  by_cases c2 : GI (nI 0) (nI 1) d
  rotate_left
  · have gg : ¬ gCar σ two d n k := fun z => c2 z.1.1.1.2
    rw [if_neg c2, if_neg gg]; exact ⟨h, rfl, XOk_rfl X⟩
  rw [if_pos c2]
  by_cases c3 : n < 1
  · have gg : ¬ gCar σ two d n k := fun z => z.1.1.2.1 c3
    rw [if_pos c3, if_neg gg]; exact ⟨h, rfl, XOk_rfl X⟩
  rw [if_neg c3, gR_16 hs, rf_16_3 hs, Option.bind_some, X_eggs X, Option.bind_some]
  dsimp only
  by_cases c4 : nI (sE σ) < n
  · have gg : ¬ gCar σ two d n k := fun z => z.1.1.2.2 c4
    rw [if_pos c4, if_neg gg]; exact ⟨h, rfl, XOk_rfl X⟩
  rw [if_neg c4, X_isEither, Option.bind_some]
  dsimp only
  rw [g01]
  by_cases c5 : GI (nI 0) (nI 1) k
  rotate_left
  · have gg : ¬ gCar σ two d n k := fun z => c5 z.1.2
    rw [if_neg c5, if_neg gg]; exact ⟨h, rfl, XOk_rfl X⟩
  obtain ⟨a, b, ha, hb, hab, rfl⟩ := G2_n hP.1 c1
  obtain ⟨d', _, d2, rfl⟩ := GI_n (by omega) (by omega) c2
  obtain ⟨N, N1, N2, rfl⟩ := GI_n (lo := 1) (hi := sE σ) (x := n) (by omega) (by omega) ⟨c3, c4⟩
  have hU := XI_U X (by omega)
  have e2 : fX7_told h 23 2 = some (nI (sU σ 2), h) := X_told hs C.2.1 (x := 2) (by omega)
  have u2 := hU.1.2.2.2.2.2.1
  have u3 := hU.1.2.2.2.2.2.2.2
  have hmul : (N - 1) * sU σ 2 ≤ 5 * 9 := Nat.mul_le_mul (by omega) u2
  rw [if_pos c5, gR_16 hs, rf_16_3 hs, Option.bind_some, e2, Option.bind_some]
  dsimp only
  rw [gR_16 hs, rf_16_3 hs, Option.bind_some, X_yards hs C.2.1 (by omega), Option.bind_some]
  dsimp only
  by_cases c6 : sU σ 3 + (N - 1) * sU σ 2 ≤ 60
  rotate_left
  · have gg : ¬ gCar σ (nI (10 * a + b)) (nI d') (nI N) k := fun z => c6 (by have := z.2; rw [dN_n (by omega)] at this; exact this)
    rw [if_neg (show ¬ nI (sU σ 3 + (N - 1) * sU σ 2) ≤ (60 : Int32) from nI_ge (a := 60) (by omega) (by omega)), if_neg gg]; exact ⟨h, rfl, XOk_rfl X⟩
  have gg : gCar σ (nI (10 * a + b)) (nI d') (nI N) k := ⟨⟨⟨⟨c1, c2⟩, c3, c4⟩, c5⟩, by rw [dN_n (by omega)]; exact c6⟩
  rw [if_pos (show nI (sU σ 3 + (N - 1) * sU σ 2) ≤ (60 : Int32) from nI_le (b := 60) c6 (by omega)), if_pos gg, dN_n (by omega), dN_n (by omega), (dAB (by omega) (by omega)).1, (dAB (by omega) (by omega)).2]
  have key : ∀ j s g F, s + j = N → j < F → XOk h g σ B → Tg (gdC σ N a b d') (slC σ N a b) (sE σ) (fun s _ => s < N) g (6 * s) → ∃ g', fX12_carton_L74 F g 16 (nI (10 * a + b)) (nI d') (nI N) k (nI (sU σ 2)) (nI (s + 1)) = some (16, nI N, k, g') ∧ XOk h g' σ B ∧ Tg (gdC σ N a b d') (slC σ N a b) (sE σ) (fun s _ => s < N) g' (6 * N) := by
    intro j
    induction j with
    | zero =>
      intro s g F hi hF O H
      obtain ⟨F, rfl⟩ : ∃ F', F = F' + 1 := ⟨F - 1, by omega⟩
      obtain rfl : s = N := by omega
      exact ⟨g, by rw [fX12_carton_L74, if_pos (nI_lt (by omega) (by omega))], O, H⟩
    | succ j ih =>
      intro s g F hi hF O H
      obtain ⟨F, rfl⟩ : ∃ F', F = F' + 1 := ⟨F - 1, by omega⟩
      have hsm : s * sU σ 2 ≤ (N - 1) * sU σ 2 := Nat.mul_le_mul_right _ (by omega)
      obtain ⟨g1, e1, O1, H1⟩ := X_ca91 X (k := k) (l3 := nI N) ha hb d2 (show s < N by omega) (by omega) (by omega) (sE σ) 0 g eg_F (by omega) (by rw [eg_F_eq]; omega) O H
      have e1' : fX12_carton_L91 eg_F g 16 (nI (10 * a + b)) (nI d') (nI N) k (nI (sU σ 2)) (nI (s + 1)) (nI (10 * fOd (s + 1) a b + fOd (s + 1) b a)) 0 = some (16, nI (10 * a + b), nI d', nI N, k, nI (sU σ 2), nI (s + 1), g1) := e1
      obtain ⟨g2, e2, O2, H2⟩ := ih (s + 1) g1 F (by omega) (by omega) O1 (fun a' c' hc' hlt ho => H1 a' c' hc' (by omega) ho)
      refine ⟨g2, ?_, O2, H2⟩
      rw [fX12_carton_L74, if_neg (nI_nlt (by omega) (by omega)), X_twoOf g (by omega) (by omega) (by omega), Option.bind_some]
      dsimp only
      rw [e1', Option.bind_some]
      dsimp only
      rw [nI_1]
      exact e2
  obtain ⟨g1, e1, O1, H1⟩ := key N 0 h eg_F (by omega) (by rw [eg_F_eq]; omega) (XOk_rfl X) (fun a' c' hc' hlt ho => by omega)
  have e1' : fX12_carton_L74 eg_F h 16 (nI (10 * a + b)) (nI d') (nI N) k (nI (sU σ 2)) 1 = some (16, nI N, k, g1) := e1
  have s1 := O1.1.2.2.1.1
  have C1 := O1.1.2.2.1
  obtain ⟨g2, e2', E2, v10, v9⟩ := X_find (N := N) (K := sE σ) (md := 0) (gd := gdC σ N a b d') (sl := slC σ N a b) (by omega) hP.2 (by omega) (gdC_le hP.2) (slC_11 X.1 ha hb) s1 (fun a c hc ho => by
    rcases ho with z | z
    · exact H1 a c hc (by omega) z.2
    · omega)
  have e2'' : fX9_findRow g1 47 (nI N) (nI (sE σ)) 0 = some g2 := e2'
  have s2 : eg_stt g2 := eq_stt E2 s1 (by decide)
  have O2 := XOk_low O1.1 E2 (by decide) (by decide) ⟨rfl, rfl, rfl, rfl, fun _ => ⟨rfl, rfl⟩⟩ (by decide)
  rw [e1', Option.bind_some]
  dsimp only
  rw [gR_16 s1, rf_16_18 s1, Option.bind_some, gR_16 s1, rf_16_3 s1, Option.bind_some, X_eggs O1.1, Option.bind_some]
  dsimp only
  rw [e2'', Option.bind_some]
  by_cases c7 : k = 0
  · rw [if_pos c7, if_pos c7, gR_16 s2, rf_16_18 s2, Option.bind_some]
    unfold fX9_digits
    rw [if_pos (iO_47 s2), gI_47 s2, Option.bind_some, Option.bind_some, v9]
    exact ⟨g2, rfl, XOk_tr O1 O2⟩
  · rw [if_neg c7, if_neg c7, gR_16 s2, rf_16_18 s2, Option.bind_some]
    unfold fX9_parts
    rw [if_pos (iO_47 s2), gI_47 s2, Option.bind_some, Option.bind_some, v10]
    exact ⟨g2, rfl, XOk_tr O1 O2⟩
end CA
