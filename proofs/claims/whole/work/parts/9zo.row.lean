def gdR (σ : eg_S) (e y z : Nat) : Nat := if z / 6 < sP σ then bgd (sL σ) (tOf (sU σ) (sU σ 0) (z / 6) (z % 6) e 0) y else 0
def slR (σ : eg_S) (a : Nat) : Nat := if a < sP σ then 2 * sU σ (4 + 4 * a) + 1 else 1
abbrev gRow (σ : eg_S) (e y k : Int32) : Prop := (G1 (sE σ) e ∧ GI (nI 1) (nI 60) y) ∧ GI (nI 0) (nI 1) k
def bsR (σ : eg_S) (e y : Nat) : Nat × Nat := plF (sP σ) (sP σ) (shF 1 (gdR σ e y) (slR σ)) (sP σ) 0 0 1000000000 (0, 0)
def aRow (σ : eg_S) (e y k : Int32) : Int32 := if gRow σ e y k then (if k = 0 then nI (bsR σ (dN e) (dN y)).2 else iI (((bsR σ (dN e) (dN y)).1 : Int) - 1)) else -1
section RO2
variable {h h' : eg_H} {σ : eg_S} {B : Nat × Nat}
theorem gdR_le {e y : Nat} (hP : sP σ ≤ 6) (a c : Nat) (hc : c < sP σ) : gdR σ e y (6 * a + c) ≤ slR σ a := by
  unfold gdR slR
  rw [show (6 * a + c) / 6 = a by omega, show (6 * a + c) % 6 = c by omega]
  by_cases z : a < sP σ
  · rw [if_pos z, if_pos z]; exact bgd_sl _ _
  · rw [if_neg z, if_neg z]; exact Nat.zero_le _
theorem slR_11 (W : Wσ σ) (a : Nat) : 1 ≤ slR σ a ∧ slR σ a ≤ 11 := by
  unfold slR
  by_cases z : a < sP σ
  · have := ((W.2.1.2.2.2 (by omega)).2.2.2.1 a z).1
    rw [if_pos z]; omega
  · rw [if_neg z]; omega
def Tg (gd sl : Nat → Nat) (K : Nat) (ok : Nat → Nat → Prop) (g : eg_H) (z : Nat) : Prop := ∀ a c, c < K → 6 * a + c < z → ok a c → eg_I g 51 (6 * a + c) = nI (gd (6 * a + c)) ∧ eg_I g 52 a = nI (sl a)
theorem X_keepG {g : eg_H} (hs : eg_stt g) {a c : Nat} (ha : a < 6) (hc : c < 6) (x y : Int32) : fX9_keepGood g 47 (nI a) (nI c) x y = some (eg_sI (eg_sI g 51 (6 * a + c) x) 52 a y) := by
  have e6 : nI a * (6 : Int32) + nI c = nI (6 * a + c) := by rw [show (6 : Int32) = nI 6 from rfl, nI_kk, nI_add, Nat.mul_comm]
  have c1 : (nI a).toNatClampNeg = a := nI_clamp (by omega)
  have c2 : (nI (6 * a + c)).toNatClampNeg = 6 * a + c := nI_clamp (by omega)
  have s1 : eg_stt (eg_sI g 51 (6 * a + c) x) := hs
  unfold fX9_keepGood
  rw [if_pos (iO_47 hs), e6, Option.bind_some, if_neg (nI_pos (by omega)), gR_47 hs, rf_47_3 hs, Option.bind_some, al_51 hs, Option.bind_some, if_neg (nI_ge (by omega) (by omega)), gR_47 hs, rf_47_4 hs, Option.bind_some, al_52 hs, Option.bind_some, if_neg (nI_ge (by omega) (by omega)), Option.bind_some, wI_51 hs (nI_pos (by omega)) (by rw [c2]; omega), c2, Option.bind_some, gR_47 s1, rf_47_4 s1, Option.bind_some, wI_52 s1 (nI_pos (by omega)) (by rw [c1]; omega), c1, Option.bind_some]
theorem Tg_up {gd sl : Nat → Nat} {K : Nat} {ok : Nat → Nat → Prop} {g : eg_H} {a c : Nat} (hK : K ≤ 6) (hc : c < K) (H : Tg gd sl K ok g (6 * a + c)) : Tg gd sl K ok (eg_sI (eg_sI g 51 (6 * a + c) (nI (gd (6 * a + c)))) 52 a (nI (sl a))) (6 * a + c + 1) := fun a' c' hc' hlt ho => by
  by_cases q : 6 * a' + c' = 6 * a + c
  · have ea : a' = a := by omega
    have ec : c' = c := by omega
    subst ea; subst ec
    refine ⟨?_, ?_⟩
    · rw [I_sI, if_neg (by omega), I_sI, if_pos ⟨rfl, rfl⟩]
    · rw [I_sI, if_pos ⟨rfl, rfl⟩]
  · obtain ⟨h1, h2⟩ := H a' c' hc' (by omega) ho
    refine ⟨?_, ?_⟩
    · rw [I_sI, if_neg (by omega), I_sI, if_neg (by omega)]; exact h1
    · rw [I_sI]
      by_cases w : a' = a
      · rw [if_pos ⟨rfl, w⟩, w]
      · rw [if_neg (fun z => w z.2), I_sI, if_neg (by omega)]; exact h2
theorem X_rw49 (X : XI h σ B) {e y a : Nat} {k : Int32} (he : e < sE σ) (hy : y ≤ 60) (ha : a < sP σ) : ∀ j c g F, c + j = sP σ → j < F → XOk h g σ B → Tg (gdR σ e y) (slR σ) (sP σ) (fun a c => a < sP σ ∧ ¬ a = c) g (6 * a + c) → ∃ g', fX12_row_L49 F g 16 (nI e) (nI y) k (nI (sP σ)) (nI a) (nI c) = some (16, nI e, nI y, k, nI (sP σ), nI a, g') ∧ XOk h g' σ B ∧ Tg (gdR σ e y) (slR σ) (sP σ) (fun a c => a < sP σ ∧ ¬ a = c) g' (6 * a + sP σ) := by
  have hP := XI_P X
  intro j
  induction j with
  | zero =>
    intro c g F hi hF O H
    obtain ⟨F, rfl⟩ : ∃ F', F = F' + 1 := ⟨F - 1, by omega⟩
    obtain rfl : c = sP σ := by omega
    exact ⟨g, by rw [fX12_row_L49, if_pos (nI_le (Nat.le_refl _) (by omega))], O, H⟩
  | succ j ih =>
    intro c g F hi hF O H
    obtain ⟨F, rfl⟩ : ∃ F', F = F' + 1 := ⟨F - 1, by omega⟩
    rw [fX12_row_L49, if_neg (nI_ge (by omega) (by omega))]
    by_cases q : a = c
    · rw [if_pos (by rw [q]), nI_1]
      refine ih (c + 1) g F (by omega) (by omega) O (fun a' c' hc' hlt ho => H a' c' hc' ?_ ho)
      have := ho.2
      omega
    · rw [if_neg (fun w => q (by have z := congrArg dN w; rw [dN_n (by omega), dN_n (by omega)] at z; exact z))]
      have Xg := O.1
      have C := Xg.2.2.1
      have sg := C.1
      have hU := XI_U Xg (by omega)
      obtain ⟨g1, r1, e1, hgd, O1, G1'⟩ := X_good1 Xg ha (show c < sP σ by omega) he (y := y) hy (d := 0) (by omega)
      have s1 := O1.1.2.2.1.1
      have C1 := O1.1.2.2.1
      have e0 : fX7_told g 23 0 = some (nI (sU σ 0), g) := X_told sg C.2.1 (x := 0) (by omega)
      have ek : (10 : Int32) * nI e = nI (10 * e + 0) := nI_kk 10 e
      have ep : (10 : Int32) * nI a + nI c = nI (10 * a + c) := by rw [show (10 : Int32) = nI 10 from rfl, nI_kk, nI_add]
      have eg : bgd (sL σ) (tOf (sU σ) (sU σ 0) a c e 0) y = gdR σ e y (6 * a + c) := by
        unfold gdR
        rw [show (6 * a + c) / 6 = a by omega, show (6 * a + c) % 6 = c by omega, if_pos ha]
      have es : 2 * sU σ (4 + 4 * a) + 1 = slR σ a := (if_pos ha).symm
      have O2 := XOk_low O1.1 (S := [(51, none), (52, none)]) (eq_sI (p := 52) (i := a) (x := nI (slR σ a)) (eq_sI (p := 51) (i := 6 * a + c) (x := nI (gdR σ e y (6 * a + c))) eq_rfl rfl) rfl) (by decide) (by decide) ⟨rfl, rfl, rfl, rfl, fun _ => ⟨rfl, rfl⟩⟩ (by decide)
      rw [gR_16 sg, rf_16_16 sg, Option.bind_some, gR_16 sg, rf_16_3 sg, Option.bind_some, e0, Option.bind_some]
      dsimp only
      rw [ek, ep, e1, Option.bind_some]
      dsimp only
      rw [gR_16 s1, rf_16_18 s1, Option.bind_some, hgd g1, Option.bind_some]
      dsimp only
      rw [gR_16 s1, rf_16_3 s1, Option.bind_some, X_slips s1 C1.2.1 hU ha, Option.bind_some]
      dsimp only
      rw [X_keepG s1 (by omega) (by omega), Option.bind_some, nI_1, eg, es]
      refine ih (c + 1) _ F (by omega) (by omega) (XOk_tr O (XOk_tr O1 O2)) ?_
      refine Tg_up hP.1 (by omega) (fun a' c' hc' hlt ho => ?_)
      rw [(G1'.2.1 51 _ (by omega) rfl).1, (G1'.2.1 52 _ (by omega) rfl).1]
      exact H a' c' hc' hlt ho
theorem X_row (X : XI h σ B) (e y k : Int32) : ∃ h', fX12_row h 16 e y k = some (aRow σ e y k, h') ∧ XOk h h' σ B := by
  have C := X.2.2.1
  have hs := C.1
  have hP := XI_P X
  unfold fX12_row aRow
  rw [if_pos (iO_16 hs), gR_16 hs, rf_16_3 hs, Option.bind_some, X_persons X, Option.bind_some]
  dsimp only
  rw [gR_16 hs, rf_16_3 hs, Option.bind_some, X_isEgg hs C.2.1 e, Option.bind_some]
  dsimp only
  rw [g01]
  by_cases c1 : G1 (sE σ) e
  rotate_left
  · have gg : ¬ gRow σ e y k := fun z => c1 z.1.1
    rw [if_neg c1, if_neg gg]; exact ⟨h, rfl, XOk_rfl X⟩
  rw [if_pos c1, X_isYards, Option.bind_some]
  dsimp only
  rw [g01]
  by_cases c2 : GI (nI 1) (nI 60) y
  rotate_left
  · have gg : ¬ gRow σ e y k := fun z => c2 z.1.2
    rw [if_neg c2, if_neg gg]; exact ⟨h, rfl, XOk_rfl X⟩
  rw [if_pos c2, X_isEither, Option.bind_some]
  dsimp only
  rw [g01]
  by_cases c3 : GI (nI 0) (nI 1) k
  rotate_left
  · have gg : ¬ gRow σ e y k := fun z => c3 z.2
    rw [if_neg c3, if_neg gg]; exact ⟨h, rfl, XOk_rfl X⟩
  have gg : gRow σ e y k := ⟨⟨c1, c2⟩, c3⟩
  rw [if_pos c3, if_pos gg]
  obtain ⟨m, hm, rfl⟩ := G1_n (by omega) c1
  obtain ⟨n, n1, n2, rfl⟩ := GI_n (by omega) (by omega) c2
  rw [dN_n (by omega), dN_n (by omega)]
  have key : ∀ j a g F, a + j = sP σ → j < F → XOk h g σ B → Tg (gdR σ m n) (slR σ) (sP σ) (fun a c => a < sP σ ∧ ¬ a = c) g (6 * a) → ∃ g', fX12_row_L39 F g 16 (nI m) (nI n) k (nI (sP σ)) (nI a) = some (16, k, nI (sP σ), g') ∧ XOk h g' σ B ∧ Tg (gdR σ m n) (slR σ) (sP σ) (fun a c => a < sP σ ∧ ¬ a = c) g' 36 := by
    intro j
    induction j with
    | zero =>
      intro a g F hi hF O H
      obtain ⟨F, rfl⟩ : ∃ F', F = F' + 1 := ⟨F - 1, by omega⟩
      obtain rfl : a = sP σ := by omega
      exact ⟨g, by rw [fX12_row_L39, if_pos (nI_le (Nat.le_refl _) (by omega))], O, fun a' c' hc' hlt ho => H a' c' hc' (by have := ho.1; omega) ho⟩
    | succ j ih =>
      intro a g F hi hF O H
      obtain ⟨F, rfl⟩ : ∃ F', F = F' + 1 := ⟨F - 1, by omega⟩
      obtain ⟨g1, e1, O1, H1⟩ := X_rw49 X (k := k) hm n2 (show a < sP σ by omega) (sP σ) 0 g eg_F (by omega) (by rw [eg_F_eq]; omega) O H
      have e1' : fX12_row_L49 eg_F g 16 (nI m) (nI n) k (nI (sP σ)) (nI a) 0 = some (16, nI m, nI n, k, nI (sP σ), nI a, g1) := e1
      obtain ⟨g2, e2, O2, H2⟩ := ih (a + 1) g1 F (by omega) (by omega) O1 (fun a' c' hc' hlt ho => H1 a' c' hc' (by omega) ho)
      refine ⟨g2, ?_, O2, H2⟩
      rw [fX12_row_L39, if_neg (nI_ge (by omega) (by omega)), e1', Option.bind_some]
      dsimp only
      rw [nI_1]
      exact e2
  obtain ⟨g1, e1, O1, H1⟩ := key (sP σ) 0 h eg_F (by omega) (by rw [eg_F_eq]; omega) (XOk_rfl X) (fun a' c' hc' hlt ho => by omega)
  have e1' : fX12_row_L39 eg_F h 16 (nI m) (nI n) k (nI (sP σ)) 0 = some (16, k, nI (sP σ), g1) := e1
  have s1 := O1.1.2.2.1.1
  obtain ⟨g2, e2, E2, v10, v9⟩ := X_find (N := sP σ) (K := sP σ) (md := 1) (gd := gdR σ m n) (sl := slR σ) hP.1 hP.1 (by omega) (gdR_le hP.1) (slR_11 X.1) s1 (fun a c hc ho => by
    rcases ho with z | z
    · omega
    · exact H1 a c hc (by omega) z.2)
  have e2' : fX9_findRow g1 47 (nI (sP σ)) (nI (sP σ)) 1 = some g2 := e2
  have s2 : eg_stt g2 := eq_stt E2 s1 (by decide)
  have O2 := XOk_low O1.1 E2 (by decide) (by decide) ⟨rfl, rfl, rfl, rfl, fun _ => ⟨rfl, rfl⟩⟩ (by decide)
  rw [e1', Option.bind_some]
  dsimp only
  rw [gR_16 s1, rf_16_18 s1, Option.bind_some, e2', Option.bind_some]
  by_cases c4 : k = 0
  · rw [if_pos c4, if_pos c4, gR_16 s2, rf_16_18 s2, Option.bind_some]
    unfold fX9_digits
    rw [if_pos (iO_47 s2), gI_47 s2, Option.bind_some, Option.bind_some, v9]
    exact ⟨g2, rfl, XOk_tr O1 O2⟩
  · rw [if_neg c4, if_neg c4, gR_16 s2, rf_16_18 s2, Option.bind_some]
    unfold fX9_parts
    rw [if_pos (iO_47 s2), gI_47 s2, Option.bind_some, Option.bind_some, v10]
    exact ⟨g2, rfl, XOk_tr O1 O2⟩
end RO2
