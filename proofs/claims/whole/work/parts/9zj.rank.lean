def ct (p : Nat → Bool) : Nat → Nat
  | 0 => 0
  | m + 1 => ct p m + if p m then 1 else 0
theorem ct_le {p q : Nat → Bool} : ∀ m, (∀ j, j < m → p j = true → q j = true) → ct p m ≤ ct q m := by
  intro m
  induction m with
  | zero => intro _; exact Nat.le_refl _
  | succ m ih =>
    intro h
    have i := ih (fun j hj => h j (by omega))
    unfold ct
    by_cases c : p m = true
    · rw [if_pos c, if_pos (h m (by omega) c)]; omega
    · rw [if_neg c]; split <;> omega
theorem ct_lt {p q : Nat → Bool} {x : Nat} (h1 : p x = false) (h2 : q x = true) : ∀ m, x < m → (∀ j, j < m → p j = true → q j = true) → ct p m + 1 ≤ ct q m := by
  intro m
  induction m with
  | zero => intro hx; omega
  | succ m ih =>
    intro hx h
    unfold ct
    by_cases c : x = m
    · subst c
      rw [h1, h2]
      have := ct_le (p := p) (q := q) x (fun j hj => h j (by omega))
      simp
      omega
    · have i := ih (by omega) (fun j hj => h j (by omega))
      by_cases c : p m = true
      · rw [if_pos c, if_pos (h m (by omega) c)]; omega
      · rw [if_neg c]; split <;> omega
theorem ct_skip {p : Nat → Bool} {a : Nat} : ∀ d, (∀ y, a ≤ y → y < a + d → p y = false) → ct p (a + d) = ct p a := by
  intro d
  induction d with
  | zero => intro _; rfl
  | succ d ih =>
    intro h
    show ct p (a + d) + (if p (a + d) then 1 else 0) = _
    rw [ih (fun y h1 h2 => h y h1 (by omega)), h (a + d) (by omega) (by omega)]
    simp
theorem ct_skp {p : Nat → Bool} {a b : Nat} (hab : a ≤ b) (h : ∀ y, a ≤ y → y < b → p y = false) : ct p b = ct p a := by
  have := ct_skip (p := p) (a := a) (b - a) (fun y h1 h2 => h y h1 (by omega))
  rw [show a + (b - a) = b by omega] at this
  exact this
abbrev vld (P z : Nat) : Prop := z / 6 < z % 6 ∧ z % 6 < P
abbrev bef (v : Nat → Nat) (P j i : Nat) : Prop := vld P j ∧ (v i < v j ∨ (v j = v i ∧ j < i))
def ah (v : Nat → Nat) (P m i : Nat) : Nat := ct (fun j => decide (bef v P j i)) m
def cn (P m : Nat) : Nat := ct (fun j => decide (vld P j)) m
section RK
variable {v : Nat → Nat} {P : Nat}
theorem ah_1 (z i : Nat) : ah v P (z + 1) i = ah v P z i + if bef v P z i then 1 else 0 := by
  show ct _ z + (if decide (bef v P z i) = true then 1 else 0) = ct _ z + _
  by_cases c : bef v P z i
  · rw [if_pos (by simpa using c), if_pos c]
  · rw [if_neg (by simpa using c), if_neg c]
theorem cn_1 (z : Nat) : cn P (z + 1) = cn P z + if vld P z then 1 else 0 := by
  show ct _ z + (if decide (vld P z) = true then 1 else 0) = ct _ z + _
  by_cases c : vld P z
  · rw [if_pos (by simpa using c), if_pos c]
  · rw [if_neg (by simpa using c), if_neg c]
theorem ah_skp {a b i : Nat} (hab : a ≤ b) (h : ∀ y, a ≤ y → y < b → ¬ vld P y) : ah v P b i = ah v P a i := ct_skp hab (fun y h1 h2 => by simp only [decide_eq_false_iff_not]; exact fun z => h y h1 h2 z.1)
theorem cn_skp {a b : Nat} (hab : a ≤ b) (h : ∀ y, a ≤ y → y < b → ¬ vld P y) : cn P b = cn P a := ct_skp hab (fun y h1 h2 => by simp only [decide_eq_false_iff_not]; exact h y h1 h2)
theorem ah_lt {m a b x : Nat} (hx : x < m) (h : ∀ j, j < m → bef v P j a → bef v P j b) (h1 : ¬ bef v P x a) (h2 : bef v P x b) : ah v P m a + 1 ≤ ah v P m b := ct_lt (x := x) (by simp only [decide_eq_false_iff_not]; exact h1) (by simp only [decide_eq_true_eq]; exact h2) m hx (fun j hj => by simp only [decide_eq_true_eq]; exact h j hj)
theorem ah_le {m a b : Nat} (h : ∀ j, j < m → bef v P j a → bef v P j b) : ah v P m a ≤ ah v P m b := ct_le m (fun j hj => by simp only [decide_eq_true_eq]; exact h j hj)
theorem ah_cn {m i : Nat} (hi : i < m) (vi : vld P i) : ah v P m i + 1 ≤ cn P m := ct_lt (x := i) (by simp only [decide_eq_false_iff_not]; exact fun z => by omega) (by simp only [decide_eq_true_eq]; exact vi) m hi (fun j hj => by simp only [decide_eq_true_eq]; exact fun z => z.1)
theorem ah_cz (m i : Nat) : ah v P m i ≤ cn P m := ct_le m (fun j hj => by simp only [decide_eq_true_eq]; exact fun z => z.1)
theorem cn_mono {a b : Nat} (hab : a ≤ b) : cn P a ≤ cn P b := by
  obtain ⟨d, rfl⟩ : ∃ d, b = a + d := ⟨b - a, by omega⟩
  induction d with
  | zero => exact Nat.le_refl _
  | succ d ih => rw [show a + (d + 1) = (a + d) + 1 by omega, cn_1]; have := ih (by omega); omega
theorem ah_uniq {m a b : Nat} (ha : a < m) (hb : b < m) (va : vld P a) (vb : vld P b) (h : ah v P m a = ah v P m b) : a = b := by
  by_cases c : a = b
  · exact c
  exfalso
  by_cases c1 : v b < v a ∨ (v a = v b ∧ a < b)
  · have := ah_lt (v := v) (P := P) (m := m) (a := a) (b := b) (x := a) ha (fun j _ z => ⟨z.1, by have := z.2; omega⟩) (fun z => by have := z.2; omega) ⟨va, c1⟩
    omega
  · have := ah_lt (v := v) (P := P) (m := m) (a := b) (b := a) (x := b) hb (fun j _ z => ⟨z.1, by have := z.2; omega⟩) (fun z => by have := z.2; omega) ⟨vb, by omega⟩
    omega
theorem ah_ge {z i : Nat} (hi : i < z) (vi : vld P i) (h : v z ≤ v i) : ah v P z i + 1 ≤ ah v P z z := ah_lt hi (fun j hj w => ⟨w.1, by have := w.2; omega⟩) (fun w => by have := w.2; omega) ⟨vi, by omega⟩
theorem ah_ls {z i : Nat} (h : v i < v z) : ah v P z z ≤ ah v P z i := ah_le (fun j hj w => ⟨w.1, by have := w.2; omega⟩)
theorem ah_next {z i : Nat} (hi : i < z) (vz : vld P z) (vi : vld P i) : ah v P (z + 1) i = if ah v P z i < ah v P z z then ah v P z i else ah v P z i + 1 := by
  rw [ah_1]
  by_cases c : v z ≤ v i
  · have := ah_ge hi vi c
    rw [if_neg (fun w => by have := w.2; omega), if_pos (by omega)]
    rfl
  · have := ah_ls (v := v) (P := P) (z := z) (i := i) (by omega)
    rw [if_pos ⟨vz, by omega⟩, if_neg (by omega)]
theorem ah_self (z : Nat) : ah v P (z + 1) z = ah v P z z := by
  rw [ah_1, if_neg (fun w => by have := w.2; omega)]
  rfl
theorem ah_sur : ∀ m q, q < cn P m → ∃ i, i < m ∧ vld P i ∧ ah v P m i = q := by
  intro m
  induction m with
  | zero => intro q hq; exact absurd hq (Nat.not_lt_zero q)
  | succ m ih =>
    intro q hq
    rw [cn_1] at hq
    by_cases c : vld P m
    · rw [if_pos c] at hq
      have hz := ah_cz (v := v) (P := P) m m
      by_cases c1 : q = ah v P m m
      · exact ⟨m, by omega, c, by rw [ah_self, c1]⟩
      by_cases c2 : q < ah v P m m
      · obtain ⟨i, i1, i2, i3⟩ := ih q (by omega)
        exact ⟨i, by omega, i2, by rw [ah_next i1 c i2, if_pos (by omega), i3]⟩
      · obtain ⟨i, i1, i2, i3⟩ := ih (q - 1) (by omega)
        exact ⟨i, by omega, i2, by rw [ah_next i1 c i2, if_neg (by omega), i3]; omega⟩
    · rw [if_neg c] at hq
      obtain ⟨i, i1, i2, i3⟩ := ih q hq
      exact ⟨i, by omega, i2, by rw [ah_skp (a := m) (by omega) (fun y h1 h2 => by rw [show y = m by omega]; exact c), i3]⟩
def fzR (v : Nat → Nat) (P k : Nat) : Nat → Nat
  | 0 => 0
  | n + 1 => if vld P n ∧ ah v P 50 n = k then n else fzR v P k n
theorem fzR_is {k z : Nat} (vz : vld P z) (hz : ah v P 50 z = k) : ∀ n, z < n → n ≤ 50 → fzR v P k n = z := by
  intro n
  induction n with
  | zero => intro h; omega
  | succ n ih =>
    intro h1 h2
    unfold fzR
    by_cases c : vld P n ∧ ah v P 50 n = k
    · rw [if_pos c]; exact ah_uniq (by omega) (by omega) c.1 vz (c.2.trans hz.symm)
    · rw [if_neg c]
      by_cases c1 : z = n
      · exact absurd (by rw [← c1]; exact ⟨vz, hz⟩) c
      · exact ih (by omega) (by omega)
theorem cn_50 : ∀ P, P ≤ 6 → cn P 50 = P * (P - 1) / 2 ∧ cn P 50 ≤ 15 := by decide +kernel
end RK
def cd6 (z : Nat) : Nat := 10 * (z / 6) + z % 6
def hvS (σ : eg_S) (e z : Nat) : Nat := hpF (ptS σ (z / 6) (z % 6) e 0) 60
theorem hv_i6 (σ : eg_S) (e z : Nat) : i6 (hvS σ e z : Nat) := by
  have := hp_le (f := ptS σ (z / 6) (z % 6) e 0) (M := 1000000000) (fun i => pt_le i) 60
  unfold i6 hvS
  omega
section GH
variable {h h' : eg_H} {σ : eg_S} {B : Nat × Nat}
def Gh (σ : eg_S) (e : Nat) (g : eg_H) (z : Nat) : Prop := ∀ y, y < z → vld (sP σ) y → eg_L g 48 y = jI (hvS σ e y : Nat)
theorem X_gat_L (X : XI h σ B) {e p : Nat} (he : e < sE σ) (hp : p < sP σ) : ∀ j r g F, r + j = sP σ → j < F → p < r → XOk h g σ B → Gh σ e g (6 * p + r) → ∃ g', fX12_gatherHopes_L17 F g 16 (nI e) (nI p) (nI r) = some (16, nI e, nI p, g') ∧ XOk h g' σ B ∧ Gh σ e g' (6 * p + sP σ) := by
  have hP := XI_P X
  intro j
  induction j with
  | zero =>
    intro r g F hi hF hr O H
    obtain ⟨F, rfl⟩ : ∃ F', F = F' + 1 := ⟨F - 1, by omega⟩
    have C := O.1.2.2.1
    obtain rfl : r = sP σ := by omega
    refine ⟨g, ?_, O, H⟩
    rw [fX12_gatherHopes_L17, gR_16 C.1, rf_16_3 C.1, Option.bind_some, X_persons O.1, Option.bind_some]
    dsimp only
    rw [if_pos (nI_le (Nat.le_refl _) (by omega))]
  | succ j ih =>
    intro r g F hi hF hr O H
    obtain ⟨F, rfl⟩ : ∃ F', F = F' + 1 := ⟨F - 1, by omega⟩
    have Xg := O.1
    have C := Xg.2.2.1
    have sg := C.1
    have hU := XI_U Xg (by omega)
    obtain ⟨g1, e1, G1, C1, K1⟩ := X_crs (c := 41) (Or.inl rfl) hU C hp (show r < sP σ by omega) he (d := 0) (by omega) (wd := sU σ 0) (st := sU σ 2) hU.1.2.2.1 (by have := hU.1.2.2.2.2.2.1; omega)
    have X1 : XI g1 σ B := XI_scr Xg (SC_x (Or.inl rfl) G1) C1
    have O1 : XOk h g1 σ B := ⟨X1, gc_tr O.2 (gr_cl (SC_x (Or.inl rfl) G1))⟩
    have s1 := C1.1
    have e0 : fX7_told g 23 0 = some (nI (sU σ 0), g) := X_told sg C.2.1 (x := 0) (by omega)
    have e2 : fX7_told g 23 2 = some (nI (sU σ 2), g) := X_told sg C.2.1 (x := 2) (by omega)
    have hR : eg_aR g 112 40 0 = some 41 := by
      unfold eg_aR
      rw [if_pos ⟨by omega, by rw [kd_40 sg], by decide, by rw [kd_40 sg]; decide⟩]
      exact rf_40_0 sg
    have ek : (10 : Int32) * nI e = nI (10 * e + 0) := nI_kk 10 e
    have ep : (10 : Int32) * nI p + nI r = nI (10 * p + r) := by rw [show (10 : Int32) = nI 10 from rfl, nI_kk, nI_add]
    have e6 : nI p * (6 : Int32) + nI r = nI (6 * p + r) := by rw [show (6 : Int32) = nI 6 from rfl, nI_kk, nI_add, Nat.mul_comm]
    have hh : fX2_hopes g1 41 = some (jI (hvS σ e (6 * p + r) : Nat), g1) := by
      unfold fX2_hopes
      rw [if_pos (iO_41 s1), gL_41 s1, Option.bind_some, K1.2.2.2.2]
      unfold hvS ptS
      rw [show (6 * p + r) / 6 = p by omega, show (6 * p + r) % 6 = r by omega]
    have hcl : (nI (6 * p + r)).toNatClampNeg = 6 * p + r := nI_clamp (by omega)
    have hkp : fX9_keepHope g1 47 (nI p) (nI r) (jI (hvS σ e (6 * p + r) : Nat)) = some (eg_sL g1 48 (6 * p + r) (jI (hvS σ e (6 * p + r) : Nat))) := by
      unfold fX9_keepHope
      rw [if_pos (iO_47 s1), e6, Option.bind_some, if_neg (nI_pos (by omega)), gR_47 s1, rf_47_0 s1, Option.bind_some, al_48 s1, Option.bind_some, if_neg (nI_ge (by omega) (by omega)), Option.bind_some, wL_48 s1 (nI_pos (by omega)) (by rw [hcl]; omega), hcl, Option.bind_some]
    have O2 := XOk_low X1 (S := [(48, none)]) (eq_sL (p := 48) (x := jI (hvS σ e (6 * p + r) : Nat)) (i := 6 * p + r) eq_rfl rfl) (by decide) (by decide) ⟨rfl, rfl, rfl, rfl, fun _ => ⟨rfl, rfl⟩⟩ (by decide)
    rw [fX12_gatherHopes_L17, gR_16 sg, rf_16_3 sg, Option.bind_some, X_persons Xg, Option.bind_some]
    dsimp only
    rw [if_neg (nI_ge (by omega) (by omega)), gR_16 sg, rf_16_17 sg, Option.bind_some, hR, Option.bind_some, gR_16 sg, rf_16_16 sg, Option.bind_some, gR_16 sg, rf_16_3 sg, Option.bind_some, e2, Option.bind_some]
    dsimp only
    rw [gR_16 sg, rf_16_3 sg, Option.bind_some, e0, Option.bind_some]
    dsimp only
    rw [ek, ep, e1, Option.bind_some, gR_16 s1, rf_16_18 s1, Option.bind_some, hh, Option.bind_some]
    dsimp only
    rw [hkp, Option.bind_some, nI_1]
    refine ih (r + 1) _ F (by omega) (by omega) (by omega) (XOk_tr O1 O2) (fun y hy vy => ?_)
    rw [L_sL]
    by_cases c : y = 6 * p + r
    · rw [if_pos ⟨rfl, c⟩, c]
    · rw [if_neg (fun z => c z.2), (G1.2.1 48 y (by omega) rfl).2.1]
      exact H y (by omega) vy
theorem X_gather (X : XI h σ B) {e : Nat} (he : e < sE σ) : ∃ g', fX12_gatherHopes h 16 (nI e) = some g' ∧ XOk h g' σ B ∧ Gh σ e g' 50 := by
  have hP := XI_P X
  have key : ∀ j p g F, p + j = sP σ → j < F → XOk h g σ B → Gh σ e g (6 * p + p + 1) → ∃ g', fX12_gatherHopes_L2 F g 16 (nI e) (nI p) = some g' ∧ XOk h g' σ B ∧ Gh σ e g' 50 := by
    intro j
    induction j with
    | zero =>
      intro p g F hi hF O H
      obtain ⟨F, rfl⟩ : ∃ F', F = F' + 1 := ⟨F - 1, by omega⟩
      have C := O.1.2.2.1
      obtain rfl : p = sP σ := by omega
      refine ⟨g, ?_, O, fun y hy vy => H y (by have := vy.1; have := vy.2; omega) vy⟩
      rw [fX12_gatherHopes_L2, gR_16 C.1, rf_16_3 C.1, Option.bind_some, X_persons O.1, Option.bind_some]
      dsimp only
      rw [if_pos (nI_le (Nat.le_refl _) (by omega))]
    | succ j ih =>
      intro p g F hi hF O H
      obtain ⟨F, rfl⟩ : ∃ F', F = F' + 1 := ⟨F - 1, by omega⟩
      have C := O.1.2.2.1
      obtain ⟨g1, e1, O1, H1⟩ := X_gat_L X he (show p < sP σ by omega) (sP σ - (p + 1)) (p + 1) g eg_F (by omega) (by rw [eg_F_eq]; omega) (by omega) O H
      obtain ⟨g2, e2, O2, H2⟩ := ih (p + 1) g1 F (by omega) (by omega) O1 (fun y hy vy => H1 y (by have := vy.1; have := vy.2; omega) vy)
      refine ⟨g2, ?_, O2, H2⟩
      rw [fX12_gatherHopes_L2, gR_16 C.1, rf_16_3 C.1, Option.bind_some, X_persons O.1, Option.bind_some]
      dsimp only
      rw [if_neg (nI_ge (by omega) (by omega)), nI_1, Option.bind_some, e1, Option.bind_some]
      dsimp only
      rw [nI_1]
      exact e2
  obtain ⟨g1, e1, O1, H1⟩ := key (sP σ) 0 h eg_F (by omega) (by rw [eg_F_eq]; omega) (XOk_rfl X) (fun y hy vy => by have := vy.1; have := vy.2; omega)
  have e1' : fX12_gatherHopes_L2 eg_F h 16 (nI e) 0 = some g1 := e1
  refine ⟨g1, ?_, O1, H1⟩
  unfold fX12_gatherHopes
  rw [if_pos (iO_16 X.2.2.1.1), e1', Option.bind_some]
end GH
