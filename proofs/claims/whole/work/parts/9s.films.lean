def fmL (σ : eg_S) (f : Nat) : Nat := dN (σ.2 3 f)
def fmH (σ : eg_S) (f k : Nat) : Nat := dN (σ.2 2 (24 * f + k))
def oth (hg : Nat → Nat) (i : Nat) : Nat → Bool := fun k => decide (¬ hg k = hg i)
def tnF (hg : Nat → Nat) (L i : Nat) : Nat := match ffG (oth hg i) (i + 1) (L - (i + 1)) with
  | none => 0
  | some j => if (hg (i - 1) < hg i ∧ hg j < hg i) ∨ (hg i < hg (i - 1) ∧ hg i < hg j) then 1 else 0
def trn (hg : Nat → Nat) (L : Nat) : Nat := sm (fun i => tnF hg L (i + 1)) (L - 1)
theorem tn_le (hg : Nat → Nat) (L i : Nat) : tnF hg L i ≤ 1 := by
  unfold tnF
  split
  · omega
  · split <;> omega
theorem trn_le (hg : Nat → Nat) (L : Nat) : trn hg L ≤ L - 1 := sm_le (fun i _ => tn_le hg L (i + 1))
theorem ff_in {p : Nat → Bool} : ∀ j i v, ffG p i j = some v → i ≤ v ∧ v < i + j ∧ p v = true := by
  intro j
  induction j with
  | zero => intro i v h; cases h
  | succ j ih =>
    intro i v h
    unfold ffG at h
    by_cases c : p i = true
    · rw [if_pos c] at h
      cases h
      exact ⟨Nat.le_refl _, by omega, c⟩
    · rw [if_neg c] at h
      have := ih (i + 1) v h
      exact ⟨by omega, by omega, this.2.2⟩
theorem d10 : ∀ a, a < 10 → ∀ b, b < 10 → ((nI a - nI b ≤ 0 ↔ a ≤ b) ∧ (0 ≤ nI a - nI b ↔ b ≤ a) ∧ (nI a - nI b < 0 ↔ a < b)) := by decide +kernel
abbrev gFm (σ : eg_S) (f : Int32) : Prop := G1 (sF σ) f
def aFilm (σ : eg_S) (f w : Int32) : Int32 := if gFm σ f ∧ GI (nI 0) (nI 1) w then (if w = 0 then nI (trn (fmH σ (dN f)) (fmL σ (dN f))) else nI (fmL σ (dN f))) else -1
section FM
variable {h : eg_H} {σ : eg_S} {B : Nat × Nat}
def XF (h : eg_H) (p L : Nat) (hg : Nat → Nat) : Prop := 95 ≤ p ∧ L ≤ 24 ∧ (∀ k, k < L → hg k ≤ 9) ∧ ∃ g, Fl h p L g ∧ ∀ k, k < L → g k = nI (hg k)
theorem X_filmAt (X : XI h σ B) (f : Int32) : ∃ q, fX12_filmAt h 16 f = some (q, h) ∧ (gFm σ f → ∃ p, q = some p ∧ XF h p (fmL σ (dN f)) (fmH σ (dN f))) ∧ (¬ gFm σ f → q = none) := by
  have hs := X.2.2.1.1
  obtain ⟨_, ⟨b1, b2⟩, _⟩ := X.2.2.2
  have hW := X.1.2.2.2.1
  unfold fX12_filmAt
  rw [if_pos (iO_16 hs)]
  by_cases c1 : f < 0
  · rw [if_pos c1]
    exact ⟨none, rfl, fun z => absurd c1 z.1, fun _ => rfl⟩
  rw [if_neg c1, gI_16 hs, Option.bind_some, b1]
  by_cases c2 : nI (sF σ) ≤ f
  · rw [if_pos c2]
    exact ⟨none, rfl, fun z => absurd c2 z.2, fun _ => rfl⟩
  rw [if_neg c2]
  obtain ⟨n, hn, rfl⟩ := G1_n (by have := hW.1; omega) ⟨c1, c2⟩
  have h4 := hW.1
  have hcl : (nI n).toNatClampNeg = n := nI_clamp (by omega)
  obtain ⟨p, g, x1, x2, x3, x4⟩ := b2 n hn
  rw [gR_16 hs, rf_16_7 hs, Option.bind_some, al_26 hs, Option.bind_some, if_pos (nI_lt (by omega) (by omega)), Option.bind_some]
  unfold eg_aQ
  rw [if_pos (show eg_isA h 113 26 (nI n) from ⟨by omega, by rw [kd_26 hs], nI_pos (by omega), by rw [kd_26 hs, hcl]; show n < 4; omega⟩), hcl, Option.bind_some, x1]
  refine ⟨some p, rfl, fun _ => ⟨p, rfl, x2, ?_, fun k hk => ?_, g, ?_, fun k hk => ?_⟩, fun z => absurd ⟨c1, c2⟩ z⟩
  · rw [dN_n (by omega)]; exact (hW.2 n hn).1
  · rw [dN_n (by omega)] at hk ⊢
    obtain ⟨v, v9, ev⟩ := (hW.2 n hn).2 k hk
    unfold fmH
    rw [ev, dN_n (by omega)]
    exact v9
  · rw [dN_n (by omega)]; exact x3
  · rw [dN_n (by omega)] at hk ⊢
    obtain ⟨v, v9, ev⟩ := (hW.2 n hn).2 k hk
    rw [x4 k hk]
    unfold fmH
    rw [ev, dN_n (by omega)]
theorem XF_o {p L : Nat} {hg : Nat → Nat} (F : XF h p L hg) : eg_isO h 3 p ∧ eg_P h p 0 = some (p + 1) ∧ eg_I h p 1 = nI L ∧ eg_al h (p + 1) = some (nI 24) ∧ ∀ k, k < 24 → eg_aI h 100 (p + 1) (nI k) = some (eg_I h (p + 1) k) := by
  obtain ⟨p9, h24, _, g, ⟨f1, f2, f3, f4, f5⟩, _⟩ := F
  refine ⟨⟨by omega, f1⟩, f3, f4, ?_, fun k hk => ?_⟩
  · unfold eg_al
    rw [if_pos ⟨by omega, by rw [f2]; show eg_arr 100; decide⟩, f2]
  · have hcl : (nI k).toNatClampNeg = k := nI_clamp (by omega)
    unfold eg_aI
    rw [if_pos ⟨by omega, by rw [f2], nI_pos (by omega), by rw [f2, hcl]; exact hk⟩, hcl]
theorem X_hAt {p L : Nat} {hg : Nat → Nat} (F : XF h p L hg) {k : Nat} (hk : k < 2 ^ 31) : fX3_heightAt h p (nI k) = some (if k < L then nI (hg k) else -1, h) := by
  obtain ⟨o1, o2, o3, o4, o5⟩ := XF_o F
  obtain ⟨p9, h24, h9, g, f5, fg⟩ := F
  unfold fX3_heightAt
  rw [if_pos o1, if_neg (nI_pos hk), show eg_gI h 3 1 p = some (eg_I h p 1) from if_pos o1, Option.bind_some, o3]
  by_cases c : k < L
  · rw [if_neg (nI_ge c (by omega)), if_pos c, show eg_gR h 3 0 p = eg_P h p 0 from if_pos o1, o2, Option.bind_some, o4, Option.bind_some, if_pos (nI_lt (by omega) (by omega)), Option.bind_some, o5 k (by omega), Option.bind_some, f5.2.2.2.2 k (by omega), fg k c]
  · rw [if_pos (nI_le (by omega) hk), if_neg c]
theorem X_hAft_L {p L i : Nat} {hg : Nat → Nat} (F : XF h p L hg) (hi : i < L) : ∀ j k Fu, k + j = L → j < Fu → fX3_heightAfter_L4 Fu h p (nI i) (nI k) = some (match ffG (oth hg i) k j with
    | none => .inl h
    | some v => .inr (p, nI v, h)) := by
  have o1 := (XF_o F).1
  have o3 := (XF_o F).2.2.1
  have h24 := F.2.1
  have h9 := F.2.2.1
  intro j
  induction j with
  | zero =>
    intro k Fu hk hF
    obtain ⟨Fu, rfl⟩ : ∃ F', Fu = F' + 1 := ⟨Fu - 1, by omega⟩
    obtain rfl : k = L := by omega
    rw [fX3_heightAfter_L4, show eg_gI h 3 1 p = some (eg_I h p 1) from if_pos o1, Option.bind_some, o3, if_pos (nI_le (Nat.le_refl _) (by omega))]
    rfl
  | succ j ih =>
    intro k Fu hk hF
    obtain ⟨Fu, rfl⟩ : ∃ F', Fu = F' + 1 := ⟨Fu - 1, by omega⟩
    have e := ih (k + 1) Fu (by omega) (by omega)
    have a1 := h9 k (by omega)
    have a2 := h9 i hi
    rw [fX3_heightAfter_L4, show eg_gI h 3 1 p = some (eg_I h p 1) from if_pos o1, Option.bind_some, o3, if_neg (nI_ge (by omega) (by omega)), X_hAt F (by omega), if_pos (by omega), Option.bind_some]
    dsimp only
    rw [X_hAt F (by omega), if_pos hi, Option.bind_some]
    dsimp only
    unfold ffG
    by_cases c : hg k = hg i
    · rw [if_pos (by rw [c]), if_neg (show ¬ oth hg i k = true from fun z => (of_decide_eq_true z) c), nI_1]
      exact e
    · rw [if_neg (fun z => c ((nI_eq (by omega) (by omega)).mp z)), if_pos (show oth hg i k = true from decide_eq_true c)]
theorem X_hAft {p L i : Nat} {hg : Nat → Nat} (F : XF h p L hg) (hi : i < L) : fX3_heightAfter h p (nI i) = some (match ffG (oth hg i) (i + 1) (L - (i + 1)) with
    | none => -1
    | some v => nI (hg v), h) := by
  have h24 := F.2.1
  unfold fX3_heightAfter
  rw [if_pos (XF_o F).1, nI_1, Option.bind_some, X_hAft_L F hi (L - (i + 1)) (i + 1) eg_F (by omega) (by rw [eg_F_eq]; omega), Option.bind_some]
  cases e : ffG (oth hg i) (i + 1) (L - (i + 1)) with
  | none => rfl
  | some v =>
    have := ff_in _ _ _ e
    dsimp only
    rw [X_hAt F (by omega), if_pos (by omega), Option.bind_some]
theorem X_turns_L {p L : Nat} {hg : Nat → Nat} (F : XF h p L hg) : ∀ j i Fu, i + 1 + j = L → j < Fu → fX3_turns_L4 Fu h p (nI (sm (fun i => tnF hg L (i + 1)) i)) (nI (i + 1)) = some (nI (trn hg L), h) := by
  have o1 := (XF_o F).1
  have o3 := (XF_o F).2.2.1
  have h24 := F.2.1
  have h9 := F.2.2.1
  intro j
  induction j with
  | zero =>
    intro i Fu hi hF
    obtain ⟨Fu, rfl⟩ : ∃ F', Fu = F' + 1 := ⟨Fu - 1, by omega⟩
    rw [fX3_turns_L4, show eg_gI h 3 1 p = some (eg_I h p 1) from if_pos o1, Option.bind_some, o3, if_pos (nI_le (by omega) (by omega)), show trn hg L = sm (fun i => tnF hg L (i + 1)) i by unfold trn; rw [show L - 1 = i by omega]]
  | succ j ih =>
    intro i Fu hi hF
    obtain ⟨Fu, rfl⟩ : ∃ F', Fu = F' + 1 := ⟨Fu - 1, by omega⟩
    have e := ih (i + 1) Fu (by omega) (by omega)
    rw [sm] at e
    have ha := X_hAft F (i := i + 1) (by omega)
    have a1 := h9 (i + 1) (by omega)
    have a0 := h9 i (by omega)
    rw [fX3_turns_L4, show eg_gI h 3 1 p = some (eg_I h p 1) from if_pos o1, Option.bind_some, o3, if_neg (nI_ge (by omega) (by omega)), X_hAt F (by omega), if_pos (by omega), Option.bind_some]
    dsimp only
    rw [nI_m1, X_hAt F (by omega), if_pos (by omega), Option.bind_some]
    dsimp only
    rw [Option.bind_some, ha, Option.bind_some]
    dsimp only
    rw [X_hAt F (by omega), if_pos (by omega), Option.bind_some]
    dsimp only
    rw [Option.bind_some, ha, Option.bind_some, nI_1]
    dsimp only
    unfold tnF at e
    cases ef : ffG (oth hg (i + 1)) (i + 1 + 1) (L - (i + 1 + 1)) with
    | none =>
      rw [ef] at e
      dsimp only at e ⊢
      rw [if_pos rfl]
      exact e
    | some v =>
      have hv := ff_in _ _ _ ef
      have a2 := h9 v (by omega)
      rw [ef] at e
      dsimp only at e ⊢
      obtain ⟨r1, r2, r3⟩ := d10 (hg (i + 1)) (by omega) (hg i) (by omega)
      obtain ⟨q1, q2, q3⟩ := d10 (hg v) (by omega) (hg (i + 1)) (by omega)
      rw [show i + 1 - 1 = i by omega] at e
      rw [if_neg (nI_nm1 (by omega))]
      by_cases c1 : hg (i + 1) ≤ hg i
      · rw [if_pos (r1.mpr c1)]
        by_cases c2 : hg i ≤ hg (i + 1)
        · rw [if_neg (by omega)] at e
          rw [if_pos (r2.mpr c2)]
          exact e
        · rw [if_neg (fun z => c2 (r2.mp z))]
          by_cases c3 : hg v ≤ hg (i + 1)
          · rw [if_neg (by omega)] at e
            rw [if_pos (q1.mpr c3)]
            exact e
          · rw [if_pos (by omega)] at e
            rw [if_neg (fun z => c3 (q1.mp z)), nI_1]
            exact e
      · rw [if_neg (fun z => c1 (r1.mp z))]
        by_cases c3 : hg v < hg (i + 1)
        · rw [if_pos (by omega)] at e
          rw [if_pos (q3.mpr c3), nI_1]
          exact e
        · rw [if_neg (by omega)] at e
          rw [if_neg (fun z => c3 (q3.mp z)), if_pos (r2.mpr (by omega))]
          exact e
theorem X_turns {p L : Nat} {hg : Nat → Nat} (F : XF h p L hg) : fX3_turns h p = some (nI (trn hg L), h) := by
  have o1 := (XF_o F).1
  have o3 := (XF_o F).2.2.1
  have h24 := F.2.1
  unfold fX3_turns
  rw [if_pos o1]
  rcases Nat.eq_zero_or_pos L with z | z
  · have e : fX3_turns_L4 eg_F h p 0 1 = some (nI (trn hg L), h) := by
      rw [eg_F_eq, fX3_turns_L4, show eg_gI h 3 1 p = some (eg_I h p 1) from if_pos o1, Option.bind_some, o3, z, if_pos (by decide)]
      rfl
    rw [e, Option.bind_some]
  · have e := X_turns_L F (L - 1) 0 eg_F (by omega) (by rw [eg_F_eq]; omega)
    have e' : fX3_turns_L4 eg_F h p 0 1 = _ := e
    rw [e', Option.bind_some]
theorem X_flen {p L : Nat} {hg : Nat → Nat} (F : XF h p L hg) : fX3_length h p = some (nI L, h) := by
  unfold fX3_length
  rw [if_pos (XF_o F).1, show eg_gI h 3 1 p = some (eg_I h p 1) from if_pos (XF_o F).1, Option.bind_some, (XF_o F).2.2.1]
theorem X_film (X : XI h σ B) (f w : Int32) : ∃ h', fX12_film h 16 f w = some (aFilm σ f w, h') ∧ XOk h h' σ B := by
  have C := X.2.2.1
  have hs := C.1
  have hP := XI_P X
  obtain ⟨q, e1, y1, n1⟩ := X_filmAt X f
  unfold fX12_film aFilm
  rw [if_pos (iO_16 hs), e1, Option.bind_some]
  dsimp only
  by_cases c1 : gFm σ f
  rotate_left
  · rw [if_pos (n1 c1), if_neg (fun z => c1 z.1)]; exact ⟨h, rfl, XOk_rfl X⟩
  obtain ⟨p, rfl, F⟩ := y1 c1
  rw [if_neg (by simp)]
  rw [X_isEither h w, Option.bind_some]
  dsimp only
  rw [g01]
  by_cases c3 : GI (nI 0) (nI 1) w
  rotate_left
  · rw [if_neg c3, if_neg (fun z => c3 z.2)]; exact ⟨h, rfl, XOk_rfl X⟩
  rw [if_pos c3]
  rw [if_pos (show gFm σ f ∧ GI (nI 0) (nI 1) w from ⟨c1, c3⟩)]
  refine ⟨h, ?_, XOk_rfl X⟩
  by_cases w0 : w = 0
  · rw [if_pos w0, if_pos w0, Option.bind_some, X_turns F, Option.bind_some]
  · rw [if_neg w0, if_neg w0, Option.bind_some, X_flen F, Option.bind_some]
def MF (h : eg_H) (f L : Nat) (hg : Nat → Nat) : Prop := eg_stt h ∧ f < 4 ∧ L ≤ 24 ∧ (∀ k, k < L → hg k ≤ 9) ∧ eg_I h 67 f = nI L ∧ ∀ k, k < L → eg_I h 65 (24 * f + k) = nI (hg k)
theorem M_filmOf (R : RI h σ) {f : Nat} (hf : f < sF σ) : MF h f (fmL σ f) (fmH σ f) := by
  obtain ⟨_, ⟨b1, b2⟩, _⟩ := R.2.2.2.2
  have hW := R.2.1.2.2.2.1
  refine ⟨R.1, by have := hW.1; omega, (hW.2 f hf).1, fun k hk => ?_, (b2 f hf).1, fun k hk => ?_⟩
  · obtain ⟨v, v9, ev⟩ := (hW.2 f hf).2 k hk
    unfold fmH
    rw [ev, dN_n (by omega)]
    exact v9
  · obtain ⟨v, v9, ev⟩ := (hW.2 f hf).2 k hk
    unfold fmH
    rw [(b2 f hf).2 k hk, ev, dN_n (by omega)]
theorem MF_l {f L : Nat} {hg : Nat → Nat} (F : MF h f L hg) : eg_aI h 100 67 (nI f) = some (nI L) := by
  have hf := F.2.1
  have hcl : (nI f).toNatClampNeg = f := nI_clamp (by omega)
  rw [aI_67 F.1 (nI_pos (by omega)) (by rw [hcl]; omega), hcl, F.2.2.2.2.1]
theorem MF_h {f L k : Nat} {hg : Nat → Nat} (F : MF h f L hg) (hk : k < L) : eg_aI h 100 65 ((24 : Int32) * nI f + nI k) = some (nI (hg k)) := by
  have hf := F.2.1
  have hL := F.2.2.1
  have e : (24 : Int32) * nI f + nI k = nI (24 * f + k) := by
    rw [← iI_n, ← iI_n, ← iI_n, show (24 : Int32) = iI 24 from rfl, iI_mul, iI_add]
    rfl
  have hcl : (nI (24 * f + k)).toNatClampNeg = 24 * f + k := nI_clamp (by omega)
  rw [e, aI_65 F.1 (nI_pos (by omega)) (by rw [hcl]; omega), hcl, F.2.2.2.2.2 k hk]
theorem M_isFilm (R : RI h σ) (f : Int32) : fX13_isFilm h 54 f = some (if gFm σ f then 1 else 0, h) := by
  have hs := R.1
  have b1 := R.2.2.2.2.2.1.1
  unfold fX13_isFilm
  rw [if_pos (iO_54 hs)]
  by_cases c1 : f < 0
  · rw [if_pos c1, if_neg (fun z => z.1 c1)]
  rw [if_neg c1, gI_54 hs, Option.bind_some, b1]
  by_cases c2 : nI (sF σ) ≤ f
  · rw [if_pos c2, if_neg (fun z => z.2 c2)]
  · rw [if_neg c2, if_pos ⟨c1, c2⟩]
theorem M_trn_in {f L i : Nat} {hg : Nat → Nat} {l2 l5 : Int32} (F : MF h f L hg) (hi : i < L) : ∀ j k Fu, k + j = L → j < Fu → fX13_turnsOf_L49 Fu h 54 (nI f) l2 (nI i) (nI (hg i)) l5 (nI k) = some (54, nI f, l2, nI i, nI (hg i), l5, nI ((ffG (oth hg i) k j).getD L), h) := by
  have hs := F.1
  have hL := F.2.2.1
  have h9 := F.2.2.2.1
  intro j
  induction j with
  | zero =>
    intro k Fu hk hF
    obtain ⟨Fu, rfl⟩ : ∃ F', Fu = F' + 1 := ⟨Fu - 1, by omega⟩
    obtain rfl : k = L := by omega
    rw [fX13_turnsOf_L49, gR_54 hs, rf_54_31 hs, Option.bind_some, MF_l F, Option.bind_some, if_pos (nI_le (Nat.le_refl _) (by omega))]
    rfl
  | succ j ih =>
    intro k Fu hk hF
    obtain ⟨Fu, rfl⟩ : ∃ F', Fu = F' + 1 := ⟨Fu - 1, by omega⟩
    have e := ih (k + 1) Fu (by omega) (by omega)
    have a1 := h9 k (by omega)
    have a2 := h9 i hi
    rw [fX13_turnsOf_L49, gR_54 hs, rf_54_31 hs, Option.bind_some, MF_l F, Option.bind_some, if_neg (nI_ge (by omega) (by omega)), gR_54 hs, rf_54_29 hs, Option.bind_some, MF_h F (by omega), Option.bind_some]
    unfold ffG
    by_cases c : hg k = hg i
    · rw [if_pos (by rw [c]), if_neg (show ¬ oth hg i k = true from fun z => (of_decide_eq_true z) c), nI_1]
      exact e
    · rw [if_neg (fun z => c ((nI_eq (by omega) (by omega)).mp z)), if_pos (show oth hg i k = true from decide_eq_true c)]
      rfl
theorem M_trn_L {f L : Nat} {hg : Nat → Nat} (F : MF h f L hg) : ∀ j i Fu, i + 2 + j = L → j < Fu → fX13_turnsOf_L4 Fu h 54 (nI f) (nI (sm (fun i => tnF hg L (i + 1)) i)) (nI (i + 1)) = some (nI (trn hg L), h) := by
  have hs := F.1
  have hL := F.2.2.1
  have h9 := F.2.2.2.1
  have eL : ∀ L : Nat, nI (L + 1) - 1 = nI L := nI_m1
  intro j
  induction j with
  | zero =>
    intro i Fu hi hF
    obtain ⟨Fu, rfl⟩ : ∃ F', Fu = F' + 1 := ⟨Fu - 1, by omega⟩
    have e1 : nI L - 1 = nI (i + 1) := by rw [show L = i + 1 + 1 by omega, nI_m1]
    have et : trn hg L = sm (fun i => tnF hg L (i + 1)) i := by
      unfold trn
      rw [show L - 1 = i + 1 by omega, sm]
      have : tnF hg L (i + 1) = 0 := by
        unfold tnF
        rw [show L - (i + 1 + 1) = 0 by omega]
        rfl
      omega
    rw [fX13_turnsOf_L4, gR_54 hs, rf_54_31 hs, Option.bind_some, MF_l F, Option.bind_some, e1, if_pos (nI_le (Nat.le_refl _) (by omega)), et]
  | succ j ih =>
    intro i Fu hi hF
    obtain ⟨Fu, rfl⟩ : ∃ F', Fu = F' + 1 := ⟨Fu - 1, by omega⟩
    have e := ih (i + 1) Fu (by omega) (by omega)
    rw [sm] at e
    have e1 : nI L - 1 = nI (L - 1) := by
      obtain ⟨m, rfl⟩ : ∃ m, L = m + 1 := ⟨L - 1, by omega⟩
      rw [nI_m1, show m + 1 - 1 = m by omega]
    have e2 : (24 : Int32) * nI f + nI (i + 1) - 1 = (24 : Int32) * nI f + nI i := by
      rw [← nI_1 i, Int32.sub_eq_add_neg, Int32.add_assoc, Int32.add_assoc]
      congr 1
      rw [show (1 : Int32) + -1 = 0 by decide, Int32.add_zero]
    have a1 := h9 (i + 1) (by omega)
    have a0 := h9 i (by omega)
    rw [fX13_turnsOf_L4, gR_54 hs, rf_54_31 hs, Option.bind_some, MF_l F, Option.bind_some, e1, if_neg (nI_ge (by omega) (by omega)), gR_54 hs, rf_54_29 hs, Option.bind_some, MF_h F (by omega), Option.bind_some, Option.bind_some, e2, MF_h F (by omega), Option.bind_some, nI_1, Option.bind_some, M_trn_in F (i := i + 1) (by omega) (L - (i + 1 + 1)) (i + 1 + 1) eg_F (by omega) (by rw [eg_F_eq]; omega), Option.bind_some]
    dsimp only
    unfold fX13_turnsOf_j83
    unfold tnF at e
    rw [show i + 1 - 1 = i by omega] at e
    rw [nI_1]
    cases ef : ffG (oth hg (i + 1)) (i + 1 + 1) (L - (i + 1 + 1)) with
    | none =>
      rw [ef] at e
      dsimp only [Option.getD] at e ⊢
      by_cases c0 : hg i = hg (i + 1)
      · rw [if_pos (by rw [c0])]; exact e
      · rw [if_neg (fun z => c0 ((nI_eq (by omega) (by omega)).mp z)), gR_54 hs, rf_54_31 hs, Option.bind_some, MF_l F, Option.bind_some, if_pos rfl]
        exact e
    | some v =>
      have hv := ff_in _ _ _ ef
      have a2 := h9 v (by omega)
      rw [ef] at e
      dsimp only [Option.getD] at e ⊢
      by_cases c0 : hg i = hg (i + 1)
      · rw [if_neg (by omega)] at e
        rw [if_pos (by rw [c0])]; exact e
      rw [if_neg (fun z => c0 ((nI_eq (by omega) (by omega)).mp z)), gR_54 hs, rf_54_31 hs, Option.bind_some, MF_l F, Option.bind_some, if_neg (fun z => by have := (nI_eq (by omega) (by omega)).mp z; omega), gR_54 hs, rf_54_29 hs, Option.bind_some, MF_h F (by omega), Option.bind_some]
      unfold fX13_turnsOf_j133
      have z0 : ∀ x : Nat, nI x + 0 = nI x := fun x => Int32.add_zero _
      by_cases c1 : hg (i + 1) ≤ hg i
      · rw [if_pos (nI_le c1 (by omega)), if_neg (show ¬ nI (hg i) ≤ nI (hg (i + 1)) from nI_ge (by omega) (by omega))]
        by_cases c3 : hg v ≤ hg (i + 1)
        · rw [if_neg (by omega)] at e
          rw [if_pos (nI_le c3 (by omega)), z0, Option.bind_some, nI_1]
          exact e
        · rw [if_pos (by omega)] at e
          rw [if_neg (nI_ge (by omega) (by omega)), nI_1, Option.bind_some, nI_1]
          exact e
      · rw [if_neg (nI_ge (by omega) (by omega))]
        by_cases c3 : hg v < hg (i + 1)
        · rw [if_pos (by omega)] at e
          rw [if_pos (nI_lt c3 (by omega)), nI_1, Option.bind_some]
          exact e
        · rw [if_neg (by omega)] at e
          rw [if_neg (nI_nlt (by omega) (by omega)), if_pos (show nI (hg i) ≤ nI (hg (i + 1)) from nI_le (by omega) (by omega)), z0, Option.bind_some, nI_1]
          exact e
theorem M_trn {f L : Nat} {hg : Nat → Nat} (F : MF h f L hg) : fX13_turnsOf h 54 (nI f) = some (nI (trn hg L), h) := by
  have hs := F.1
  have hL := F.2.2.1
  unfold fX13_turnsOf
  rw [if_pos (iO_54 hs)]
  rcases Nat.lt_or_ge L 2 with z | z
  · have e : fX13_turnsOf_L4 eg_F h 54 (nI f) 0 1 = some (nI (trn hg L), h) := by
      rw [eg_F_eq, fX13_turnsOf_L4, gR_54 hs, rf_54_31 hs, Option.bind_some, MF_l F, Option.bind_some]
      rcases (by omega : L = 0 ∨ L = 1) with rfl | rfl
      · rw [if_pos (by decide)]; rfl
      · rw [if_pos (by decide)]; rfl
    rw [e, Option.bind_some]
  · have e := M_trn_L F (L - 2) 0 eg_F (by omega) (by rw [eg_F_eq]; omega)
    have e' : fX13_turnsOf_L4 eg_F h 54 (nI f) 0 1 = _ := e
    rw [e', Option.bind_some]
theorem M_filmC (R : RI h σ) (f w : Int32) : ∃ h', fX13_film h 54 f w = some (aFilm σ f w, h') ∧ ROk h h' σ := by
  obtain ⟨R0, Q0⟩ := R_0 R
  have hs := R.1
  have s0 := R0.1
  have hP := RI_P R
  unfold fX13_film aFilm
  rw [if_pos (iO_54 hs), pI_54 hs, Option.bind_some]
  rw [M_isFilm R0 f, Option.bind_some]
  dsimp only
  rw [g01]
  by_cases c1 : gFm σ f
  rotate_left
  · rw [if_neg c1, if_neg (fun z => c1 z.1)]; exact ⟨_, rfl, ROk_scr R Q0⟩
  rw [if_pos c1]
  rw [M_GI (lo := 0) (hi := 1) _ w (by omega) (by omega) 0 1 rfl rfl, Option.bind_some]
  dsimp only
  rw [g01]
  by_cases c3 : GI (nI 0) (nI 1) w
  rotate_left
  · rw [if_neg c3, if_neg (fun z => c3 z.2)]; exact ⟨_, rfl, ROk_scr R Q0⟩
  rw [if_pos c3]
  rw [if_pos (show gFm σ f ∧ GI (nI 0) (nI 1) w from ⟨c1, c3⟩)]
  have h4 := R.2.1.2.2.2.1.1
  obtain ⟨n, hn, rfl⟩ := G1_n (by omega) c1
  have F := M_filmOf R0 hn
  refine ⟨_, ?_, ROk_scr R Q0⟩
  rw [dN_n (by omega)]
  by_cases w0 : w = 0
  · rw [if_pos w0, if_pos w0, M_trn F, Option.bind_some]
  · rw [if_neg w0, if_neg w0, gR_54 s0, rf_54_31 s0, Option.bind_some, MF_l F, Option.bind_some]
end FM
