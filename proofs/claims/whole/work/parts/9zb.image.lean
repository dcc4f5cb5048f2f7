def stI (σ : eg_S) : eg_S := (fun j => if j = 9 then σ.1 8 else if j = 10 then 1 else σ.1 j, fun r => if r = 7 then σ.2 6 else if r = 8 then (fun i => nI (sU σ i)) else σ.2 r)
def aImage (σ : eg_S) : Int32 := if sP σ = 0 then -1 else nI (σ.1 8)
def sImage (σ : eg_S) : eg_S := if sP σ = 0 then σ else stI σ
def stB (σ : eg_S) : eg_S := (fun j => if j = 8 then σ.1 9 else if j = 11 then σ.1 11 + 1 else σ.1 j, fun r => if r = 6 then σ.2 7 else if r = 1 then (fun i => if i < 4 then nI (dN (σ.2 8 i)) else σ.2 1 i) else σ.2 r)
def aBack (σ : eg_S) : Int32 := if σ.1 10 = 0 then -1 else nI (σ.1 9)
def sBack (σ : eg_S) : eg_S := if σ.1 10 = 0 then σ else stB σ
section IM
variable {h h' : eg_H} {σ : eg_S} {B : Nat × Nat}
theorem W_image (W : Wσ σ) (hP : ¬ sP σ = 0) : Wσ (stI σ) := by
  obtain ⟨w1, w2, w3, w4, w5, w6, w7, w8, w9, w10⟩ := W
  have hU := (w2.2.2.2 (by omega)).2.2
  refine ⟨w1, w2, w3, w4, w5, w6, w7, w7, Nat.le_refl _, fun _ => ?_⟩
  show 0 < sP σ ∧ dN (nI (sU σ 0)) ≤ 9 ∧ dN (nI (sU σ 1)) ≤ 1 ∧ 1 ≤ dN (nI (sU σ 2)) ∧ dN (nI (sU σ 2)) ≤ 9 ∧ 1 ≤ dN (nI (sU σ 3)) ∧ dN (nI (sU σ 3)) ≤ 60
  obtain ⟨a1, a2, a3, a4, a5, a6, a7, a8⟩ := hU.1
  rw [dN_n (by omega), dN_n (by omega), dN_n (by omega), dN_n (by omega)]
  exact ⟨by omega, a3, a4, a5, a6, a7, a8⟩
theorem X_im_L (X : XI h σ B) : ∀ j i g F, i + j = 4 → j < F → eg_eq [(35, none)] h g → (∀ m, m < i → eg_I g 35 m = nI (sU σ m)) → ∃ g', fX12_image_L14 F g 16 (nI i) = some (16, g') ∧ eg_eq [(35, none)] h g' ∧ ∀ m, m < 4 → eg_I g' 35 m = nI (sU σ m) := by
  intro j
  induction j with
  | zero =>
    intro i g F hi hF Q H
    obtain ⟨F, rfl⟩ : ∃ F', F = F' + 1 := ⟨F - 1, by omega⟩
    obtain rfl : i = 4 := by omega
    exact ⟨g, by rw [fX12_image_L14, if_pos (by decide)], Q, H⟩
  | succ j ih =>
    intro i g F hi hF Q H
    obtain ⟨F, rfl⟩ : ∃ F', F = F' + 1 := ⟨F - 1, by omega⟩
    have sg : eg_stt g := eq_stt Q X.2.2.1.1 (by decide)
    have V : XV g (sU σ) (sP σ) (sE σ) := XV_eq X.2.2.1.2.1 (gr_eq Q (by decide)) ⟨rfl, rfl, fun _ => rfl⟩
    have hcl : (nI i).toNatClampNeg = i := nI_clamp (by omega)
    rw [fX12_image_L14, if_neg (show ¬ (4 : Int32) ≤ nI i from nI_ge (b := 4) (by omega) (by omega)), gR_16 sg, rf_16_13 sg, Option.bind_some, gR_16 sg, rf_16_3 sg, Option.bind_some, X_told sg V (by omega), Option.bind_some]
    dsimp only
    rw [wI_35 sg (nI_pos (by omega)) (by rw [hcl]; omega), hcl, Option.bind_some, nI_1]
    exact ih (i + 1) (eg_sI g 35 i (nI (sU σ i))) F (by omega) (by omega) (eq_sI Q (by rfl)) (fun m hm => by
      rw [I_sI]
      by_cases c : m = i
      · subst c; rw [if_pos ⟨rfl, rfl⟩]
      · rw [if_neg (fun z => c z.2)]; exact H m (by omega))
theorem X_copy_L {p q n : Nat} {r : Nat → Int32} (hp : p = 31 ∨ p = 33) (hq : q = 31 ∨ q = 33) (hne : ¬ p = q) (hn : n ≤ 40) : ∀ j i h F, i + j = n → j < F → eg_stt h → Bk h q 40 n r → Bk h p 40 i r → ∃ h', fX1_copyFrom_L7 F h p q (nI i) = some h' ∧ eg_eq (SBk p) h h' ∧ Bk h' p 40 n r := by
  have hpB : isB p := by unfold isB; omega
  have hqB : isB q := by unfold isB; omega
  intro j
  induction j with
  | zero =>
    intro i h F hi hF hs b1 b2
    obtain ⟨F, rfl⟩ : ∃ F', F = F' + 1 := ⟨F - 1, by omega⟩
    obtain rfl : i = n := by omega
    refine ⟨h, ?_, eq_rfl, b2⟩
    rw [fX1_copyFrom_L7, X_size hs hqB b1, Option.bind_some]
    dsimp only
    rw [if_pos (nI_le (Nat.le_refl _) (by omega))]
  | succ j ih =>
    intro i h F hi hF hs b1 b2
    obtain ⟨F, rfl⟩ : ∃ F', F = F' + 1 := ⟨F - 1, by omega⟩
    have ce : ∀ c, c < 4 → fX1_cell h q (nI i) (nI c) = some (r (4 * i + c), h) := fun c hc => X_cell hs hqB b1 (by rw [if_neg (by omega)]; omega) (by omega) hc
    obtain ⟨h1, e1, E1, b3⟩ := X_add hs hpB b2 (by rw [if_neg (by omega)]) (show i < 40 by omega) (r (4 * i)) (r (4 * i + 1)) (r (4 * i + 2)) (r (4 * i + 3))
    have s1 : eg_stt h1 := eq_stt E1 hs (by rcases hp with rfl | rfl <;> decide)
    have b4 : Bk h1 p 40 (i + 1) r := ⟨b3.1, b3.2.1, fun k hk => by
      rw [b3.2.2 k hk]
      unfold rw4
      by_cases c0 : k = 4 * i
      · rw [if_pos c0, c0]
      rw [if_neg c0]
      by_cases c1 : k = 4 * i + 1
      · rw [if_pos c1, c1]
      rw [if_neg c1]
      by_cases c2 : k = 4 * i + 2
      · rw [if_pos c2, c2]
      rw [if_neg c2]
      by_cases c3 : k = 4 * i + 3
      · rw [if_pos c3, c3]
      rw [if_neg c3]⟩
    obtain ⟨h2, e2, E2, b5⟩ := ih (i + 1) h1 F (by omega) (by omega) s1 (Bk_eq hpB hqB hne b1 E1) b4
    refine ⟨h2, ?_, eq_tr E1 E2, b5⟩
    have c0 : fX1_cell h q (nI i) 0 = some (r (4 * i), h) := ce 0 (by omega)
    have c1 : fX1_cell h q (nI i) 1 = some (r (4 * i + 1), h) := ce 1 (by omega)
    have c2 : fX1_cell h q (nI i) 2 = some (r (4 * i + 2), h) := ce 2 (by omega)
    have c3 : fX1_cell h q (nI i) 3 = some (r (4 * i + 3), h) := ce 3 (by omega)
    rw [fX1_copyFrom_L7, X_size hs hqB b1, Option.bind_some]
    dsimp only
    rw [if_neg (nI_ge (by omega) (by omega)), c0, Option.bind_some]
    dsimp only
    rw [c1, Option.bind_some]
    dsimp only
    rw [c2, Option.bind_some]
    dsimp only
    rw [c3, Option.bind_some]
    dsimp only
    rw [e1, Option.bind_some, nI_1]
    exact e2
theorem X_copy {p q n m : Nat} {r r' : Nat → Int32} (hp : p = 31 ∨ p = 33) (hq : q = 31 ∨ q = 33) (hne : ¬ p = q) (hn : n ≤ 40) (hs : eg_stt h) (b1 : Bk h q 40 n r) (b2 : Bk h p 40 m r') : ∃ h', fX1_copyFrom h p q = some h' ∧ eg_eq (SBk p) h h' ∧ Bk h' p 40 n r := by
  have hpB : isB p := by unfold isB; omega
  have hqB : isB q := by unfold isB; omega
  obtain ⟨o1, o2, o3⟩ := B_o hs hpB
  have E0 : eg_eq (SBk p) h (eg_sI h p 2 0) := eq_sI eq_rfl (by rcases hp with rfl | rfl <;> rfl)
  have s0 : eg_stt (eg_sI h p 2 0) := hs
  have b0 : Bk (eg_sI h p 2 0) p 40 0 r := ⟨by rw [I_sI, if_neg (by omega)]; exact b2.1, by rw [I_sI, if_pos ⟨rfl, rfl⟩]; rfl, fun k hk => by omega⟩
  obtain ⟨h1, e1, E1, b3⟩ := X_copy_L hp hq hne hn n 0 (eg_sI h p 2 0) eg_F (by omega) (by rw [eg_F_eq]; omega) s0 (Bk_eq hpB hqB hne b1 E0) b0
  have e1' : fX1_copyFrom_L7 eg_F (eg_sI h p 2 0) p q 0 = some h1 := e1
  refine ⟨h1, ?_, eq_tr E0 E1, b3⟩
  unfold fX1_copyFrom
  rw [if_pos o1, show eg_pI h 1 2 p 0 = some (eg_sI h p 2 0) from if_pos o1, Option.bind_some, e1', Option.bind_some]
theorem X_image (X : XI h σ B) : ∃ h', fX12_image h 16 = some (aImage σ, h') ∧ XOk h h' (sImage σ) B := by
  have C := X.2.2.1
  have hs := C.1
  have hP := XI_P X
  have h40 := X.1.2.2.2.2.2.2.1
  unfold fX12_image aImage sImage
  rw [if_pos (iO_16 hs), gR_16 hs, rf_16_3 hs, Option.bind_some, X_isTold X, Option.bind_some]
  dsimp only
  by_cases c1 : sP σ = 0
  · rw [if_pos c1, if_pos rfl, if_pos c1, if_pos c1]; exact ⟨h, rfl, XOk_rfl X⟩
  rw [if_neg c1, if_neg (show ¬ (1 : Int32) = 0 by decide), if_neg c1, if_neg c1]
  obtain ⟨h1, e1, E1, H1⟩ := X_im_L X 4 0 h eg_F (by omega) (by rw [eg_F_eq]; omega) eq_rfl (fun m hm => by omega)
  have e1' : fX12_image_L14 eg_F h 16 0 = some (16, h1) := e1
  obtain ⟨W, t, _, lb, f, ⟨k1, k2, k3, k4⟩, j⟩ := X
  have G1 := gr_eq E1 (by decide)
  have s1 : eg_stt h1 := eq_stt E1 hs (by decide)
  have k31 : Bk h1 31 40 (σ.1 8) (σ.2 6) := Bk_g G1 (by omega) ⟨⟨rfl, rfl⟩, fun _ => rfl⟩ k3
  have k41 : Bk h1 33 40 (σ.1 9) (σ.2 7) := Bk_g G1 (by omega) ⟨⟨rfl, rfl⟩, fun _ => rfl⟩ k4
  obtain ⟨h2, e2, E2, b2⟩ := X_copy (p := 33) (q := 31) (Or.inr rfl) (Or.inl rfl) (by omega) h40 s1 k31 k41
  have s2 : eg_stt h2 := eq_stt E2 s1 (by decide)
  have E3 : eg_eq [(35, none), (33, some 2), (34, none), (16, some 14)] h (eg_sI h2 16 14 1) := eq_sI (eq_tr (cov_sub (by decide) E1) (cov_sub (S := SBk 33) (by decide) E2)) rfl
  have G3 := gr_eq E3 (by decide)
  have s3 : eg_stt (eg_sI h2 16 14 1) := s2
  have C3 : XC (eg_sI h2 16 14 1) (sU σ) (sP σ) (sE σ) (sL σ) (eg_P h 36 2) (σ.1 11) B := XC_low C E3 (by decide) (by decide) ⟨rfl, rfl, rfl, rfl, fun _ => ⟨rfl, rfl⟩⟩
  have C3' : XC (eg_sI h2 16 14 1) (sU σ) (sP σ) (sE σ) (sL σ) (eg_P (eg_sI h2 16 14 1) 36 2) (σ.1 11) B := by rw [C3.2.2.1]; exact C3
  have l' : XBl (eg_sI h2 16 14 1) σ := XBl_g G3 ⟨⟨rfl, rfl, rfl⟩, fun _ => rfl⟩ lb
  have f' : XBf (eg_sI h2 16 14 1) σ := XBf_g G3 ⟨rfl, fun _ => rfl⟩ f
  have t' : tapeX σ (eg_sI h2 16 14 1) := tapeX_g G3 ⟨rfl, fun _ => rfl⟩ t
  have q1 : Bk (eg_sI h2 16 14 1) 27 20 (σ.1 6) (σ.2 4) := Bk_g G3 (by omega) ⟨⟨rfl, rfl⟩, fun _ => rfl⟩ k1
  have q2 : Bk (eg_sI h2 16 14 1) 29 20 (σ.1 7) (σ.2 5) := Bk_g G3 (by omega) ⟨⟨rfl, rfl⟩, fun _ => rfl⟩ k2
  have q3 : Bk (eg_sI h2 16 14 1) 31 40 (σ.1 8) (σ.2 6) := Bk_g G3 (by omega) ⟨⟨rfl, rfl⟩, fun _ => rfl⟩ k3
  have q4 : Bk (eg_sI h2 16 14 1) 33 40 (σ.1 8) (σ.2 6) := ⟨by rw [I_sI, if_neg (by omega)]; exact b2.1, by rw [I_sI, if_neg (by omega)]; exact b2.2.1, fun k hk => by rw [I_sI, if_neg (by omega)]; exact b2.2.2 k hk⟩
  have hU := (W.2.1.2.2.2 (by omega)).2.2
  have j' : XBj (eg_sI h2 16 14 1) (stI σ) := by
    refine ⟨by rw [I_sI, if_pos ⟨rfl, rfl⟩]; rfl, fun i hi _ => ?_⟩
    show eg_I (eg_sI h2 16 14 1) 35 i = nI (dN (nI (sU σ i)))
    have hb : sU σ i < 2 ^ 31 := by
      obtain ⟨a1, a2, a3, a4, a5, a6, a7, a8⟩ := hU.1
      rcases (by omega : i = 0 ∨ i = 1 ∨ i = 2 ∨ i = 3) with rfl | rfl | rfl | rfl <;> omega
    rw [I_sI, if_neg (by omega), (E2.2 35 i rfl).1, H1 i hi, dN_n hb]
  refine ⟨eg_sI h2 16 14 1, ?_, XI_in (W_image W c1) t' C3' l' f' q1 q2 q3 q4 j', gc_g G3 (by decide)⟩
  rw [e1', Option.bind_some]
  dsimp only
  rw [gR_16 s1, rf_16_12 s1, Option.bind_some, gR_16 s1, rf_16_11 s1, Option.bind_some, e2, Option.bind_some, pZ_16 s2 (Or.inr rfl), Option.bind_some]
  show ((eg_gR (eg_sI h2 16 14 1) 12 11 16).bind _) = _
  rw [gR_16 s3, rf_16_11 s3, Option.bind_some, X_size s3 (Or.inr (Or.inr (Or.inl rfl))) q3, Option.bind_some]
theorem W_back (W : Wσ σ) (h1 : σ.1 10 = 1) : Wσ (stB σ) := by
  obtain ⟨w1, w2, w3, w4, w5, w6, w7, w8, w9, w10⟩ := W
  obtain ⟨b1, b2, b3, b4, b5, b6, b7⟩ := w10 h1
  have hU := (w2.2.2.2 b1)
  have e4 : ∀ x, x < 4 → sU (stB σ) x = dN (nI (dN (σ.2 8 x))) := fun x hx => by
    show dN (if x < 4 then _ else _) = _
    rw [if_pos hx]
  have e5 : ∀ x, 4 ≤ x → sU (stB σ) x = sU σ x := fun x hx => by
    show dN (if x < 4 then _ else _) = _
    rw [if_neg (by omega)]
    rfl
  refine ⟨w1, ⟨w2.1, w2.2.1, fun z => absurd z (by show ¬ sP σ = 0; omega), fun _ => ⟨hU.1, hU.2.1, ?_⟩⟩, w3, w4, w5, w6, w8, w8, w9, w10⟩
  obtain ⟨⟨a1, a2, a3, a4, a5, a6, a7, a8⟩, hp, he⟩ := hU.2.2
  refine ⟨⟨a1, a2, ?_, ?_, ?_, ?_, ?_, ?_⟩, fun p hp' => ?_, fun e he' => ?_⟩
  · rw [e4 0 (by omega), dN_n (by omega)]; exact b2
  · rw [e4 1 (by omega), dN_n (by omega)]; exact b3
  · rw [e4 2 (by omega), dN_n (by omega)]; exact b4
  · rw [e4 2 (by omega), dN_n (by omega)]; exact b5
  · rw [e4 3 (by omega), dN_n (by omega)]; exact b6
  · rw [e4 3 (by omega), dN_n (by omega)]; exact b7
  · rw [e5 _ (by omega), e5 _ (by omega), e5 _ (by omega), e5 _ (by omega)]; exact hp p hp'
  · rw [e5 _ (by omega), e5 _ (by omega)]; exact he e he'
theorem X_ba_L (hs : eg_stt h) (H0 : ∀ m, m < 4 → eg_I h 35 m = nI (dN (σ.2 8 m))) : ∀ j i g F, i + j = 4 → j < F → eg_eq [(24, none)] h g → (∀ m, m < i → eg_I g 24 m = nI (dN (σ.2 8 m))) → (∀ m, 4 ≤ m → eg_I g 24 m = eg_I h 24 m) → ∃ g', fX12_back_L11 F g 16 (nI i) = some (16, g') ∧ eg_eq [(24, none)] h g' ∧ (∀ m, m < 4 → eg_I g' 24 m = nI (dN (σ.2 8 m))) ∧ ∀ m, 4 ≤ m → eg_I g' 24 m = eg_I h 24 m := by
  intro j
  induction j with
  | zero =>
    intro i g F hi hF Q H1 H2
    obtain ⟨F, rfl⟩ : ∃ F', F = F' + 1 := ⟨F - 1, by omega⟩
    obtain rfl : i = 4 := by omega
    exact ⟨g, by rw [fX12_back_L11, if_pos (by decide)], Q, H1, H2⟩
  | succ j ih =>
    intro i g F hi hF Q H1 H2
    obtain ⟨F, rfl⟩ : ∃ F', F = F' + 1 := ⟨F - 1, by omega⟩
    have sg : eg_stt g := eq_stt Q hs (by decide)
    have hcl : (nI i).toNatClampNeg = i := nI_clamp (by omega)
    have et : fX7_tell g 23 (nI i) (nI (dN (σ.2 8 i))) = some (eg_sI g 24 i (nI (dN (σ.2 8 i)))) := by
      unfold fX7_tell
      rw [if_pos (iO_23 sg), if_neg (nI_pos (by omega)), if_neg (show ¬ (4 : Int32) ≤ nI i from nI_ge (b := 4) (by omega) (by omega)), gR_23 sg, rf_23_0 sg, Option.bind_some, wI_24 sg (nI_pos (by omega)) (by rw [hcl]; omega), hcl, Option.bind_some]
    rw [fX12_back_L11, if_neg (show ¬ (4 : Int32) ≤ nI i from nI_ge (b := 4) (by omega) (by omega)), gR_16 sg, rf_16_3 sg, Option.bind_some, gR_16 sg, rf_16_13 sg, Option.bind_some, aI_35 sg (nI_pos (by omega)) (by rw [hcl]; omega), hcl, Option.bind_some, (Q.2 35 i rfl).1, H0 i (by omega), et, Option.bind_some, nI_1]
    exact ih (i + 1) (eg_sI g 24 i (nI (dN (σ.2 8 i)))) F (by omega) (by omega) (eq_sI Q (by rfl)) (fun m hm => by
      rw [I_sI]
      by_cases c : m = i
      · subst c; rw [if_pos ⟨rfl, rfl⟩]
      · rw [if_neg (fun z => c z.2)]; exact H1 m (by omega)) (fun m hm => by rw [I_sI, if_neg (by omega)]; exact H2 m hm)
theorem X_back (X : XI h σ B) (he : σ.1 11 + 1 < 2 ^ 30) : ∃ h', fX12_back h 16 = some (aBack σ, h') ∧ XOk h h' (sBack σ) B := by
  have C := X.2.2.1
  have hs := C.1
  have hP := XI_P X
  have h40 := X.1.2.2.2.2.2.2.2.1
  have h10 := X.1.2.2.2.2.2.2.2.2.1
  unfold fX12_back aBack sBack
  rw [if_pos (iO_16 hs), gI_16 hs, Option.bind_some, X.2.2.2.2.2.2.1]
  by_cases c1 : σ.1 10 = 0
  · rw [if_pos (show nI (σ.1 10) = 0 by rw [c1]; rfl), if_pos c1, if_pos c1]; exact ⟨h, rfl, XOk_rfl X⟩
  rw [if_neg (nI_ne0 (by omega) (by omega)), if_neg c1, if_neg c1]
  have c10 : σ.1 10 = 1 := by omega
  obtain ⟨W, t, _, lb, f, ⟨k1, k2, k3, k4⟩, j⟩ := X
  obtain ⟨h1, e1, E1, H1, H2⟩ := X_ba_L (σ := σ) hs (fun m hm => j.2 m hm c10) 4 0 h eg_F (by omega) (by rw [eg_F_eq]; omega) eq_rfl (fun m hm => by omega) (fun m _ => rfl)
  have e1' : fX12_back_L11 eg_F h 16 0 = some (16, h1) := e1
  have G1 := gr_eq E1 (by decide)
  have s1 : eg_stt h1 := eq_stt E1 hs (by decide)
  have k31 : Bk h1 31 40 (σ.1 8) (σ.2 6) := Bk_g G1 (by omega) ⟨⟨rfl, rfl⟩, fun _ => rfl⟩ k3
  have k41 : Bk h1 33 40 (σ.1 9) (σ.2 7) := Bk_g G1 (by omega) ⟨⟨rfl, rfl⟩, fun _ => rfl⟩ k4
  obtain ⟨h2, e2, E2, b2⟩ := X_copy (p := 31) (q := 33) (Or.inl rfl) (Or.inr rfl) (by omega) h40 s1 k41 k31
  have s2 : eg_stt h2 := eq_stt E2 s1 (by decide)
  have E12 : eg_eq [(24, none), (31, some 2), (32, none), (38, some 3)] h h2 := eq_tr (cov_sub (by decide) E1) (cov_sub (S := SBk 31) (by decide) E2)
  have v38 : eg_I h2 38 3 = nI (σ.1 11) := by rw [(E2.2 38 3 rfl).1, (E1.2 38 3 rfl).1]; exact C.2.2.2.2.1
  let h3 := eg_sI h2 38 3 (nI (σ.1 11 + 1))
  have E3 : eg_eq [(24, none), (31, some 2), (32, none), (38, some 3)] h h3 := eq_sI E12 rfl
  have G3 := gr_eq E3 (by decide)
  have s3 : eg_stt h3 := s2
  have W' := W_back W c10
  have e4 : ∀ x, x < 4 → sU (stB σ) x = dN (nI (dN (σ.2 8 x))) := fun x hx => by
    show dN (if x < 4 then _ else _) = _
    rw [if_pos hx]
  have e5 : ∀ x, 4 ≤ x → sU (stB σ) x = sU σ x := fun x hx => by
    show dN (if x < 4 then _ else _) = _
    rw [if_neg (by omega)]
    rfl
  obtain ⟨b1, bb2, bb3, bb4, bb5, bb6, bb7⟩ := W.2.2.2.2.2.2.2.2.2 c10
  have hI : ∀ p i, ¬ p = 38 → ¬ p = 31 → ¬ p = 32 → eg_I h3 p i = eg_I h1 p i := fun p i z1 z2 z3 => by
    show eg_I (eg_sI h2 38 3 (nI (σ.1 11 + 1))) p i = _
    rw [I_sI, if_neg (fun z => z1 z.1)]
    refine (E2.2 p i ?_).1
    unfold SBk eg_cov
    have q1 : (31 == p) = false := by simp; omega
    have q2 : (31 + 1 == p) = false := by simp; omega
    simp only [List.any_cons, List.any_nil, q1, q2, Bool.false_and, Bool.or_false]
  have V3 : XV h3 (sU (stB σ)) (sP σ) (sE σ) := by
    refine ⟨by rw [hI 23 1 (by omega) (by omega) (by omega), (E1.2 23 1 rfl).1]; exact C.2.1.1, by rw [hI 23 2 (by omega) (by omega) (by omega), (E1.2 23 2 rfl).1]; exact C.2.1.2.1, fun x hx => ?_⟩
    rw [hI 24 x (by omega) (by omega) (by omega)]
    rcases Nat.lt_or_ge x 4 with z | z
    · rw [H1 x z, e4 x z]
      have hb : dN (σ.2 8 x) < 2 ^ 31 := by rcases (by omega : x = 0 ∨ x = 1 ∨ x = 2 ∨ x = 3) with rfl | rfl | rfl | rfl <;> omega
      rw [dN_n hb]
    · rw [H2 x z, e5 x z]; exact C.2.1.2.2 x hx
  have C3 : XC h3 (sU (stB σ)) (sP σ) (sE σ) (sL σ) (eg_P h3 36 2) (σ.1 11 + 1) B := ⟨s3, V3, rfl, by
    have : eg_P h3 36 2 = eg_P h 36 2 := (E3.2 36 2 rfl).2.2
    rw [this]; exact gr_XL G3 C.2.2.2.1, XK_new C.2.2.2.2 E3 (by show eg_I (eg_sI h2 38 3 _) 38 3 = _; rw [I_sI, if_pos ⟨rfl, rfl⟩]) he (by decide) (fun _ => rfl)⟩
  have l' : XBl h3 σ := XBl_g G3 ⟨⟨rfl, rfl, rfl⟩, fun _ => rfl⟩ lb
  have f' : XBf h3 σ := XBf_g G3 ⟨rfl, fun _ => rfl⟩ f
  have t' : tapeX σ h3 := tapeX_g G3 ⟨rfl, fun _ => rfl⟩ t
  have j' : XBj h3 σ := XBj_g G3 ⟨rfl, fun _ => rfl⟩ j
  have q1 : Bk h3 27 20 (σ.1 6) (σ.2 4) := Bk_g G3 (by omega) ⟨⟨rfl, rfl⟩, fun _ => rfl⟩ k1
  have q2 : Bk h3 29 20 (σ.1 7) (σ.2 5) := Bk_g G3 (by omega) ⟨⟨rfl, rfl⟩, fun _ => rfl⟩ k2
  have q4 : Bk h3 33 40 (σ.1 9) (σ.2 7) := Bk_g G3 (by omega) ⟨⟨rfl, rfl⟩, fun _ => rfl⟩ k4
  have q3 : Bk h3 31 40 (σ.1 9) (σ.2 7) := ⟨by show eg_I (eg_sI h2 38 3 _) 31 1 = _; rw [I_sI, if_neg (by omega)]; exact b2.1, by show eg_I (eg_sI h2 38 3 _) 31 2 = _; rw [I_sI, if_neg (by omega)]; exact b2.2.1, fun k hk => by show eg_I (eg_sI h2 38 3 _) 32 k = _; rw [I_sI, if_neg (by omega)]; exact b2.2.2 k hk⟩
  refine ⟨h3, ?_, XI_in W' t' C3 l' f' q1 q2 q3 q4 j', gc_g G3 (by decide)⟩
  rw [e1', Option.bind_some]
  dsimp only
  rw [gR_16 s1, rf_16_11 s1, Option.bind_some, gR_16 s1, rf_16_12 s1, Option.bind_some, e2, Option.bind_some, gR_16 s2, rf_16_16 s2, Option.bind_some]
  unfold fX0_forget
  rw [if_pos (iO_38 s2), gI_38 s2, Option.bind_some, v38, nI_1, pI_38 s2, Option.bind_some, Option.bind_some]
  show ((eg_gR h3 12 11 16).bind _) = _
  rw [gR_16 s3, rf_16_11 s3, Option.bind_some, X_size s3 (Or.inr (Or.inr (Or.inl rfl))) q3, Option.bind_some]
end IM
