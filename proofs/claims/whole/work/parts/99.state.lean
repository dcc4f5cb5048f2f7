def dN (x : Int32) : Nat := x.toInt.toNat
def sU (σ : eg_S) : Nat → Nat := fun x => dN (σ.2 1 x)
def sP (σ : eg_S) : Nat := σ.1 1
def sE (σ : eg_S) : Nat := σ.1 2
def sN (σ : eg_S) : Nat := σ.1 3
def sF (σ : eg_S) : Nat := σ.1 5
def laT (σ : eg_S) (j : Nat) : Nat → Int32 := fun i => if i < 160 then σ.2 10 (160 * j + i) else 0
def laN (σ : eg_S) (j : Nat) : Nat := dN (σ.2 9 j)
def lwJ (σ : eg_S) (j : Nat) : eg_LW := match pLaw (laT σ j) (laN σ j) with
  | .inr w => some w.2
  | .inl _ => none
def sL (σ : eg_S) : eg_LW := if σ.1 4 = 0 then none else lwJ σ (σ.1 4 - 1)
def Wσ (σ : eg_S) : Prop := tapeB σ ∧ (sP σ ≤ 6 ∧ sE σ ≤ 6 ∧ (sP σ = 0 → sE σ = 0 ∧ ∀ x, x < 4 → sU σ x = 0) ∧ (0 < sP σ → 2 ≤ sP σ ∧ 1 ≤ sE σ ∧ Uok (sU σ) (sP σ) (sE σ))) ∧ (sN σ ≤ 4 ∧ σ.1 4 ≤ sN σ ∧ ∀ j, j < sN σ → laN σ j ≤ 160 ∧ byt (laN σ j) (laT σ j) ∧ ∃ w, pLaw (laT σ j) (laN σ j) = .inr w) ∧ (sF σ ≤ 4 ∧ ∀ f, f < sF σ → dN (σ.2 3 f) ≤ 24 ∧ ∀ k, k < dN (σ.2 3 f) → ∃ v, v ≤ 9 ∧ σ.2 2 (24 * f + k) = nI v) ∧
  (σ.1 6 ≤ 20 ∧ ∀ i, i < σ.1 6 → ∃ e f b, e < 6 ∧ f ≤ 999 ∧ b ≤ 1 ∧ σ.2 4 (4 * i) = nI e ∧ σ.2 4 (4 * i + 1) = nI f ∧ σ.2 4 (4 * i + 2) = nI b) ∧
  (σ.1 7 ≤ 20 ∧ ∀ i, i < σ.1 7 → ∃ r y b d off f, r < sP σ ∧ 1 ≤ y ∧ y ≤ 60 ∧ b ≤ 9 ∧ d ≤ 1 ∧ (-99 ≤ off ∧ off ≤ 99) ∧ f ≤ 999 ∧ σ.2 5 (4 * i) = nI r ∧ σ.2 5 (4 * i + 1) = nI (100 * y + 10 * b + d) ∧ σ.2 5 (4 * i + 2) = iI off ∧ σ.2 5 (4 * i + 3) = nI f) ∧
  (σ.1 8 ≤ 40 ∧ σ.1 9 ≤ 40 ∧ σ.1 10 ≤ 1 ∧ (σ.1 10 = 1 → 0 < sP σ ∧ dN (σ.2 8 0) ≤ 9 ∧ dN (σ.2 8 1) ≤ 1 ∧ 1 ≤ dN (σ.2 8 2) ∧ dN (σ.2 8 2) ≤ 9 ∧ 1 ≤ dN (σ.2 8 3) ∧ dN (σ.2 8 3) ≤ 60))
def Bk (h : eg_H) (p most n : Nat) (row : Nat → Int32) : Prop := eg_I h p 1 = nI most ∧ eg_I h p 2 = nI n ∧ ∀ k, k < 4 * n → eg_I h (p + 1) k = row k
def XB (h : eg_H) (σ : eg_S) : Prop := (eg_I h 16 5 = nI (sN σ) ∧ eg_I h 16 6 = iI ((σ.1 4 : Int) - 1) ∧ (∀ j, j < sN σ → ∃ p w, eg_P h 25 j = some p ∧ 95 ≤ p ∧ pLaw (laT σ j) (laN σ j) = .inr w ∧ Lw h p w.1) ∧ eg_P h 36 2 = if σ.1 4 = 0 then none else eg_P h 25 (σ.1 4 - 1)) ∧ (eg_I h 16 8 = nI (sF σ) ∧ ∀ f, f < sF σ → ∃ p g, eg_P h 26 f = some p ∧ 95 ≤ p ∧ Fl h p (dN (σ.2 3 f)) g ∧ ∀ k, k < dN (σ.2 3 f) → g k = σ.2 2 (24 * f + k)) ∧ (Bk h 27 20 (σ.1 6) (σ.2 4) ∧ Bk h 29 20 (σ.1 7) (σ.2 5) ∧ Bk h 31 40 (σ.1 8) (σ.2 6) ∧ Bk h 33 40 (σ.1 9) (σ.2 7)) ∧ eg_I h 16 14 = nI (σ.1 10) ∧ ∀ i, i < 4 → σ.1 10 = 1 → eg_I h 35 i = nI (dN (σ.2 8 i))
def XI (h : eg_H) (σ : eg_S) (B : Nat × Nat) : Prop := Wσ σ ∧ tapeX σ h ∧ XC h (sU σ) (sP σ) (sE σ) (sL σ) (eg_P h 36 2) (σ.1 11) B ∧ XB h σ
def RB (h : eg_H) (σ : eg_S) : Prop := (eg_I h 54 7 = nI (sN σ) ∧ eg_I h 54 34 = iI ((σ.1 4 : Int) - 1) ∧ ∀ j, j < sN σ → eg_I h 57 j = nI (laN σ j) ∧ ∀ i, i < laN σ j → eg_I h 56 (160 * j + i) = (laT σ j i).toInt8.toInt32) ∧ (eg_I h 54 32 = nI (sF σ) ∧ ∀ f, f < sF σ → eg_I h 67 f = nI (dN (σ.2 3 f)) ∧ ∀ k, k < dN (σ.2 3 f) → eg_I h 65 (24 * f + k) = σ.2 2 (24 * f + k)) ∧ (eg_I h 54 49 = nI (σ.1 6) ∧ ∀ i, i < σ.1 6 → eg_I h 72 i = σ.2 4 (4 * i) ∧ eg_I h 73 i = σ.2 4 (4 * i + 1) ∧ eg_I h 74 i = σ.2 4 (4 * i + 2)) ∧ (eg_I h 54 65 = nI (σ.1 7) ∧ ∀ i, i < σ.1 7 → eg_I h 82 i = σ.2 5 (4 * i) ∧ eg_I h 83 i = σ.2 5 (4 * i + 1) ∧ eg_I h 84 i = σ.2 5 (4 * i + 2) ∧ eg_I h 85 i = σ.2 5 (4 * i + 3)) ∧ (eg_I h 54 72 = nI (σ.1 8) ∧ ∀ i, i < σ.1 8 → eg_I h 87 i = σ.2 6 (4 * i) ∧ eg_I h 88 i = σ.2 6 (4 * i + 1) ∧ eg_I h 89 i = σ.2 6 (4 * i + 2)) ∧ (eg_I h 54 77 = nI (σ.1 9) ∧ ∀ i, i < σ.1 9 → eg_I h 91 i = σ.2 7 (4 * i) ∧ eg_I h 92 i = σ.2 7 (4 * i + 1) ∧ eg_I h 93 i = σ.2 7 (4 * i + 2)) ∧ eg_I h 54 78 = nI (σ.1 10) ∧ ∀ i, i < 4 → σ.1 10 = 1 → eg_I h 90 i = nI (dN (σ.2 8 i))
def RI (h : eg_H) (σ : eg_S) : Prop := eg_stt h ∧ Wσ σ ∧ tapeM σ h ∧ RV h (sU σ) (sP σ) (sE σ) ∧ RB h σ
theorem RI_RL {h : eg_H} {σ : eg_S} (R : RI h σ) : RL h (sL σ) := by
  obtain ⟨hs, W, _, _, ⟨b1, b2, b3⟩, _⟩ := R
  obtain ⟨_, _, ⟨w1, w2, w3⟩, _⟩ := W
  unfold sL
  by_cases c : σ.1 4 = 0
  · rw [if_pos c]
    show eg_I h 54 34 = -1
    rw [b2, c]
    decide
  · rw [if_neg c]
    obtain ⟨x1, x2, w, x3⟩ := w3 (σ.1 4 - 1) (by omega)
    obtain ⟨y1, y2⟩ := b3 (σ.1 4 - 1) (by omega)
    unfold lwJ
    rw [x3]
    refine ⟨σ.1 4 - 1, laN σ (σ.1 4 - 1), laT σ (σ.1 4 - 1), w, by omega, x1, ?_, y1, x2, y2, x3, rfl⟩
    rw [b2, ← iI_n]
    congr 1
    omega
theorem RI_RO {h : eg_H} {σ : eg_S} (R : RI h σ) (hP : 0 < sP σ) : RO h (sU σ) (sP σ) (sE σ) (sL σ) := ⟨R.1, (R.2.1.2.1.2.2.2 hP).2.2, R.2.2.2.1, RI_RL R⟩
def eg_gc (h h' : eg_H) : Prop := ∀ p i, 54 ≤ p → p < 95 → eg_I h' p i = eg_I h p i ∧ eg_L h' p i = eg_L h p i ∧ eg_P h' p i = eg_P h p i
def eg_rf (h h' : eg_H) : Prop := h'.1 = h.1 ∧ ∀ p i, (p < 54 ∨ 94 ≤ p) → eg_I h' p i = eg_I h p i ∧ eg_L h' p i = eg_L h p i ∧ eg_P h' p i = eg_P h p i
theorem RI_cl {h h' : eg_H} {σ : eg_S} (R : RI h σ) (hs : eg_stt h') (G : eg_gc h h') : RI h' σ := by
  obtain ⟨_, W, ⟨t1, t2⟩, ⟨v1, v2, v3, v4, v5⟩, ⟨b1, b2, b3⟩, ⟨c1, c2⟩, ⟨d1, d2⟩, ⟨e1, e2⟩, ⟨f1, f2⟩, ⟨g1, g2⟩, i1, i2⟩ := R
  have g : ∀ p i, 54 ≤ p → p < 95 → eg_I h' p i = eg_I h p i := fun p i a b => (G p i a b).1
  refine ⟨hs, W, ⟨?_, fun i hi => ?_⟩, ⟨fun x hx => ?_, fun x hx => ?_, fun x hx => ?_, ?_, ?_⟩, ⟨?_, ?_, fun j hj => ⟨?_, fun i hi => ?_⟩⟩, ⟨?_, fun f hf => ⟨?_, fun k hk => ?_⟩⟩, ⟨?_, fun i hi => ⟨?_, ?_, ?_⟩⟩, ⟨?_, fun i hi => ⟨?_, ?_, ?_, ?_⟩⟩, ⟨?_, fun i hi => ⟨?_, ?_, ?_⟩⟩, ⟨?_, fun i hi => ⟨?_, ?_, ?_⟩⟩, ?_, fun i hi hh => ?_⟩
  · rw [g 54 6 (by omega) (by omega)]; exact t1
  · rw [g 55 i (by omega) (by omega)]; exact t2 i hi
  · rw [g 59 x (by omega) (by omega)]; exact v1 x hx
  · rw [g 61 x (by omega) (by omega)]; exact v2 x hx
  · rw [g 63 x (by omega) (by omega)]; exact v3 x hx
  · rw [g 54 24 (by omega) (by omega)]; exact v4
  · rw [g 54 26 (by omega) (by omega)]; exact v5
  · rw [g 54 7 (by omega) (by omega)]; exact b1
  · rw [g 54 34 (by omega) (by omega)]; exact b2
  · rw [g 57 j (by omega) (by omega)]; exact (b3 j hj).1
  · rw [g 56 _ (by omega) (by omega)]; exact (b3 j hj).2 i hi
  · rw [g 54 32 (by omega) (by omega)]; exact c1
  · rw [g 67 f (by omega) (by omega)]; exact (c2 f hf).1
  · rw [g 65 _ (by omega) (by omega)]; exact (c2 f hf).2 k hk
  · rw [g 54 49 (by omega) (by omega)]; exact d1
  · rw [g 72 i (by omega) (by omega)]; exact (d2 i hi).1
  · rw [g 73 i (by omega) (by omega)]; exact (d2 i hi).2.1
  · rw [g 74 i (by omega) (by omega)]; exact (d2 i hi).2.2
  · rw [g 54 65 (by omega) (by omega)]; exact e1
  · rw [g 82 i (by omega) (by omega)]; exact (e2 i hi).1
  · rw [g 83 i (by omega) (by omega)]; exact (e2 i hi).2.1
  · rw [g 84 i (by omega) (by omega)]; exact (e2 i hi).2.2.1
  · rw [g 85 i (by omega) (by omega)]; exact (e2 i hi).2.2.2
  · rw [g 54 72 (by omega) (by omega)]; exact f1
  · rw [g 87 i (by omega) (by omega)]; exact (f2 i hi).1
  · rw [g 88 i (by omega) (by omega)]; exact (f2 i hi).2.1
  · rw [g 89 i (by omega) (by omega)]; exact (f2 i hi).2.2
  · rw [g 54 77 (by omega) (by omega)]; exact g1
  · rw [g 91 i (by omega) (by omega)]; exact (g2 i hi).1
  · rw [g 92 i (by omega) (by omega)]; exact (g2 i hi).2.1
  · rw [g 93 i (by omega) (by omega)]; exact (g2 i hi).2.2
  · rw [g 54 78 (by omega) (by omega)]; exact i1
  · rw [g 90 i (by omega) (by omega)]; exact i2 i hi hh
theorem XB_of {h h' : eg_H} {σ : eg_S} (X : XB h σ) (hI : ∀ p i, (p = 16 ∧ (i = 5 ∨ i = 6 ∨ i = 8 ∨ i = 14)) ∨ (27 ≤ p ∧ p ≤ 35) → eg_I h' p i = eg_I h p i) (hP : ∀ p i, p = 25 ∨ p = 26 ∨ (p = 36 ∧ i = 2) → eg_P h' p i = eg_P h p i) (hL : ∀ p C, 95 ≤ p → Lw h p C → Lw h' p C) (hF : ∀ p n f, 95 ≤ p → Fl h p n f → Fl h' p n f) : XB h' σ := by
  obtain ⟨⟨a1, a2, a3, a4⟩, ⟨b1, b2⟩, ⟨k1, k2, k3, k4⟩, i1, i2⟩ := X
  have bk : ∀ p m n r, (27 ≤ p ∧ p ≤ 34) → Bk h p m n r → Bk h' p m n r := fun p m n r hp b => ⟨by rw [hI p 1 (by omega)]; exact b.1, by rw [hI p 2 (by omega)]; exact b.2.1, fun k hk => by rw [hI (p + 1) k (by omega)]; exact b.2.2 k hk⟩
  refine ⟨⟨by rw [hI 16 5 (by omega)]; exact a1, by rw [hI 16 6 (by omega)]; exact a2, fun j hj => ?_, ?_⟩, ⟨by rw [hI 16 8 (by omega)]; exact b1, fun f hf => ?_⟩, ⟨bk 27 _ _ _ (by omega) k1, bk 29 _ _ _ (by omega) k2, bk 31 _ _ _ (by omega) k3, bk 33 _ _ _ (by omega) k4⟩, by rw [hI 16 14 (by omega)]; exact i1, fun i hi hh => by rw [hI 35 i (by omega)]; exact i2 i hi hh⟩
  · obtain ⟨p, w, x1, x2, x3, x4⟩ := a3 j hj
    exact ⟨p, w, by rw [hP 25 j (by omega)]; exact x1, x2, x3, hL p w.1 x2 x4⟩
  · rw [hP 36 2 (by omega), hP 25 _ (by omega)]; exact a4
  · obtain ⟨p, g, x1, x2, x3, x4⟩ := b2 f hf
    exact ⟨p, g, by rw [hP 26 f (by omega)]; exact x1, x2, hF p _ g x2 x3, x4⟩
theorem XI_rf {h h' : eg_H} {σ : eg_S} {B : Nat × Nat} (X : XI h σ B) (hs : eg_stt h') (G : eg_rf h h') : XI h' σ B := by
  obtain ⟨W, ⟨t1, t2⟩, ⟨c1, ⟨v1, v2, v3⟩, c3, c4, ⟨k1, k2, k3, k4, k5, k6⟩⟩, xb⟩ := X
  obtain ⟨gk, gc⟩ := G
  have hkd : ∀ p, eg_kd h' p = eg_kd h p := fun p => by unfold eg_kd; rw [gk]
  have hL : ∀ p C, 95 ≤ p → Lw h p C → Lw h' p C := fun p C hp L => Lw_of L (fun r _ _ => hkd r) (fun i => (gc p i (by omega)).2.2) (fun k => (gc (p + 3) k (by omega)).1)
  have hF : ∀ p n f, 95 ≤ p → Fl h p n f → Fl h' p n f := fun p n f hp F => Fl_of F (fun r _ _ => hkd r) (fun i => (gc p i (by omega)).2.2) (fun i => (gc p i (by omega)).1) (fun k => (gc (p + 1) k (by omega)).1)
  have e36 : eg_P h' 36 2 = eg_P h 36 2 := (gc 36 2 (by omega)).2.2
  have e39 : ∀ s, eg_P h' 39 s = eg_P h 39 s := fun s => (gc 39 s (by omega)).2.2
  refine ⟨W, ⟨by rw [(gc 17 1 (by omega)).1]; exact t1, fun i hi => by rw [(gc 18 i (by omega)).1]; exact t2 i hi⟩, ⟨hs, ⟨by rw [(gc 23 1 (by omega)).1]; exact v1, by rw [(gc 23 2 (by omega)).1]; exact v2, fun x hx => by rw [(gc 24 x (by omega)).1]; exact v3 x hx⟩, rfl, ?_, ?_⟩, ?_⟩
  · rw [e36]
    generalize eg_P h 36 2 = q at c4
    generalize sL σ = lw at c4
    cases q with
    | none =>
      cases lw with
      | none => trivial
      | some f => exact c4.elim
    | some p =>
      cases lw with
      | none => exact c4.elim
      | some f =>
        obtain ⟨p9, t, n, w, h1, h2, l⟩ := c4
        exact ⟨p9, t, n, w, h1, h2, hL p w.1 p9 l⟩
  · refine ⟨by rw [(gc 38 3 (by omega)).1]; exact k1, k2, fun s hs p hp => ?_, fun s s' p hs hs' hp hp' => k4 s s' p hs hs' (by rw [← e39]; exact hp) (by rw [← e39]; exact hp'), ?_, ?_⟩
    · rw [e39] at hp
      have k := k3 s hs p hp
      have k9 := k.1.1
      exact KS_of k ⟨hkd p, hkd (p + 1)⟩ (gc p 0 (by omega)).2.2 (gc p 1 (by omega)).1 (fun y => (gc (p + 1) y (by omega)).1)
    · rw [fre_eq e39]; unfold eg_nc; rw [gk]; exact k5
    · rw [fre_eq e39]; unfold eg_ns; rw [gk]; exact k6
  · exact XB_of xb (fun p i hp => (gc p i (by omega)).1) (fun p i hp => (gc p i (by omega)).2.2) hL hF
def Sx : List (Nat × Option Nat) := [(17, some 2), (17, some 3), (17, some 4), (19, some 2), (19, some 3), (19, some 4), (20, none), (21, some 2), (22, none), (36, some 3), (36, some 4), (36, some 5), (36, some 6), (36, some 7), (36, some 8), (36, some 9), (37, none), (39, none), (41, some 2), (41, some 3), (41, some 4), (42, none), (43, some 2), (43, some 3), (43, some 4), (44, none), (45, some 2), (45, some 3), (45, some 4), (46, none), (47, some 6), (47, some 7), (47, some 8), (47, some 9), (47, some 10), (47, some 11), (48, none), (49, none), (50, none), (51, none), (52, none), (53, none)]
theorem Sx_off : ∀ p, p < 95 → (54 ≤ p ∨ p = 16 ∨ p = 18 ∨ (23 ≤ p ∧ p ≤ 35) ∨ p = 38 ∨ p = 40) → ∀ i, eg_cov Sx p i = false := by
  intro p hp h i
  have : ∀ t ∈ Sx, ¬ t.1 = p := by
    intro t ht
    have hh : ∀ t ∈ Sx, t.1 < 54 ∧ ¬ t.1 = 16 ∧ ¬ t.1 = 18 ∧ ¬ (23 ≤ t.1 ∧ t.1 ≤ 35) ∧ ¬ t.1 = 38 ∧ ¬ t.1 = 40 := by decide
    have := hh t ht
    omega
  unfold eg_cov
  rw [List.any_eq_false]
  intro t ht
  have h1 := this t ht
  have : (t.1 == p) = false := by simpa using h1
  rw [this]
  simp
theorem gr_cl {h h' : eg_H} (G : eg_gr Sx h h') : eg_gc h h' := fun p i h1 h2 => G.2.1 p i h2 (Sx_off p h2 (Or.inl h1) i)
theorem XI_scr {h h' : eg_H} {σ : eg_S} {B : Nat × Nat} (X : XI h σ B) (G : eg_gr Sx h h') (C : XC h' (sU σ) (sP σ) (sE σ) (sL σ) (eg_P h 36 2) (σ.1 11) B) : XI h' σ B := by
  obtain ⟨W, ⟨t1, t2⟩, _, xb⟩ := X
  refine ⟨W, ⟨by rw [(G.2.1 17 1 (by omega) rfl).1]; exact t1, fun i hi => by rw [(G.2.1 18 i (by omega) (Sx_off 18 (by omega) (by omega) i)).1]; exact t2 i hi⟩, ?_, XB_of xb (fun p i hp => (G.2.1 p i (by omega) (Sx_off p (by omega) (by omega) i)).1) (fun p i hp => ?_) G.2.2.1 G.2.2.2⟩
  · have e : eg_P h' 36 2 = eg_P h 36 2 := C.2.2.1
    rw [e]; exact C
  · rcases hp with rfl | rfl | ⟨rfl, rfl⟩
    · exact (G.2.1 25 i (by omega) (Sx_off 25 (by omega) (by omega) i)).2.2
    · exact (G.2.1 26 i (by omega) (Sx_off 26 (by omega) (by omega) i)).2.2
    · exact (G.2.1 36 2 (by omega) rfl).2.2
