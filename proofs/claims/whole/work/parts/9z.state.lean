def RBl (h : eg_H) (σ : eg_S) : Prop := eg_I h 54 7 = nI (sN σ) ∧ eg_I h 54 34 = iI ((σ.1 4 : Int) - 1) ∧ ∀ j, j < sN σ → eg_I h 57 j = nI (laN σ j) ∧ ∀ i, i < laN σ j → eg_I h 56 (160 * j + i) = (laT σ j i).toInt8.toInt32
def RBf (h : eg_H) (σ : eg_S) : Prop := eg_I h 54 32 = nI (sF σ) ∧ ∀ f, f < sF σ → eg_I h 67 f = nI (dN (σ.2 3 f)) ∧ ∀ k, k < dN (σ.2 3 f) → eg_I h 65 (24 * f + k) = σ.2 2 (24 * f + k)
def RBw (h : eg_H) (σ : eg_S) : Prop := eg_I h 54 49 = nI (σ.1 6) ∧ ∀ i, i < σ.1 6 → eg_I h 72 i = σ.2 4 (4 * i) ∧ eg_I h 73 i = σ.2 4 (4 * i + 1) ∧ eg_I h 74 i = σ.2 4 (4 * i + 2)
def RBm (h : eg_H) (σ : eg_S) : Prop := eg_I h 54 65 = nI (σ.1 7) ∧ ∀ i, i < σ.1 7 → eg_I h 82 i = σ.2 5 (4 * i) ∧ eg_I h 83 i = σ.2 5 (4 * i + 1) ∧ eg_I h 84 i = σ.2 5 (4 * i + 2) ∧ eg_I h 85 i = σ.2 5 (4 * i + 3)
def RBg (h : eg_H) (σ : eg_S) : Prop := eg_I h 54 72 = nI (σ.1 8) ∧ ∀ i, i < σ.1 8 → eg_I h 87 i = σ.2 6 (4 * i) ∧ eg_I h 88 i = σ.2 6 (4 * i + 1) ∧ eg_I h 89 i = σ.2 6 (4 * i + 2)
def RBh (h : eg_H) (σ : eg_S) : Prop := eg_I h 54 77 = nI (σ.1 9) ∧ ∀ i, i < σ.1 9 → eg_I h 91 i = σ.2 7 (4 * i) ∧ eg_I h 92 i = σ.2 7 (4 * i + 1) ∧ eg_I h 93 i = σ.2 7 (4 * i + 2)
def RBj (h : eg_H) (σ : eg_S) : Prop := eg_I h 54 78 = nI (σ.1 10) ∧ ∀ i, i < 4 → σ.1 10 = 1 → eg_I h 90 i = nI (dN (σ.2 8 i))
theorem RI_in {h : eg_H} {σ : eg_S} (hs : eg_stt h) (W : Wσ σ) (t : tapeM σ h) (v : RV h (sU σ) (sP σ) (sE σ)) (l : RBl h σ) (f : RBf h σ) (w : RBw h σ) (m : RBm h σ) (g : RBg h σ) (i : RBh h σ) (j : RBj h σ) : RI h σ := ⟨hs, W, t, v, l, f, w, m, g, i, j⟩
section PT
variable {h h' : eg_H} {σ : eg_S} {B : Nat × Nat} {S : List (Nat × Option Nat)}
theorem tapeM_e (E : eg_eq S h h') (c : eg_cov S 54 6 = false ∧ ∀ i, eg_cov S 55 i = false) (t : tapeM σ h) : tapeM σ h' := ⟨by rw [(E.2 _ _ c.1).1]; exact t.1, fun i hi => by rw [(E.2 _ _ (c.2 i)).1]; exact t.2 i hi⟩
theorem RV_e {U : Nat → Nat} {P Q : Nat} (E : eg_eq S h h') (c : (eg_cov S 54 24 = false ∧ eg_cov S 54 26 = false) ∧ ∀ i, eg_cov S 59 i = false ∧ eg_cov S 61 i = false ∧ eg_cov S 63 i = false) (t : RV h U P Q) : RV h' U P Q := ⟨fun x hx => by rw [(E.2 _ _ (c.2 x).1).1]; exact t.1 x hx, fun x hx => by rw [(E.2 _ _ (c.2 x).2.1).1]; exact t.2.1 x hx, fun x hx => by rw [(E.2 _ _ (c.2 x).2.2).1]; exact t.2.2.1 x hx, by rw [(E.2 _ _ c.1.1).1]; exact t.2.2.2.1, by rw [(E.2 _ _ c.1.2).1]; exact t.2.2.2.2⟩
theorem RBl_e (E : eg_eq S h h') (c : (eg_cov S 54 7 = false ∧ eg_cov S 54 34 = false) ∧ ∀ i, eg_cov S 57 i = false ∧ eg_cov S 56 i = false) (t : RBl h σ) : RBl h' σ := ⟨by rw [(E.2 _ _ c.1.1).1]; exact t.1, by rw [(E.2 _ _ c.1.2).1]; exact t.2.1, fun j hj => ⟨by rw [(E.2 _ _ (c.2 j).1).1]; exact (t.2.2 j hj).1, fun i hi => by rw [(E.2 _ _ (c.2 _).2).1]; exact (t.2.2 j hj).2 i hi⟩⟩
theorem RBf_e (E : eg_eq S h h') (c : eg_cov S 54 32 = false ∧ ∀ i, eg_cov S 67 i = false ∧ eg_cov S 65 i = false) (t : RBf h σ) : RBf h' σ := ⟨by rw [(E.2 _ _ c.1).1]; exact t.1, fun f hf => ⟨by rw [(E.2 _ _ (c.2 f).1).1]; exact (t.2 f hf).1, fun k hk => by rw [(E.2 _ _ (c.2 _).2).1]; exact (t.2 f hf).2 k hk⟩⟩
theorem RBw_e (E : eg_eq S h h') (c : eg_cov S 54 49 = false ∧ ∀ i, eg_cov S 72 i = false ∧ eg_cov S 73 i = false ∧ eg_cov S 74 i = false) (t : RBw h σ) : RBw h' σ := ⟨by rw [(E.2 _ _ c.1).1]; exact t.1, fun i hi => by rw [(E.2 _ _ (c.2 i).1).1, (E.2 _ _ (c.2 i).2.1).1, (E.2 _ _ (c.2 i).2.2).1]; exact t.2 i hi⟩
theorem RBm_e (E : eg_eq S h h') (c : eg_cov S 54 65 = false ∧ ∀ i, eg_cov S 82 i = false ∧ eg_cov S 83 i = false ∧ eg_cov S 84 i = false ∧ eg_cov S 85 i = false) (t : RBm h σ) : RBm h' σ := ⟨by rw [(E.2 _ _ c.1).1]; exact t.1, fun i hi => by rw [(E.2 _ _ (c.2 i).1).1, (E.2 _ _ (c.2 i).2.1).1, (E.2 _ _ (c.2 i).2.2.1).1, (E.2 _ _ (c.2 i).2.2.2).1]; exact t.2 i hi⟩
theorem RBg_e (E : eg_eq S h h') (c : eg_cov S 54 72 = false ∧ ∀ i, eg_cov S 87 i = false ∧ eg_cov S 88 i = false ∧ eg_cov S 89 i = false) (t : RBg h σ) : RBg h' σ := ⟨by rw [(E.2 _ _ c.1).1]; exact t.1, fun i hi => by rw [(E.2 _ _ (c.2 i).1).1, (E.2 _ _ (c.2 i).2.1).1, (E.2 _ _ (c.2 i).2.2).1]; exact t.2 i hi⟩
theorem RBh_e (E : eg_eq S h h') (c : eg_cov S 54 77 = false ∧ ∀ i, eg_cov S 91 i = false ∧ eg_cov S 92 i = false ∧ eg_cov S 93 i = false) (t : RBh h σ) : RBh h' σ := ⟨by rw [(E.2 _ _ c.1).1]; exact t.1, fun i hi => by rw [(E.2 _ _ (c.2 i).1).1, (E.2 _ _ (c.2 i).2.1).1, (E.2 _ _ (c.2 i).2.2).1]; exact t.2 i hi⟩
theorem RBj_e (E : eg_eq S h h') (c : eg_cov S 54 78 = false ∧ ∀ i, eg_cov S 90 i = false) (t : RBj h σ) : RBj h' σ := ⟨by rw [(E.2 _ _ c.1).1]; exact t.1, fun i hi hh => by rw [(E.2 _ _ (c.2 i)).1]; exact t.2 i hi hh⟩
theorem eq_rfS (E : eg_eq S h h') (hS : S.all (fun t => 54 ≤ t.1 && t.1 < 94) = true) : eg_rf h h' := ⟨E.1, fun p i hp => E.2 p i (by
  have hh : ∀ t ∈ S, 54 ≤ t.1 ∧ t.1 < 94 := fun t ht => by
    have := List.all_eq_true.mp hS t ht
    simpa using this
  unfold eg_cov
  rw [List.any_eq_false]
  intro t ht
  have := hh t ht
  have : (t.1 == p) = false := by simp; omega
  rw [this]
  simp)⟩
def XBl (h : eg_H) (σ : eg_S) : Prop := eg_I h 16 5 = nI (sN σ) ∧ eg_I h 16 6 = iI ((σ.1 4 : Int) - 1) ∧ (∀ j, j < sN σ → ∃ p w, eg_P h 25 j = some p ∧ 95 ≤ p ∧ pLaw (laT σ j) (laN σ j) = .inr w ∧ Lw h p w.1) ∧ eg_P h 36 2 = if σ.1 4 = 0 then none else eg_P h 25 (σ.1 4 - 1)
def XBf (h : eg_H) (σ : eg_S) : Prop := eg_I h 16 8 = nI (sF σ) ∧ ∀ f, f < sF σ → ∃ p g, eg_P h 26 f = some p ∧ 95 ≤ p ∧ Fl h p (dN (σ.2 3 f)) g ∧ ∀ k, k < dN (σ.2 3 f) → g k = σ.2 2 (24 * f + k)
def XBj (h : eg_H) (σ : eg_S) : Prop := eg_I h 16 14 = nI (σ.1 10) ∧ ∀ i, i < 4 → σ.1 10 = 1 → eg_I h 35 i = nI (dN (σ.2 8 i))
theorem XI_in (W : Wσ σ) (t : tapeX σ h) (C : XC h (sU σ) (sP σ) (sE σ) (sL σ) (eg_P h 36 2) (σ.1 11) B) (l : XBl h σ) (f : XBf h σ) (k1 : Bk h 27 20 (σ.1 6) (σ.2 4)) (k2 : Bk h 29 20 (σ.1 7) (σ.2 5)) (k3 : Bk h 31 40 (σ.1 8) (σ.2 6)) (k4 : Bk h 33 40 (σ.1 9) (σ.2 7)) (j : XBj h σ) : XI h σ B := ⟨W, t, C, l, f, ⟨k1, k2, k3, k4⟩, j⟩
theorem tapeX_g (G : eg_gr S h h') (c : eg_cov S 17 1 = false ∧ ∀ i, eg_cov S 18 i = false) (t : tapeX σ h) : tapeX σ h' := ⟨by rw [(G.2.1 17 1 (by omega) c.1).1]; exact t.1, fun i hi => by rw [(G.2.1 18 i (by omega) (c.2 i)).1]; exact t.2 i hi⟩
theorem XBl_g (G : eg_gr S h h') (c : (eg_cov S 16 5 = false ∧ eg_cov S 16 6 = false ∧ eg_cov S 36 2 = false) ∧ ∀ i, eg_cov S 25 i = false) (t : XBl h σ) : XBl h' σ := by
  refine ⟨by rw [(G.2.1 16 5 (by omega) c.1.1).1]; exact t.1, by rw [(G.2.1 16 6 (by omega) c.1.2.1).1]; exact t.2.1, fun j hj => ?_, ?_⟩
  · obtain ⟨p, w, x1, x2, x3, x4⟩ := t.2.2.1 j hj
    exact ⟨p, w, by rw [(G.2.1 25 j (by omega) (c.2 j)).2.2]; exact x1, x2, x3, G.2.2.1 p w.1 x2 x4⟩
  · rw [(G.2.1 36 2 (by omega) c.1.2.2).2.2, (G.2.1 25 _ (by omega) (c.2 _)).2.2]; exact t.2.2.2
theorem XBf_g (G : eg_gr S h h') (c : eg_cov S 16 8 = false ∧ ∀ i, eg_cov S 26 i = false) (t : XBf h σ) : XBf h' σ := by
  refine ⟨by rw [(G.2.1 16 8 (by omega) c.1).1]; exact t.1, fun f hf => ?_⟩
  obtain ⟨p, g, x1, x2, x3, x4⟩ := t.2 f hf
  exact ⟨p, g, by rw [(G.2.1 26 f (by omega) (c.2 f)).2.2]; exact x1, x2, G.2.2.2 p _ g x2 x3, x4⟩
theorem Bk_g {p m n : Nat} {r : Nat → Int32} (G : eg_gr S h h') (hp : p < 90) (c : (eg_cov S p 1 = false ∧ eg_cov S p 2 = false) ∧ ∀ i, eg_cov S (p + 1) i = false) (t : Bk h p m n r) : Bk h' p m n r := ⟨by rw [(G.2.1 p 1 (by omega) c.1.1).1]; exact t.1, by rw [(G.2.1 p 2 (by omega) c.1.2).1]; exact t.2.1, fun k hk => by rw [(G.2.1 (p + 1) k (by omega) (c.2 k)).1]; exact t.2.2 k hk⟩
theorem XBj_g (G : eg_gr S h h') (c : eg_cov S 16 14 = false ∧ ∀ i, eg_cov S 35 i = false) (t : XBj h σ) : XBj h' σ := ⟨by rw [(G.2.1 16 14 (by omega) c.1).1]; exact t.1, fun i hi hh => by rw [(G.2.1 35 i (by omega) (c.2 i)).1]; exact t.2 i hi hh⟩
theorem gc_g (G : eg_gr S h h') (hS : S.all (fun t => t.1 < 54 || 95 ≤ t.1) = true) : eg_gc h h' := fun p i h1 h2 => G.2.1 p i h2 (by
  have hh : ∀ t ∈ S, t.1 < 54 ∨ 95 ≤ t.1 := fun t ht => by
    have := List.all_eq_true.mp hS t ht
    simpa using this
  unfold eg_cov
  rw [List.any_eq_false]
  intro t ht
  have := hh t ht
  have : (t.1 == p) = false := by simp; omega
  rw [this]
  simp)
theorem XK_new {U U' : Nat → Nat} {lw lw' : eg_LW} {era : Nat} (K : XK h U lw era B) (G : eg_eq S h h') (h1 : eg_I h' 38 3 = nI (era + 1)) (he : era + 1 < 2 ^ 30) (hS : S.all (fun t => t.1 < 95) = true) (c : ∀ i, eg_cov S 39 i = false) : XK h' U' lw' (era + 1) B := by
  obtain ⟨k1, k2, k3, k4, k5, k6⟩ := K
  have e39 : ∀ s, eg_P h' 39 s = eg_P h 39 s := fun s => (G.2 39 s (c s)).2.2
  refine ⟨h1, he, fun s hs p hp => ?_, fun s s' p hs hs' hp hp' => k4 s s' p hs hs' (by rw [← e39]; exact hp) (by rw [← e39]; exact hp'), ?_, ?_⟩
  · rw [e39] at hp
    obtain ⟨⟨n1, n2, n3, n4⟩, e', q1, q2, _⟩ := k3 s hs p hp
    have g9 : ∀ q i, 95 ≤ q → eg_I h' q i = eg_I h q i ∧ eg_P h' q i = eg_P h q i := fun q i hq => ⟨(G.2 q i (cov_95 hS q i hq)).1, (G.2 q i (cov_95 hS q i hq)).2.2⟩
    refine ⟨⟨n1, by rw [eq_kd G]; exact n2, by rw [eq_kd G]; exact n3, by rw [(g9 p 0 n1).2]; exact n4⟩, e', by rw [(g9 p 1 n1).1]; exact q1, by omega, fun z => by omega⟩
  · rw [fre_eq e39, eq_nc G]; exact k5
  · rw [fre_eq e39, eq_ns G]; exact k6
end PT
def stT (σ : eg_S) (n : Nat) (t : Nat → Int32) : eg_S := (fun j => if j = 0 then n else σ.1 j, fun r => if r = 0 then t else σ.2 r)
theorem stT_eq {σ σ' : eg_S} (h1 : ∀ j, 0 < j → σ'.1 j = σ.1 j) (h2 : ∀ r, 0 < r → σ'.2 r = σ.2 r) : σ' = stT σ (σ'.1 0) (σ'.2 0) := by
  refine Prod.ext (funext fun j => ?_) (funext fun r => ?_)
  · show σ'.1 j = if j = 0 then σ'.1 0 else σ.1 j
    by_cases c : j = 0
    · subst c; rw [if_pos rfl]
    · rw [if_neg c]; exact h1 j (by omega)
  · show σ'.2 r = if r = 0 then σ'.2 0 else σ.2 r
    by_cases c : r = 0
    · subst c; rw [if_pos rfl]
    · rw [if_neg c]; exact h2 r (by omega)
section TP
variable {h h' : eg_H} {σ : eg_S} {B : Nat × Nat}
theorem XI_T {n : Nat} {t : Nat → Int32} (X : XI h σ B) (E : eg_eq SX_tape h h') (b : tapeB (stT σ n t)) (k : tapeX (stT σ n t) h') : XOk h h' (stT σ n t) B := by
  obtain ⟨W, _, C, l, f, ⟨k1, k2, k3, k4⟩, j⟩ := X
  have G := gr_eq E (by decide)
  have C1 : XC h' (sU σ) (sP σ) (sE σ) (sL σ) (eg_P h 36 2) (σ.1 11) B := XC_low C E (by decide) (by decide) ⟨rfl, rfl, rfl, rfl, fun _ => ⟨rfl, rfl⟩⟩
  have C2 : XC h' (sU σ) (sP σ) (sE σ) (sL σ) (eg_P h' 36 2) (σ.1 11) B := by rw [C1.2.2.1]; exact C1
  have l' : XBl h' σ := XBl_g G ⟨⟨rfl, rfl, rfl⟩, fun _ => rfl⟩ l
  have f' : XBf h' σ := XBf_g G ⟨rfl, fun _ => rfl⟩ f
  have j' : XBj h' σ := XBj_g G ⟨rfl, fun _ => rfl⟩ j
  refine ⟨XI_in ⟨b, W.2⟩ k C2 l' f' ?_ ?_ ?_ ?_ j', gc_g G (by decide)⟩
  · exact Bk_g G (by omega) ⟨⟨rfl, rfl⟩, fun _ => rfl⟩ k1
  · exact Bk_g G (by omega) ⟨⟨rfl, rfl⟩, fun _ => rfl⟩ k2
  · exact Bk_g G (by omega) ⟨⟨rfl, rfl⟩, fun _ => rfl⟩ k3
  · exact Bk_g G (by omega) ⟨⟨rfl, rfl⟩, fun _ => rfl⟩ k4
theorem RI_T {n : Nat} {t : Nat → Int32} (R : RI h σ) (E : eg_eq SM_tape h h') (b : tapeB (stT σ n t)) (k : tapeM (stT σ n t) h') : ROk h h' (stT σ n t) := by
  obtain ⟨hs, W, _, v, l, f, w, m, g, i, j⟩ := R
  have l' : RBl h' σ := RBl_e E ⟨⟨rfl, rfl⟩, fun _ => ⟨rfl, rfl⟩⟩ l
  have f' : RBf h' σ := RBf_e E ⟨rfl, fun _ => ⟨rfl, rfl⟩⟩ f
  have w' : RBw h' σ := RBw_e E ⟨rfl, fun _ => ⟨rfl, rfl, rfl⟩⟩ w
  have m' : RBm h' σ := RBm_e E ⟨rfl, fun _ => ⟨rfl, rfl, rfl, rfl⟩⟩ m
  have g' : RBg h' σ := RBg_e E ⟨rfl, fun _ => ⟨rfl, rfl, rfl⟩⟩ g
  have i' : RBh h' σ := RBh_e E ⟨rfl, fun _ => ⟨rfl, rfl, rfl⟩⟩ i
  have j' : RBj h' σ := RBj_e E ⟨rfl, fun _ => rfl⟩ j
  have v' : RV h' (sU σ) (sP σ) (sE σ) := RV_e E ⟨⟨rfl, rfl⟩, fun _ => ⟨rfl, rfl, rfl⟩⟩ v
  exact ⟨RI_in (eq_stt E hs (by decide)) ⟨b, W.2⟩ k v' l' f' w' m' g' i' j', eq_rfS E (by decide)⟩
theorem ap_o (σ : eg_S) (b : Nat) : (∀ j, 0 < j → (st_ap σ b).1 j = σ.1 j) ∧ ∀ r, 0 < r → (st_ap σ b).2 r = σ.2 r := by
  unfold st_ap
  by_cases c : b = 0
  · rw [if_pos c]; exact ⟨fun _ _ => rfl, fun _ _ => rfl⟩
  · rw [if_neg c]
    refine ⟨fun j hj => ?_, fun r hr => ?_⟩
    · show (if j = 0 then _ else _) = _
      rw [if_neg (by omega)]
      rfl
    · show eg_up σ.2 0 (σ.1 0) (nI b) r = σ.2 r
      funext k
      unfold eg_up
      rw [if_neg (by omega)]
theorem put_o (σ : eg_S) (w : Int32) : (∀ j, 0 < j → (st_put σ w).1 j = σ.1 j) ∧ ∀ r, 0 < r → (st_put σ w).2 r = σ.2 r := by
  unfold st_put
  refine ⟨fun j hj => ?_, fun r hr => ?_⟩
  · rw [(ap_o _ _).1 j hj, (ap_o _ _).1 j hj, (ap_o _ _).1 j hj, (ap_o _ _).1 j hj]
  · rw [(ap_o _ _).2 r hr, (ap_o _ _).2 r hr, (ap_o _ _).2 r hr, (ap_o _ _).2 r hr]
theorem feed_o (σ : eg_S) (a b c d e : Int32) : (∀ j, 0 < j → (st_feed σ a b c d e).1 j = σ.1 j) ∧ ∀ r, 0 < r → (st_feed σ a b c d e).2 r = σ.2 r := by
  unfold st_feed
  refine ⟨fun j hj => ?_, fun r hr => ?_⟩
  · rw [(put_o _ _).1 j hj, (put_o _ _).1 j hj, (put_o _ _).1 j hj, (put_o _ _).1 j hj, (put_o _ _).1 j hj]
  · rw [(put_o _ _).2 r hr, (put_o _ _).2 r hr, (put_o _ _).2 r hr, (put_o _ _).2 r hr, (put_o _ _).2 r hr]
def aFeed (σ : eg_S) (a b c d e : Int32) : Int32 := if feed_n σ a b c d e ≤ 160 then nI (feed_n σ a b c d e) else -1
def sFeed (σ : eg_S) (a b c d e : Int32) : eg_S := if feed_n σ a b c d e ≤ 160 then st_feed σ a b c d e else σ
theorem X_feed (X : XI h σ B) (a b c d e : Int32) : ∃ h', fX12_feed h 16 a b c d e = some (aFeed σ a b c d e, h') ∧ XOk h h' (sFeed σ a b c d e) B := by
  have hs := X.2.2.1.1
  unfold aFeed sFeed
  by_cases cc : feed_n σ a b c d e ≤ 160
  · rw [if_pos cc, if_pos cc]
    obtain ⟨h', e1, t1, E1⟩ := X_feed_yes hs X.2.1 X.1.1 cc
    have o := feed_o σ a b c d e
    have es := stT_eq o.1 o.2
    have bb := feed_B X.1.1 cc
    refine ⟨h', e1, ?_⟩
    rw [es] at t1 bb ⊢
    exact XI_T X E1 bb t1
  · rw [if_neg cc, if_neg cc]
    exact ⟨h, X_feed_no hs X.2.1 X.1.1 cc, XOk_rfl X⟩
theorem M_feed (R : RI h σ) (a b c d e : Int32) : ∃ h', fX13_feed h 54 a b c d e = some (aFeed σ a b c d e, h') ∧ ROk h h' (sFeed σ a b c d e) := by
  have hs := R.1
  unfold aFeed sFeed
  by_cases cc : feed_n σ a b c d e ≤ 160
  · rw [if_pos cc, if_pos cc]
    obtain ⟨h', e1, t1, E1⟩ := M_feed_yes hs R.2.2.1 R.2.1.1 cc
    have o := feed_o σ a b c d e
    have es := stT_eq o.1 o.2
    have bb := feed_B R.2.1.1 cc
    refine ⟨h', e1, ?_⟩
    rw [es] at t1 bb ⊢
    exact RI_T R E1 bb t1
  · rw [if_neg cc, if_neg cc]
    exact ⟨_, M_feed_no hs R.2.2.1 R.2.1.1 cc, ROk_scr R (R_0 R).2⟩
abbrev gEnd (σ : eg_S) (n : Int32) : Prop := ¬ n < 0 ∧ n ≤ nI (σ.1 0)
def aEnd (σ : eg_S) (n : Int32) : Int32 := if gEnd σ n then 1 else 0
def sEnd (σ : eg_S) (n : Int32) : eg_S := if gEnd σ n then stT σ (dN n) (σ.2 0) else σ
theorem end_n {n : Int32} (W : tapeB σ) (g : gEnd σ n) : ∃ k, k ≤ σ.1 0 ∧ n = nI k ∧ k < 2 ^ 31 := by
  obtain ⟨k, hk, rfl⟩ := pos_n g.1
  have h160 := W.1
  refine ⟨k, ?_, rfl, hk⟩
  rcases Nat.lt_or_ge (σ.1 0) k with z | z
  · exact absurd g.2 (nI_ge z hk)
  · exact z
theorem X_end (X : XI h σ B) (n : Int32) : ∃ h', fX12_end h 16 n = some (aEnd σ n, h') ∧ XOk h h' (sEnd σ n) B := by
  have hs := X.2.2.1.1
  have t1 := X.2.1.1
  unfold fX12_end aEnd sEnd
  rw [if_pos (iO_16 hs)]
  by_cases c1 : n < 0
  · have gg : ¬ gEnd σ n := fun z => z.1 c1
    rw [if_pos c1, if_neg gg, if_neg gg]; exact ⟨h, rfl, XOk_rfl X⟩
  rw [if_neg c1, gR_16 hs, rf_16_0 hs, Option.bind_some]
  unfold fX10_length
  rw [if_pos (iO_17 hs), gI_17 hs, Option.bind_some, Option.bind_some, t1]
  dsimp only
  by_cases c2 : n ≤ nI (σ.1 0)
  rotate_left
  · have gg : ¬ gEnd σ n := fun z => c2 z.2
    rw [if_neg c2, if_neg gg, if_neg gg]; exact ⟨h, rfl, XOk_rfl X⟩
  have gg : gEnd σ n := ⟨c1, c2⟩
  obtain ⟨k, k1, rfl, k3⟩ := end_n X.1.1 gg
  rw [if_pos c2, if_pos gg, if_pos gg, gR_16 hs, rf_16_0 hs, Option.bind_some]
  unfold fX10_cut
  rw [if_pos (iO_17 hs), pI_17 hs, Option.bind_some, Option.bind_some, dN_n k3]
  have h160 := X.1.1.1
  refine ⟨_, rfl, XI_T X (eq_sI eq_rfl rfl) ⟨by show k ≤ 160; omega, fun i hi => X.1.1.2 i (by have hi : i < k := hi; omega)⟩ ⟨by rw [I_sI, if_pos ⟨rfl, rfl⟩]; rfl, fun i hi => by have hi : i < k := hi; rw [I_sI, if_neg (by omega)]; exact X.2.1.2 i (by omega)⟩⟩
theorem M_end (R : RI h σ) (n : Int32) : ∃ h', fX13_end h 54 n = some (aEnd σ n, h') ∧ ROk h h' (sEnd σ n) := by
  obtain ⟨R0, Q0⟩ := R_0 R
  have hs := R.1
  have s0 := R0.1
  have t1 := R0.2.2.1.1
  unfold fX13_end aEnd sEnd
  rw [if_pos (iO_54 hs), pI_54 hs, Option.bind_some]
  by_cases c1 : n < 0
  · have gg : ¬ gEnd σ n := fun z => z.1 c1
    rw [if_pos c1, if_neg gg, if_neg gg]; exact ⟨_, rfl, ROk_scr R Q0⟩
  rw [if_neg c1, gI_54 s0, Option.bind_some, t1]
  by_cases c2 : n ≤ nI (σ.1 0)
  rotate_left
  · have gg : ¬ gEnd σ n := fun z => c2 z.2
    rw [if_neg c2, if_neg gg, if_neg gg]; exact ⟨_, rfl, ROk_scr R Q0⟩
  have gg : gEnd σ n := ⟨c1, c2⟩
  obtain ⟨k, k1, rfl, k3⟩ := end_n R.2.1.1 gg
  rw [if_pos c2, if_pos gg, if_pos gg, pI_54 s0, Option.bind_some, dN_n k3]
  have h160 := R.2.1.1.1
  refine ⟨_, rfl, RI_T R (eq_sI (eq_sI eq_rfl rfl) rfl) ⟨by show k ≤ 160; omega, fun i hi => R.2.1.1.2 i (by have hi : i < k := hi; omega)⟩ ⟨by rw [I_sI, if_pos ⟨rfl, rfl⟩]; rfl, fun i hi => by have hi : i < k := hi; rw [I_sI, if_neg (by omega)]; exact R0.2.2.1.2 i (by omega)⟩⟩
end TP
