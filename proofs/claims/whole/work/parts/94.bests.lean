def KN (h : eg_H) (p : Nat) : Prop := 95 ≤ p ∧ eg_kd h p = (4, eg_nf 4) ∧ eg_kd h (p + 1) = (100, 61) ∧ eg_P h p 0 = some (p + 1)
def bV (U : Nat → Nat) (lw : eg_LW) (s y : Nat) : Nat := pk (bst lw (tOf U (U 0) (s / 72) (s / 12 % 6) (s / 2 % 6) (s % 2)) y) (bgd lw (tOf U (U 0) (s / 72) (s / 12 % 6) (s / 2 % 6) (s % 2)) y)
def fre (h : eg_H) (s : Nat) : Nat := if eg_P h 39 s = none then 1 else 0
def KS (h : eg_H) (U : Nat → Nat) (lw : eg_LW) (era s p : Nat) : Prop := KN h p ∧ ∃ e', eg_I h p 1 = nI e' ∧ e' ≤ era ∧ (e' = era → ∀ y, y ≤ 60 → eg_I h (p + 1) y = 0 ∨ eg_I h (p + 1) y = nI (bV U lw s y))
def XK (h : eg_H) (U : Nat → Nat) (lw : eg_LW) (era : Nat) (B : Nat × Nat) : Prop := eg_I h 38 3 = nI era ∧ era < 2 ^ 30 ∧ (∀ s, s < 432 → ∀ p, eg_P h 39 s = some p → KS h U lw era s p) ∧ (∀ s s' p, s < 432 → s' < 432 → eg_P h 39 s = some p → eg_P h 39 s' = some p → s = s') ∧ eg_nc h + 2 * sm (fre h) 432 ≤ B.1 ∧ eg_ns h + 63 * sm (fre h) 432 ≤ B.2
theorem fre_eq {h h' : eg_H} (e : ∀ s, eg_P h' 39 s = eg_P h 39 s) : fre h' = fre h := by
  funext s
  unfold fre
  rw [e]
theorem KS_of {h h' : eg_H} {U : Nat → Nat} {lw : eg_LW} {era s p : Nat} (K : KS h U lw era s p) (hk : eg_kd h' p = eg_kd h p ∧ eg_kd h' (p + 1) = eg_kd h (p + 1)) (hP : eg_P h' p 0 = eg_P h p 0) (h1 : eg_I h' p 1 = eg_I h p 1) (h2 : ∀ y, eg_I h' (p + 1) y = eg_I h (p + 1) y) : KS h' U lw era s p := by
  obtain ⟨⟨k1, k2, k3, k4⟩, e', a1, a2, a3⟩ := K
  refine ⟨⟨k1, by rw [hk.1]; exact k2, by rw [hk.2]; exact k3, by rw [hP]; exact k4⟩, e', by rw [h1]; exact a1, a2, fun he y hy => ?_⟩
  rw [h2]
  exact a3 he y hy
theorem XK_eq {h h' : eg_H} {U : Nat → Nat} {lw : eg_LW} {era : Nat} {B : Nat × Nat} {S : List (Nat × Option Nat)} (K : XK h U lw era B) (Q : eg_eq S h h') (c1 : eg_cov S 38 3 = false) (c2 : ∀ i, eg_cov S 39 i = false) (c3 : ∀ p i, KN h p → eg_cov S p i = false ∧ eg_cov S (p + 1) i = false) : XK h' U lw era B := by
  obtain ⟨a1, a2, a3, a4, a5, a6⟩ := K
  have e39 : ∀ s, eg_P h' 39 s = eg_P h 39 s := fun s => (Q.2 39 s (c2 s)).2.2
  refine ⟨by rw [(Q.2 38 3 c1).1]; exact a1, a2, fun s hs p hp => ?_, fun s s' p hs hs' hp hp' => a4 s s' p hs hs' (by rw [← e39]; exact hp) (by rw [← e39]; exact hp'), ?_, ?_⟩
  · rw [e39] at hp
    have k := a3 s hs p hp
    exact KS_of k ⟨eq_kd Q p, eq_kd Q (p + 1)⟩ (Q.2 p 0 (c3 p 0 k.1).1).2.2 (Q.2 p 1 (c3 p 1 k.1).1).1 (fun y => (Q.2 (p + 1) y (c3 p y k.1).2).1)
  · rw [fre_eq e39, eq_nc Q]; exact a5
  · rw [fre_eq e39, eq_ns Q]; exact a6
theorem cov_95 {S : List (Nat × Option Nat)} (hS : S.all (fun t => t.1 < 95) = true) (p i : Nat) (hp : 95 ≤ p) : eg_cov S p i = false := by
  unfold eg_cov
  rw [List.any_eq_false]
  intro t ht
  have := List.all_eq_true.mp hS t ht
  have h1 : t.1 < 95 := by simpa using this
  have : (t.1 == p) = false := by simp; omega
  rw [this]
  simp
theorem XK_low {h h' : eg_H} {U : Nat → Nat} {lw : eg_LW} {era : Nat} {B : Nat × Nat} {S : List (Nat × Option Nat)} (K : XK h U lw era B) (Q : eg_eq S h h') (hS : S.all (fun t => t.1 < 95) = true) (c1 : eg_cov S 38 3 = false) (c2 : ∀ i, eg_cov S 39 i = false) : XK h' U lw era B := XK_eq K Q c1 c2 (fun p i k => ⟨cov_95 hS p i k.1, cov_95 hS (p + 1) i (by have := k.1; omega)⟩)
theorem XK_Sq {h h' : eg_H} {U : Nat → Nat} {lw : eg_LW} {era : Nat} {B : Nat × Nat} {q : Option Nat} (K : XK h U lw era B) (L : XL h q lw) (Q : eg_eq (Sq q) h h') : XK h' U lw era B := by
  refine XK_eq K Q (Sq_95 L (by omega) _) (fun i => Sq_95 L (by omega) i) (fun p i k => ?_)
  cases q with
  | none => exact ⟨rfl, rfl⟩
  | some r =>
    cases lw with
    | none => exact L.elim
    | some f =>
      obtain ⟨p9, t, n, w, h1, h2, l0, l1, l2, l3, l4, l5, l6, l7, l8, l9⟩ := L
      obtain ⟨k1, k2, k3, k4⟩ := k
      refine ⟨cov_Sq (fun r' hr => ?_), cov_Sq (fun r' hr => ?_)⟩
      · cases hr
        refine ⟨fun z => ?_, fun z => ?_⟩
        · rw [z, l3] at k2; cases k2
        · rw [z, l4] at k2; cases k2
      · cases hr
        refine ⟨fun z => ?_, fun z => ?_⟩
        · have : p = r := by omega
          rw [this, l2] at k2; cases k2
        · have : p = r + 1 := by omega
          rw [this, l3] at k2; cases k2
def SK (p : Nat) : List (Nat × Option Nat) := [(p, some 1), (p + 1, none)]
theorem cov_SK {p r i : Nat} (h : ¬ r = p ∧ ¬ r = p + 1) : eg_cov (SK p) r i = false := by
  have e1 : (p == r) = false := by simp; omega
  have e2 : (p + 1 == r) = false := by simp; omega
  unfold SK eg_cov
  simp only [List.any_cons, List.any_nil, e1, e2, Bool.false_and, Bool.or_false]
theorem gr_SK {h h' : eg_H} {p : Nat} (k : KN h p) (Q : eg_eq (SK p) h h') : eg_gr [] h h' := by
  obtain ⟨k1, k2, k3, k4⟩ := k
  refine ⟨⟨[], by rw [Q.1]; simp⟩, fun r i hr _ => Q.2 r i (cov_SK (by omega)), fun r C hr L => ?_, fun r n f hr F => ?_⟩
  · have L0 := L
    obtain ⟨m0, m1, m2, m3, m4, m5, m6, m7, m8, m9⟩ := L
    have n1 : ¬ r = p := fun z => by subst z; rw [k2] at m2; cases m2
    have n2 : ¬ r = p + 1 := fun z => by subst z; rw [k3] at m2; cases m2
    have n3 : ¬ r + 3 = p := fun z => by rw [z, k2] at m5; cases m5
    have n4 : ¬ r + 3 = p + 1 := fun z => by
      have : r + 2 = p := by omega
      rw [this, k2] at m4; cases m4
    exact Lw_of L0 (fun r _ _ => eq_kd Q r) (fun i => (Q.2 r i (cov_SK ⟨n1, n2⟩)).2.2) (fun k => (Q.2 (r + 3) k (cov_SK ⟨n3, n4⟩)).1)
  · have F0 := F
    obtain ⟨m2, m3, m6, m7, m9⟩ := F
    have n1 : ¬ r = p := fun z => by subst z; rw [k2] at m2; cases m2
    have n2 : ¬ r = p + 1 := fun z => by subst z; rw [k3] at m2; cases m2
    have n3 : ¬ r + 1 = p := fun z => by rw [z, k2] at m3; cases m3
    have n4 : ¬ r + 1 = p + 1 := fun z => n1 (by omega)
    exact Fl_of F0 (fun r _ _ => eq_kd Q r) (fun i => (Q.2 r i (cov_SK ⟨n1, n2⟩)).2.2) (fun i => (Q.2 r i (cov_SK ⟨n1, n2⟩)).1) (fun k => (Q.2 (r + 1) k (cov_SK ⟨n3, n4⟩)).1)
theorem XK_SK {h h' : eg_H} {U : Nat → Nat} {lw : eg_LW} {era s p : Nat} {B : Nat × Nat} (K : XK h U lw era B) (hs : s < 432) (hp : eg_P h 39 s = some p) (Q : eg_eq (SK p) h h') (hK : KS h' U lw era s p) : XK h' U lw era B := by
  obtain ⟨a1, a2, a3, a4, a5, a6⟩ := K
  obtain ⟨⟨k1, k2, k3, k4⟩, _⟩ := a3 s hs p hp
  have e39 : ∀ s, eg_P h' 39 s = eg_P h 39 s := fun s => (Q.2 39 s (cov_SK (by omega))).2.2
  refine ⟨by rw [(Q.2 38 3 (cov_SK (by omega))).1]; exact a1, a2, fun s' hs' p' hp' => ?_, fun s s' p hs hs' hp hp' => a4 s s' p hs hs' (by rw [← e39]; exact hp) (by rw [← e39]; exact hp'), ?_, ?_⟩
  · rw [e39] at hp'
    by_cases c : s' = s
    · subst c
      rw [hp] at hp'
      cases hp'
      exact hK
    · have k := a3 s' hs' p' hp'
      have k0 := k
      obtain ⟨⟨m1, m2, m3, m4⟩, _⟩ := k0
      have n1 : ¬ p' = p := fun z => by subst z; exact c (a4 s' s p' hs' hs hp' hp)
      have n2 : ¬ p' = p + 1 := fun z => by rw [z, k3] at m2; cases m2
      have n3 : ¬ p' + 1 = p := fun z => by rw [z, k2] at m3; cases m3
      exact KS_of k ⟨eq_kd Q p', eq_kd Q (p' + 1)⟩ (Q.2 p' 0 (cov_SK ⟨n1, n2⟩)).2.2 (Q.2 p' 1 (cov_SK ⟨n1, n2⟩)).1 (fun y => (Q.2 (p' + 1) y (cov_SK ⟨n3, by omega⟩)).1)
  · rw [fre_eq e39, eq_nc Q]; exact a5
  · rw [fre_eq e39, eq_ns Q]; exact a6
theorem X_fill_L {p n : Nat} {x : Int32} (hp : 16 ≤ p) (hn : n ≤ 1000) : ∀ j i h F, i + j = n → j < F → eg_kd h p = (100, n) → ∃ h', fJ7_fill_53178_L5 F h p x (nI i) (nI n) = some h' ∧ eg_eq [(p, none)] h h' ∧ ∀ k, eg_I h' p k = if i ≤ k ∧ k < n then x else eg_I h p k := by
  intro j
  induction j with
  | zero =>
    intro i h F hi hF hk
    obtain ⟨F, rfl⟩ : ∃ F', F = F' + 1 := ⟨F - 1, by omega⟩
    refine ⟨h, ?_, eq_rfl, fun k => ?_⟩
    · rw [fJ7_fill_53178_L5, if_pos (nI_le (by omega) (by omega))]
    · rw [if_neg (by omega)]
  | succ j ih =>
    intro i h F hi hF hk
    obtain ⟨F, rfl⟩ : ∃ F', F = F' + 1 := ⟨F - 1, by omega⟩
    have hcl : (nI i).toNatClampNeg = i := nI_clamp (by omega)
    have hw : eg_wI h 100 p (nI i) x = some (eg_sI h p i x) := by
      unfold eg_wI
      rw [if_pos ⟨hp, by rw [hk], nI_pos (by omega), by rw [hk, hcl]; show i < n; omega⟩, hcl]
    obtain ⟨h', e, E, v⟩ := ih (i + 1) (eg_sI h p i x) F (by omega) (by omega) hk
    refine ⟨h', ?_, eq_tr (eq_sI eq_rfl (by simp [eg_cov])) E, fun k => ?_⟩
    · rw [fJ7_fill_53178_L5, if_neg (nI_ge (by omega) (by omega)), hw, Option.bind_some, nI_1, e]
    · rw [v k, I_sI]
      by_cases c : i + 1 ≤ k ∧ k < n
      · rw [if_pos c, if_pos ⟨by omega, c.2⟩]
      · rw [if_neg c]
        by_cases c2 : k = i
        · subst c2; rw [if_pos ⟨rfl, rfl⟩, if_pos ⟨Nat.le_refl _, by omega⟩]
        · rw [if_neg (fun z => c2 z.2), if_neg (by omega)]
theorem X_fill {p n : Nat} {x : Int32} {h : eg_H} (hp : 16 ≤ p) (hn : n ≤ 1000) (hk : eg_kd h p = (100, n)) : ∃ h', fJ7_fill_53178 h p x = some h' ∧ eg_eq [(p, none)] h h' ∧ ∀ k, eg_I h' p k = if k < n then x else eg_I h p k := by
  obtain ⟨h', e, E, v⟩ := X_fill_L (x := x) hp hn n 0 h eg_F (by omega) (by rw [eg_F_eq]; omega) hk
  refine ⟨h', ?_, E, fun k => ?_⟩
  · unfold fJ7_fill_53178 eg_al
    rw [if_pos ⟨hp, by rw [hk]; show eg_arr 100; decide⟩, hk, Option.bind_some]
    have e' : fJ7_fill_53178_L5 eg_F h p x 0 (nI n) = some h' := e
    rw [e', Option.bind_some]
  · rw [v k]
    by_cases c : k < n
    · rw [if_pos c, if_pos ⟨by omega, c⟩]
    · rw [if_neg c, if_neg (fun z => c z.2)]
theorem X_bestsIn {h : eg_H} {U : Nat → Nat} {lw : eg_LW} {era s p : Nat} {B : Nat × Nat} (K : XK h U lw era B) (hs : s < 432) (hp : eg_P h 39 s = some p) : ∃ h', fX4_bestsIn h p (nI era) = some (p + 1, h') ∧ eg_gr [] h h' ∧ eg_eq (SK p) h h' ∧ XK h' U lw era B ∧ eg_P h' 39 s = some p ∧ eg_I h' p 1 = nI era := by
  have K0 := K
  obtain ⟨a1, a2, a3, a4, a5, a6⟩ := K
  have k0 := a3 s hs p hp
  obtain ⟨⟨k1, k2, k3, k4⟩, e', b1, b2, b3⟩ := k0
  have hO : eg_isO h 4 p := ⟨by omega, k2⟩
  unfold fX4_bestsIn
  rw [if_pos hO]
  unfold eg_gI eg_gR
  rw [if_pos hO, Option.bind_some, b1]
  by_cases c : e' = era
  · subst c
    refine ⟨h, ?_, gr_rfl, eq_rfl, K0, hp, b1⟩
    rw [if_pos rfl, if_pos hO, k4, Option.bind_some]
  · obtain ⟨h1, e1, E1, v1⟩ := X_fill (x := 0) (p := p + 1) (n := 61) (by omega) (by omega) k3
    have Q1 : eg_eq (SK p) h h1 := eq_mono E1 (fun r i hc => by
      unfold SK eg_cov at hc
      unfold eg_cov
      simp only [List.any_cons, List.any_nil, Bool.or_eq_false_iff] at hc ⊢
      exact ⟨hc.2.1, trivial⟩)
    have Q2 : eg_eq (SK p) h (eg_sI h1 p 1 (nI era)) := eq_sI Q1 (by simp [SK, eg_cov])
    have hO1 : eg_isO h1 4 p := ⟨by omega, by rw [eq_kd E1]; exact k2⟩
    have hO2 : eg_isO (eg_sI h1 p 1 (nI era)) 4 p := hO1
    have hP1 : eg_P h1 p 0 = some (p + 1) := by
      rw [(E1.2 p 0 (by simp [eg_cov])).2.2]; exact k4
    have hI1 : eg_I (eg_sI h1 p 1 (nI era)) p 1 = nI era := by rw [I_sI, if_pos ⟨rfl, rfl⟩]
    refine ⟨eg_sI h1 p 1 (nI era), ?_, gr_SK ⟨k1, k2, k3, k4⟩ Q2, Q2, XK_SK K0 hs hp Q2 ⟨⟨k1, by rw [eq_kd Q2]; exact k2, by rw [eq_kd Q2]; exact k3, hP1⟩, era, hI1, Nat.le_refl _, fun _ y hy => Or.inl ?_⟩, ?_, hI1⟩
    · rw [if_neg (fun w => c ((nI_eq (by omega) (by omega)).mp w)), if_pos hO, k4, Option.bind_some, e1, Option.bind_some]
      unfold eg_pI
      rw [if_pos hO1, Option.bind_some, if_pos hO2]
      show ((eg_P h1 p 0).bind _) = _
      rw [hP1, Option.bind_some]
    · rw [I_sI, if_neg (by omega), v1 y, if_pos (by omega)]
    · show eg_P h1 39 s = _
      rw [(E1.2 39 s (by simp [eg_cov]; omega)).2.2]; exact hp
