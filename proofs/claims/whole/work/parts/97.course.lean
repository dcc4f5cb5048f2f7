def fOd (k a b : Nat) : Nat := if k % 2 = 1 then a else b
def tK (U : Nat → Nat) (wd a b e d k : Nat) : eg_TT := tOf U wd (fOd k a b) (fOd k b a) e (fOd k d (1 - d))
def yK (U : Nat → Nat) (st k : Nat) : Nat := U 3 + (k - 1) * st
def ptF (U : Nat → Nat) (lw : eg_LW) (wd a b e d st : Nat) : Nat → Nat
  | 0 => 1000000000
  | k + 1 => if 60 < yK U st (k + 1) ∨ ptF U lw wd a b e d st k = 0 then 0 else ptF U lw wd a b e d st k * bgd lw (tK U wd a b e d (k + 1)) (yK U st (k + 1)) / (2 * U (4 + 4 * fOd (k + 1) a b) + 1)
def hpF (f : Nat → Nat) (n : Nat) : Nat := sm (fun i => f (i + 1)) n
def frF (f : Nat → Nat) (n : Nat) : Nat := sm (fun i => if 0 < f (i + 1) then 1 else 0) n
section CP
variable {U : Nat → Nat} {lw : eg_LW} {wd a b e d st : Nat}
theorem bgd_sl (T : eg_TT) (y : Nat) : bgd lw T y ≤ 2 * tS T + 1 := gd_le lw T y _ _
theorem pt_dec (k : Nat) : ptF U lw wd a b e d st (k + 1) ≤ ptF U lw wd a b e d st k := by
  show (if _ then 0 else _) ≤ _
  split
  · omega
  · have h1 := bgd_sl (lw := lw) (tK U wd a b e d (k + 1)) (yK U st (k + 1))
    have h2 : tS (tK U wd a b e d (k + 1)) = U (4 + 4 * fOd (k + 1) a b) := rfl
    rw [h2] at h1
    refine Nat.div_le_of_le_mul ?_
    rw [Nat.mul_comm]
    exact Nat.mul_le_mul_right _ h1
theorem pt_le (k : Nat) : ptF U lw wd a b e d st k ≤ 1000000000 := by
  induction k with
  | zero => exact Nat.le_refl _
  | succ k ih => exact Nat.le_trans (pt_dec k) ih
theorem pt_0 {k : Nat} (h : ptF U lw wd a b e d st k = 0) : ∀ j, ptF U lw wd a b e d st (k + j) = 0 := by
  intro j
  induction j with
  | zero => exact h
  | succ j ih =>
    have := pt_dec (U := U) (lw := lw) (wd := wd) (a := a) (b := b) (e := e) (d := d) (st := st) (k + j)
    rw [show k + (j + 1) = k + j + 1 by omega]
    omega
theorem hp_stay {f : Nat → Nat} {n m : Nat} (h : ∀ i, n < i → f i = 0) (hm : n ≤ m) : hpF f m = hpF f n := by
  obtain ⟨j, rfl⟩ : ∃ j, m = n + j := ⟨m - n, by omega⟩
  unfold hpF
  rw [sm_add, sm_0 (n := j) (fun i _ => h _ (by omega)), Nat.add_zero]
theorem fr_stay {f : Nat → Nat} {n m : Nat} (h : ∀ i, n < i → f i = 0) (hm : n ≤ m) : frF f m = frF f n := by
  obtain ⟨j, rfl⟩ : ∃ j, m = n + j := ⟨m - n, by omega⟩
  unfold frF
  rw [sm_add, sm_0 (n := j) (fun i _ => if_neg (by rw [h _ (by omega)]; omega)), Nat.add_zero]
theorem hp_le {f : Nat → Nat} {M : Nat} (h : ∀ i, f i ≤ M) (n : Nat) : hpF f n ≤ n * M := by
  unfold hpF
  induction n with
  | zero => simp [sm]
  | succ n ih => show sm _ n + f (n + 1) ≤ _; have := h (n + 1); rw [Nat.succ_mul]; omega
end CP
def CO (h : eg_H) (c : Nat) (f : Nat → Nat) (st : Nat) : Prop := (∀ k, k ≤ 60 → eg_I h (c + 1) k = nI (f k)) ∧ eg_I h (c + 1) 61 = 0 ∧ eg_I h c 2 = nI (frF f 60) ∧ eg_I h c 3 = nI st ∧ eg_L h c 4 = jI (hpF f 60)
def COk (h : eg_H) (c : Nat) (f : Nat → Nat) (st k : Nat) : Prop := (∀ j, j ≤ 61 → eg_I h (c + 1) j = if j ≤ k then nI (f j) else 0) ∧ eg_I h c 2 = nI k ∧ eg_I h c 3 = nI st ∧ eg_L h c 4 = jI (hpF f k)
def isC (c : Nat) : Prop := c = 41 ∨ c = 43 ∨ c = 45
def SC (c : Nat) : List (Nat × Option Nat) := [(36, some 3), (36, some 4), (36, some 5), (36, some 6), (36, some 7), (36, some 8), (39, none), (c, some 2), (c, some 3), (c, some 4), (c + 1, none)]
def SD (c : Nat) : List (Nat × Option Nat) := [(c, some 2), (c, some 3), (c, some 4), (c + 1, none)]
theorem Sc_C {c : Nat} {h h' : eg_H} (G : eg_gr Sc h h') : eg_gr (SC c) h h' := gr_mono G (fun p i _ hc => by
  unfold SC eg_cov at hc
  unfold Sc eg_cov
  simp only [List.any_cons, List.any_nil, Bool.or_eq_false_iff] at hc ⊢
  obtain ⟨z1, z2, z3, z4, z5, z6, z7, _⟩ := hc
  exact ⟨z1, z2, z3, z4, z5, z6, z7, trivial⟩)
theorem SD_C {c : Nat} {h h' : eg_H} (hc : isC c) (Q : eg_eq (SD c) h h') : eg_gr (SC c) h h' := gr_mono (gr_eq Q (by rcases hc with rfl | rfl | rfl <;> decide)) (fun p i _ hc => by
  unfold SC eg_cov at hc
  unfold SD eg_cov
  simp only [List.any_cons, List.any_nil, Bool.or_eq_false_iff] at hc ⊢
  obtain ⟨_, _, _, _, _, _, _, z1, z2, z3, z4, _⟩ := hc
  exact ⟨z1, z2, z3, z4, trivial⟩)
section CF
variable {U : Nat → Nat} {P E : Nat} {lw : eg_LW} {q : Option Nat} {era : Nat} {B : Nat × Nat}
theorem C_o {h : eg_H} (hs : eg_stt h) {c : Nat} (hc : isC c) : eg_isO h 2 c ∧ eg_P h c 0 = some 23 ∧ eg_P h c 1 = some (c + 1) ∧ eg_kd h (c + 1) = (100, 62) := by
  rcases hc with rfl | rfl | rfl
  · exact ⟨iO_41 hs, rf_41_0 hs, rf_41_1 hs, kd_42 hs⟩
  · exact ⟨iO_43 hs, rf_43_0 hs, rf_43_1 hs, kd_44 hs⟩
  · exact ⟨iO_45 hs, rf_45_0 hs, rf_45_1 hs, kd_46 hs⟩
theorem XC_SD {h h' : eg_H} {c : Nat} (hc : isC c) (C : XC h U P E lw q era B) (Q : eg_eq (SD c) h h') : XC h' U P E lw q era B := by
  rcases hc with rfl | rfl | rfl
  · exact XC_low C Q (by decide) (by decide) ⟨rfl, rfl, rfl, rfl, fun _ => ⟨rfl, rfl⟩⟩
  · exact XC_low C Q (by decide) (by decide) ⟨rfl, rfl, rfl, rfl, fun _ => ⟨rfl, rfl⟩⟩
  · exact XC_low C Q (by decide) (by decide) ⟨rfl, rfl, rfl, rfl, fun _ => ⟨rfl, rfl⟩⟩
theorem COk_gr {h h' : eg_H} {c k st : Nat} {f : Nat → Nat} (hc : isC c) (K : COk h c f st k) (G : eg_gr Sc h h') : COk h' c f st k := by
  have c1 : ∀ i, eg_cov Sc c i = false ∧ eg_cov Sc (c + 1) i = false := fun i => by rcases hc with rfl | rfl | rfl <;> exact ⟨rfl, rfl⟩
  have c9 : c + 1 < 95 := by rcases hc with rfl | rfl | rfl <;> omega
  refine ⟨fun j hj => ?_, ?_, ?_, ?_⟩
  · rw [(G.2.1 (c + 1) j c9 (c1 j).2).1]; exact K.1 j hj
  · rw [(G.2.1 c 2 (by omega) (c1 2).1).1]; exact K.2.1
  · rw [(G.2.1 c 3 (by omega) (c1 3).1).1]; exact K.2.2.1
  · rw [(G.2.1 c 4 (by omega) (c1 4).1).2.1]; exact K.2.2.2
theorem CO_of {h : eg_H} {c k st : Nat} {f : Nat → Nat} (K : COk h c f st k) (hk : k ≤ 60) (hz : ∀ i, k < i → i ≤ 60 → f i = 0) (hp : ∀ i, 1 ≤ i → i ≤ k → 0 < f i) : CO h c f st := by
  obtain ⟨a1, a2, a3, a4⟩ := K
  have hh : hpF f 60 = hpF f k := by
    obtain ⟨j, hj⟩ : ∃ j, 60 = k + j := ⟨60 - k, by omega⟩
    unfold hpF
    rw [hj, sm_add, sm_0 (n := j) (fun i hi => hz _ (by omega) (by omega)), Nat.add_zero]
  have hf : frF f 60 = k := by
    obtain ⟨j, hj⟩ : ∃ j, 60 = k + j := ⟨60 - k, by omega⟩
    unfold frF
    rw [hj, sm_add, sm_0 (n := j) (fun i hi => if_neg (by rw [hz _ (by omega) (by omega)]; omega)), Nat.add_zero]
    have : ∀ n, n ≤ k → sm (fun i => if 0 < f (i + 1) then 1 else 0) n = n := by
      intro n
      induction n with
      | zero => intro _; rfl
      | succ n ih =>
        intro hn
        show sm _ n + (if 0 < f (n + 1) then 1 else 0) = n + 1
        rw [ih (by omega), if_pos (hp (n + 1) (by omega) (by omega))]
    exact this k (Nat.le_refl _)
  refine ⟨fun j hj => ?_, ?_, by rw [hf]; exact a2, a3, by rw [hh]; exact a4⟩
  · rw [a1 j (by omega)]
    by_cases c : j ≤ k
    · rw [if_pos c]
    · rw [if_neg c, hz j (by omega) hj]; rfl
  · rw [a1 61 (by omega), if_neg (by omega)]
theorem md2 (k : Nat) (hk : k ≤ 1000) : nI k % 2 = 1 ↔ k % 2 = 1 := by
  have h2 : ((k : Nat) : Int).tmod 2 = ((k % 2 : Nat) : Int) := by
    rw [Int.tmod_eq_emod_of_nonneg (by omega)]
    omega
  rw [← iI_n, show (2 : Int32) = iI 2 from rfl, iI_mod (by unfold i3; omega) (by unfold i3; omega), h2]
  have := iI_eq (a := ((k % 2 : Nat) : Int)) (b := 1) (by unfold i3; omega) (by unfold i3; omega)
  exact this.trans (by omega)
theorem X_twoOf (h : eg_H) {k a b : Nat} (hk : k ≤ 1000) (ha : a ≤ 9) (hb : b ≤ 9) : fX2_twoOf h (nI k) (nI (10 * a + b)) = some (nI (10 * fOd k a b + fOd k b a), h) := by
  unfold fX2_twoOf fOd
  by_cases c : k % 2 = 1
  · rw [if_pos ((md2 k hk).mpr c), if_pos c, if_pos c]
  · rw [if_neg (fun w => c ((md2 k hk).mp w)), if_neg c, if_neg c, (i10 a b ha hb).1, (i10 a b ha hb).2, ← iI_n, ← iI_n, ← iI_n, show (10 : Int32) = iI 10 from rfl, iI_mul, iI_add]
    congr 2
    congr 1
    omega
theorem X_endOf (h : eg_H) {k e d : Nat} (hk : k ≤ 1000) (he : e ≤ 9) (hd : d ≤ 1) : fX2_eggEndOf h (nI k) (nI (10 * e + d)) = some (nI (10 * e + fOd k d (1 - d)), h) := by
  unfold fX2_eggEndOf fOd
  by_cases c : k % 2 = 1
  · rw [if_pos ((md2 k hk).mpr c), if_pos c]
  · rw [if_neg (fun w => c ((md2 k hk).mp w)), if_neg c, (i10 e d he (by omega)).1, (i10 e d he (by omega)).2, ← iI_n, ← iI_n, ← iI_n, show (10 : Int32) = iI 10 from rfl, show (1 : Int32) = iI 1 from rfl, iI_mul, iI_add, iI_sub]
    congr 2
    congr 1
    omega
def ex3 (x : (eg_H) ⊕ (eg_H) ⊕ (eg_H)) : eg_H := match x with
  | .inl h17 => h17
  | .inr (.inl h19) => h19
  | .inr (.inr h21) => h21
theorem jI_n0 {n : Nat} (h : (n : Int) ≤ 9223372036854775807) : jI (n : Int) = 0 ↔ n = 0 := by
  have := jI_eq (a := (n : Int)) (b := 0) (by unfold i6; omega) (by unfold i6; omega)
  exact this.trans (by omega)
theorem X_crs_L {c : Nat} (hc : isC c) (hU : Uok U P E) {a b e d st wd : Nat} (ha : a < P) (hb : b < P) (he : e < E) (hd : d ≤ 1) (hw : wd ≤ 9) (hst : st ≤ 60) : ∀ j k h F, k + j = 60 → j < F → XC h U P E lw q era B → COk h c (ptF U lw wd a b e d st) st k → 0 < ptF U lw wd a b e d st k → ∃ h' x, fX2_fill_L40 F h c 38 (nI (10 * a + b)) (nI (10 * e + d)) (nI wd) (jI (ptF U lw wd a b e d st k)) (nI (k + 1)) = some x ∧ ex3 x = h' ∧ eg_gr (SC c) h h' ∧ XC h' U P E lw q era B ∧ CO h' c (ptF U lw wd a b e d st) st := by
  have hP := hU.1.1
  have hE := hU.1.2.1
  have h3 := hU.1.2.2.2.2.2.2.2
  intro j
  induction j with
  | zero =>
    intro k h F hk hF C K hp
    obtain ⟨F, rfl⟩ : ∃ F', F = F' + 1 := ⟨F - 1, by omega⟩
    obtain rfl : k = 60 := by omega
    refine ⟨h, .inl h, ?_, rfl, gr_rfl, C, CO_of K (Nat.le_refl _) (fun i h1 h2 => by omega) (fun i h1 h2 => ?_)⟩
    · rw [fX2_fill_L40, if_pos (by decide)]
    · rcases Nat.eq_zero_or_pos (ptF U lw wd a b e d st i) with z | z
      · have := pt_0 z (60 - i)
        rw [show i + (60 - i) = 60 by omega] at this
        omega
      · exact z
  | succ j ih =>
    intro k h F hk hF C K hp
    obtain ⟨F, rfl⟩ : ∃ F', F = F' + 1 := ⟨F - 1, by omega⟩
    have hs := C.1
    obtain ⟨o1, o2, o3, o4⟩ := C_o hs hc
    have hpos : ∀ i, 1 ≤ i → i ≤ k → 0 < ptF U lw wd a b e d st i := fun i h1 h2 => by
      rcases Nat.eq_zero_or_pos (ptF U lw wd a b e d st i) with z | z
      · have := pt_0 z (k - i)
        rw [show i + (k - i) = k by omega] at this
        omega
      · exact z
    have gI2 : ∀ g, eg_isO g 2 c → ∀ i, eg_gI g 2 i c = some (eg_I g c i) := fun g hg i => if_pos hg
    have gR2 : ∀ g, eg_isO g 2 c → ∀ i, eg_gR g 2 i c = eg_P g c i := fun g hg i => if_pos hg
    have hyb : k * st ≤ 60 * 60 := Nat.mul_le_mul (by omega) hst
    have hy : yK U st (k + 1) = U 3 + k * st := rfl
    rw [fX2_fill_L40, if_neg (show ¬ (60 : Int32) < nI (k + 1) from nI_nlt (a := 60) (by omega) (by omega)), gR2 h o1, o2, Option.bind_some, gI2 h o1, K.2.2.1, Option.bind_some, X_yards hs C.2.1 (by omega), Option.bind_some]
    show ∃ h' x, (if nI (yK U st (k + 1)) ≤ 60 then _ else _) = _ ∧ _
    by_cases cy : yK U st (k + 1) ≤ 60
    · have A1 : fOd (k + 1) a b < P ∧ fOd (k + 1) b a < P := by unfold fOd; split <;> exact ⟨by assumption, by assumption⟩
      have D1 : fOd (k + 1) d (1 - d) ≤ 1 := by unfold fOd; split <;> omega
      obtain ⟨h1, e1, G1, C1⟩ := X_of C hU (p := fOd (k + 1) a b) (r := fOd (k + 1) b a) (e := e) (d := fOd (k + 1) d (1 - d)) (y := yK U st (k + 1)) A1.1 A1.2 he D1 cy hw
      have T1 := tOf_ok (d := fOd (k + 1) d (1 - d)) hU hw A1.1 A1.2 he
      have hb1 := bst_lt (lw := lw) T1 (yK U st (k + 1))
      have hg1 := bgd_le (lw := lw) T1 (yK U st (k + 1))
      have K1 := COk_gr hc K G1
      obtain ⟨q1, q2, q3, q4⟩ := C_o C1.1 hc
      have hS := (hU.2.1 _ A1.1).1
      have hle := pt_le (U := U) (lw := lw) (wd := wd) (a := a) (b := b) (e := e) (d := d) (st := st) k
      have hpt : ptF U lw wd a b e d st (k + 1) = ptF U lw wd a b e d st k * bgd lw (tK U wd a b e d (k + 1)) (yK U st (k + 1)) / (2 * U (4 + 4 * fOd (k + 1) a b) + 1) := if_neg (by omega)
      have hmul : ptF U lw wd a b e d st k * bgd lw (tK U wd a b e d (k + 1)) (yK U st (k + 1)) ≤ 1000000000 * 11 := Nat.mul_le_mul hle hg1
      have hdv : (jI (ptF U lw wd a b e d st k) * (nI (bgd lw (tK U wd a b e d (k + 1)) (yK U st (k + 1)))).toInt64) / (nI (2 * U (4 + 4 * fOd (k + 1) a b) + 1)).toInt64 = jI (ptF U lw wd a b e d st (k + 1)) := by
        have hg1' : bgd lw (tK U wd a b e d (k + 1)) (yK U st (k + 1)) ≤ 11 := hg1
        rw [← iI_n, ← iI_n, iI_w (by unfold i3; omega), iI_w (by unfold i3; omega), jI_mul, hpt]
        have e2 : ((ptF U lw wd a b e d st k : Nat) : Int) * ((bgd lw (tK U wd a b e d (k + 1)) (yK U st (k + 1)) : Nat) : Int) = ((ptF U lw wd a b e d st k * bgd lw (tK U wd a b e d (k + 1)) (yK U st (k + 1)) : Nat) : Int) := by rw [Int.natCast_mul]
        have e3 : ((ptF U lw wd a b e d st k * bgd lw (tK U wd a b e d (k + 1)) (yK U st (k + 1)) : Nat) : Int).tdiv ((2 * U (4 + 4 * fOd (k + 1) a b) + 1 : Nat) : Int) = ((ptF U lw wd a b e d st k * bgd lw (tK U wd a b e d (k + 1)) (yK U st (k + 1)) / (2 * U (4 + 4 * fOd (k + 1) a b) + 1) : Nat) : Int) := by
          rw [Int.tdiv_eq_ediv_of_nonneg (by omega), Int.natCast_ediv]
        have hq : ptF U lw wd a b e d st k * bgd lw (tK U wd a b e d (k + 1)) (yK U st (k + 1)) / (2 * U (4 + 4 * fOd (k + 1) a b) + 1) ≤ 11000000000 := Nat.le_trans (Nat.div_le_self _ _) hmul
        rw [e2, jI_div (by unfold i6; omega) (by unfold i6; omega) (by rw [e3]; unfold i6; omega), e3]
      have hle' := pt_le (U := U) (lw := lw) (wd := wd) (a := a) (b := b) (e := e) (d := d) (st := st) (k + 1)
      have hne64 : ¬ (nI (2 * U (4 + 4 * fOd (k + 1) a b) + 1)).toInt64 = 0 := by
        rw [← iI_n, iI_w (by unfold i3; omega)]
        exact fun w => by have := (jI_eq (b := 0) (by unfold i6; omega) (by unfold i6; omega)).mp w; omega
      rw [if_pos (show nI (yK U st (k + 1)) ≤ (60 : Int32) from nI_le (b := 60) cy (by omega)), X_twoOf h (by omega) (by omega) (by omega), Option.bind_some]
      show ∃ h' x, ((fX2_eggEndOf h (nI (k + 1)) (nI (10 * e + d))).bind _) = _ ∧ _
      rw [X_endOf h (by omega) (by omega) hd, Option.bind_some]
      show ∃ h' x, ((fX0_of h 38 (nI (10 * fOd (k + 1) a b + fOd (k + 1) b a)) (nI (10 * e + fOd (k + 1) d (1 - d))) (nI (yK U st (k + 1))) (nI wd)).bind _) = _ ∧ _
      rw [e1, Option.bind_some]
      show ∃ h' x, ((fX11_goodIn h1 _).bind _) = _ ∧ _
      rw [X_goodIn h1 hb1 hg1, Option.bind_some]
      show ∃ h' x, ((eg_gR h1 2 0 c).bind _) = _ ∧ _
      rw [gR2 h1 q1, q2, Option.bind_some, (i10 (fOd (k + 1) a b) (fOd (k + 1) b a) (by omega) (by omega)).1, X_slips C1.1 C1.2.1 hU A1.1, Option.bind_some]
      show ∃ h' x, (if (nI (2 * U (4 + 4 * fOd (k + 1) a b) + 1)).toInt64 = 0 then none else ((some ((jI (ptF U lw wd a b e d st k) * (nI (bgd lw (tK U wd a b e d (k + 1)) (yK U st (k + 1)))).toInt64) / (nI (2 * U (4 + 4 * fOd (k + 1) a b) + 1)).toInt64)).bind _)) = _ ∧ _
      rw [if_neg hne64, hdv, Option.bind_some]
      by_cases c0 : ptF U lw wd a b e d st (k + 1) = 0
      · rw [if_pos ((jI_n0 (by omega)).mpr c0)]
        refine ⟨h1, _, rfl, rfl, Sc_C G1, C1, CO_of K1 (by omega) (fun i h1 h2 => ?_) hpos⟩
        have := pt_0 c0 (i - (k + 1))
        rw [show k + 1 + (i - (k + 1)) = i by omega] at this
        exact this
      · have hcl : (nI (k + 1)).toNatClampNeg = k + 1 := nI_clamp (by omega)
        have hw2 : eg_wI h1 100 (c + 1) (nI (k + 1)) (jI (ptF U lw wd a b e d st (k + 1))).toInt32 = some (eg_sI h1 (c + 1) (k + 1) (nI (ptF U lw wd a b e d st (k + 1)))) := by
          unfold eg_wI
          rw [if_pos ⟨by rcases hc with rfl | rfl | rfl <;> omega, by rw [q4], nI_pos (by omega), by rw [q4, hcl]; show k + 1 < 62; omega⟩, hcl, jI_w (by unfold i3; omega), iI_n]
        let g1 := eg_sI h1 (c + 1) (k + 1) (nI (ptF U lw wd a b e d st (k + 1)))
        let g2 := eg_sL g1 c 4 (jI (hpF (ptF U lw wd a b e d st) k) + jI (ptF U lw wd a b e d st (k + 1)))
        let g3 := eg_sI g2 c 2 (nI (k + 1))
        have Q3 : eg_eq (SD c) h1 g3 := eq_sI (eq_sL (eq_sI eq_rfl (by simp [SD, eg_cov])) (by simp [SD, eg_cov])) (by simp [SD, eg_cov])
        have C3 : XC g3 U P E lw q era B := XC_SD hc C1 Q3
        have K3 : COk g3 c (ptF U lw wd a b e d st) st (k + 1) := by
          obtain ⟨z1, z2, z3, z4⟩ := K1
          refine ⟨fun i hi => ?_, ?_, ?_, ?_⟩
          · show eg_I (eg_sI g2 c 2 (nI (k + 1))) (c + 1) i = _
            rw [I_sI, if_neg (by omega)]
            show eg_I (eg_sI h1 (c + 1) (k + 1) _) (c + 1) i = _
            rw [I_sI]
            by_cases ci : i = k + 1
            · subst ci; rw [if_pos ⟨rfl, rfl⟩, if_pos (Nat.le_refl _)]
            · rw [if_neg (fun z => ci z.2), z1 i hi]
              by_cases c5 : i ≤ k
              · rw [if_pos c5, if_pos (by omega)]
              · rw [if_neg c5, if_neg (by omega)]
          · show eg_I (eg_sI g2 c 2 (nI (k + 1))) c 2 = _
            rw [I_sI, if_pos ⟨rfl, rfl⟩]
          · show eg_I (eg_sI g2 c 2 (nI (k + 1))) c 3 = _
            rw [I_sI, if_neg (by omega)]
            show eg_I (eg_sI h1 (c + 1) (k + 1) _) c 3 = _
            rw [I_sI, if_neg (by omega)]
            exact z3
          · show eg_L (eg_sL g1 c 4 _) c 4 = _
            rw [L_sL, if_pos ⟨rfl, rfl⟩, jI_add]
            congr 1
        obtain ⟨h', x, e4, x4, G4, C4, K4⟩ := ih (k + 1) g3 F (by omega) (by omega) C3 K3 (by omega)
        refine ⟨h', x, ?_, x4, gr_tr (Sc_C G1) (gr_tr (SD_C hc Q3) G4), C4, K4⟩
        have og1 : eg_isO g1 2 c := q1
        have og2 : eg_isO g2 2 c := q1
        rw [if_neg (fun w => c0 ((jI_n0 (by omega)).mp w)), gR2 h1 q1, q3, Option.bind_some, hw2, Option.bind_some]
        show ((eg_gL g1 2 4 c).bind _) = _
        have eL : eg_gL g1 2 4 c = some (jI (hpF (ptF U lw wd a b e d st) k)) := by
          unfold eg_gL
          rw [if_pos og1]
          show some (eg_L h1 c 4) = _
          rw [K1.2.2.2]
        rw [eL, Option.bind_some]
        unfold eg_pL eg_pI
        rw [if_pos og1, Option.bind_some]
        show ((if eg_isO g2 2 c then some (eg_sI g2 c 2 (nI (k + 1))) else none).bind _) = _
        rw [if_pos og2, Option.bind_some, nI_1]
        exact e4
    · rw [if_neg (show ¬ nI (yK U st (k + 1)) ≤ (60 : Int32) from nI_ge (a := 60) (by omega) (by omega))]
      have c0 : ptF U lw wd a b e d st (k + 1) = 0 := if_pos (Or.inl (by omega))
      refine ⟨h, _, rfl, rfl, gr_rfl, C, CO_of K (by omega) (fun i h1 h2 => ?_) hpos⟩
      have := pt_0 c0 (i - (k + 1))
      rw [show k + 1 + (i - (k + 1)) = i by omega] at this
      exact this
theorem X_crs {c : Nat} (hc : isC c) (hU : Uok U P E) {a b e d st wd : Nat} {h : eg_H} (C : XC h U P E lw q era B) (ha : a < P) (hb : b < P) (he : e < E) (hd : d ≤ 1) (hw : wd ≤ 9) (hst : st ≤ 60) : ∃ h', fX2_fill h c 38 (nI (10 * a + b)) (nI (10 * e + d)) (nI st) (nI wd) = some h' ∧ eg_gr (SC c) h h' ∧ XC h' U P E lw q era B ∧ CO h' c (ptF U lw wd a b e d st) st := by
  have hs := C.1
  obtain ⟨o1, o2, o3, o4⟩ := C_o hs hc
  have c16 : 16 ≤ c + 1 := by rcases hc with rfl | rfl | rfl <;> omega
  obtain ⟨h1, e1, E1, v1⟩ := X_fill (x := 0) (p := c + 1) (n := 62) c16 (by omega) o4
  have Q1 : eg_eq (SD c) h h1 := eq_mono E1 (fun r i hc => by
    unfold SD eg_cov at hc
    unfold eg_cov
    simp only [List.any_cons, List.any_nil, Bool.or_eq_false_iff] at hc ⊢
    exact ⟨hc.2.2.2.1, trivial⟩)
  have C1 := XC_SD hc C Q1
  obtain ⟨q1, q2, q3, q4⟩ := C_o C1.1 hc
  let g1 := eg_sI h1 (c + 1) 0 1000000000
  let g2 := eg_sI g1 c 3 (nI st)
  let g3 := eg_sI g2 c 2 0
  let g4 := eg_sL g3 c 4 0
  have Q4 : eg_eq (SD c) h1 g4 := eq_sL (eq_sI (eq_sI (eq_sI eq_rfl (by simp [SD, eg_cov])) (by simp [SD, eg_cov])) (by simp [SD, eg_cov])) (by simp [SD, eg_cov])
  have C4 := XC_SD hc C1 Q4
  have K4 : COk g4 c (ptF U lw wd a b e d st) st 0 := by
    refine ⟨fun j hj => ?_, ?_, ?_, ?_⟩
    · show eg_I (eg_sI (eg_sI (eg_sI h1 (c + 1) 0 1000000000) c 3 (nI st)) c 2 0) (c + 1) j = _
      rw [I_sI, if_neg (by omega), I_sI, if_neg (by omega), I_sI]
      by_cases cj : j = 0
      · subst cj; rw [if_pos ⟨rfl, rfl⟩, if_pos (Nat.le_refl _)]; rfl
      · rw [if_neg (fun z => cj z.2), if_neg (by omega), v1 j, if_pos (by omega)]
    · show eg_I (eg_sI g2 c 2 0) c 2 = _
      rw [I_sI, if_pos ⟨rfl, rfl⟩]; rfl
    · show eg_I (eg_sI (eg_sI g1 c 3 (nI st)) c 2 0) c 3 = _
      rw [I_sI, if_neg (by omega), I_sI, if_pos ⟨rfl, rfl⟩]
    · show eg_L (eg_sL g3 c 4 0) c 4 = _
      rw [L_sL, if_pos ⟨rfl, rfl⟩]; rfl
  obtain ⟨h', x, e5, x5, G5, C5, K5⟩ := X_crs_L hc hU ha hb he hd hw hst 60 0 g4 eg_F (by omega) (by rw [eg_F_eq]; omega) C4 K4 (by show 0 < 1000000000; omega)
  have e5' : fX2_fill_L40 eg_F g4 c 38 (nI (10 * a + b)) (nI (10 * e + d)) (nI wd) 1000000000 1 = some x := e5
  refine ⟨h', ?_, gr_tr (SD_C hc (eq_tr Q1 Q4)) G5, C5, K5⟩
  have hw0 : eg_wI h1 100 (c + 1) 0 1000000000 = some g1 := by
    unfold eg_wI
    rw [if_pos ⟨c16, by rw [q4], by decide, by rw [q4]; decide⟩]
    rfl
  have p3 : eg_pI g1 2 3 c (nI st) = some g2 := if_pos q1
  have p2 : eg_pI g2 2 2 c 0 = some g3 := if_pos q1
  have p4 : eg_pL g3 2 4 c 0 = some g4 := if_pos q1
  unfold fX2_fill
  rw [if_pos o1, show eg_gR h 2 1 c = eg_P h c 1 from if_pos o1, o3, Option.bind_some, e1, Option.bind_some, show eg_gR h1 2 1 c = eg_P h1 c 1 from if_pos q1, q3, Option.bind_some, hw0, Option.bind_some, p3, Option.bind_some, p2, Option.bind_some, p4, Option.bind_some, e5', Option.bind_some, ← x5]
  cases x with
  | inl z => rfl
  | inr z => cases z <;> rfl
end CF
