def ptS (σ : eg_S) (a b e d : Nat) : Nat → Nat := ptF (sU σ) (sL σ) (sU σ 0) a b e d (sU σ 2)
theorem SC_x {c : Nat} (hc : isC c) {h h' : eg_H} (G : eg_gr (SC c) h h') : eg_gr Sx h h' := gr_mono G (fun p i _ hx => by
  have key : ∀ t ∈ SC c, t ∈ Sx := by rcases hc with rfl | rfl | rfl <;> decide
  unfold eg_cov at hx ⊢
  rw [List.any_eq_false] at hx ⊢
  exact fun t ht => hx t (key t ht))
theorem cov_sub {S S' : List (Nat × Option Nat)} (hS : ∀ t ∈ S, t ∈ S') {h h' : eg_H} (E : eg_eq S h h') : eg_eq S' h h' := eq_mono E (fun p i hx => by
  unfold eg_cov at hx ⊢
  rw [List.any_eq_false] at hx ⊢
  exact fun t ht => hx t (hS t ht))
theorem gr_sub {S S' : List (Nat × Option Nat)} (hS : ∀ t ∈ S, t ∈ S') {h h' : eg_H} (G : eg_gr S h h') : eg_gr S' h h' := gr_mono G (fun p i _ hx => by
  unfold eg_cov at hx ⊢
  rw [List.any_eq_false] at hx ⊢
  exact fun t ht => hx t (hS t ht))
theorem SP_x {h h' : eg_H} (E : eg_eq SP h h') : eg_eq Rx h h' := cov_sub (by decide) E
theorem SB_x {h h' : eg_H} (E : eg_eq SB h h') : eg_eq Rx h h' := cov_sub (by decide) E
theorem SH_x {h h' : eg_H} (E : eg_eq SH h h') : eg_eq Rx h h' := cov_sub (by decide) E
theorem SF_x {h h' : eg_H} (E : eg_eq SF h h') : eg_eq Rx h h' := cov_sub (by decide) E
theorem Sc_x {h h' : eg_H} (G : eg_gr Sc h h') : eg_gr Sx h h' := gr_sub (by decide) G
def XOk (h h' : eg_H) (σ : eg_S) (B : Nat × Nat) : Prop := XI h' σ B ∧ eg_gc h h'
def ROk (h h' : eg_H) (σ : eg_S) : Prop := RI h' σ ∧ eg_rf h h'
theorem XOk_rfl {h : eg_H} {σ : eg_S} {B : Nat × Nat} (X : XI h σ B) : XOk h h σ B := ⟨X, fun _ _ _ _ => ⟨rfl, rfl, rfl⟩⟩
theorem XOk_scr {h h' : eg_H} {σ : eg_S} {B : Nat × Nat} (X : XI h σ B) (G : eg_gr Sx h h') (C : XC h' (sU σ) (sP σ) (sE σ) (sL σ) (eg_P h 36 2) (σ.1 11) B) : XOk h h' σ B := ⟨XI_scr X G C, gr_cl G⟩
theorem ROk_scr {h h' : eg_H} {σ : eg_S} (R : RI h σ) (Q : eg_eq Rx h h') : ROk h h' σ := ⟨RI_scr R Q, eq_rf Q⟩
theorem R_0 {h : eg_H} {σ : eg_S} (R : RI h σ) : RI (eg_sI h 54 0 0) σ ∧ eg_eq Rx h (eg_sI h 54 0 0) := ⟨RI_scr R (eq_sI eq_rfl rfl), eq_sI eq_rfl rfl⟩
section XP
variable {h : eg_H} {σ : eg_S} {B : Nat × Nat}
theorem XI_U (X : XI h σ B) (hP : 0 < sP σ) : Uok (sU σ) (sP σ) (sE σ) := (X.1.2.1.2.2.2 hP).2.2
theorem XI_P (X : XI h σ B) : sP σ ≤ 6 ∧ sE σ ≤ 6 := ⟨X.1.2.1.1, X.1.2.1.2.1⟩
theorem X_along (X : XI h σ B) {w a b e d : Nat} (hw : w < 3) (ha : a < sP σ) (hb : b < sP σ) (he : e < sE σ) (hd : d ≤ 1) : ∃ h', fX12_goAlong h 16 (nI w) (nI (10 * a + b)) (nI (10 * e + d)) = some (41 + 2 * w, h') ∧ eg_gr (SC (41 + 2 * w)) h h' ∧ XI h' σ B ∧ CO h' (41 + 2 * w) (ptS σ a b e d) (sU σ 2) := by
  have hU := XI_U X (by omega)
  have C := X.2.2.1
  have hs := C.1
  have hc : isC (41 + 2 * w) := by unfold isC; omega
  obtain ⟨h', e1, G1, C1, K1⟩ := X_crs hc hU C ha hb he hd (wd := sU σ 0) (st := sU σ 2) hU.1.2.2.1 (by have := hU.1.2.2.2.2.2.1; omega)
  refine ⟨h', ?_, G1, XI_scr X (SC_x hc G1) C1, K1⟩
  have e0 : fX7_told h 23 0 = some (nI (sU σ 0), h) := X_told hs C.2.1 (x := 0) (by omega)
  have e2 : fX7_told h 23 2 = some (nI (sU σ 2), h) := X_told hs C.2.1 (x := 2) (by omega)
  have hcl : (nI w).toNatClampNeg = w := nI_clamp (by omega)
  have hR : eg_aR h 112 40 (nI w) = some (41 + 2 * w) := by
    unfold eg_aR
    rw [if_pos ⟨by omega, by rw [kd_40 hs], nI_pos (by omega), by rw [kd_40 hs, hcl]; exact hw⟩, hcl]
    rcases (by omega : w = 0 ∨ w = 1 ∨ w = 2) with rfl | rfl | rfl
    · exact rf_40_0 hs
    · exact rf_40_1 hs
    · exact rf_40_2 hs
  unfold fX12_goAlong
  rw [if_pos (iO_16 hs), gR_16 hs, rf_16_17 hs, Option.bind_some, if_neg (nI_pos (by omega)), Option.bind_some, al_40 hs, Option.bind_some, if_neg (nI_ge hw (by omega))]
  unfold fX12_goAlong_j22
  rw [hR, Option.bind_some, gR_16 hs, rf_16_16 hs, Option.bind_some, gR_16 hs, rf_16_3 hs, Option.bind_some, e2, Option.bind_some]
  show ((eg_gR h 12 3 16).bind _) = _
  rw [gR_16 hs, rf_16_3 hs, Option.bind_some, e0, Option.bind_some]
  show ((fX2_fill h (41 + 2 * w) 38 (nI (10 * a + b)) (nI (10 * e + d)) (nI (sU σ 2)) (nI (sU σ 0))).bind _) = _
  rw [e1, Option.bind_some]
theorem X_comesTo {c : Nat} (hc : isC c) (hs : eg_stt h) {f : Nat → Nat} {st n : Nat} (K : CO h c f st) (hn : n < 2 ^ 31) : fX2_comesTo h c (nI n) = some (if n ≤ 60 then nI (f n) else 0, h) := by
  obtain ⟨o1, o2, o3, o4⟩ := C_o hs hc
  have c16 : 16 ≤ c + 1 := by rcases hc with rfl | rfl | rfl <;> omega
  have hcl : (nI n).toNatClampNeg = n := nI_clamp hn
  have hal : eg_al h (c + 1) = some (nI 62) := by
    unfold eg_al
    rw [if_pos ⟨c16, by rw [o4]; show eg_arr 100; decide⟩, o4]
  unfold fX2_comesTo
  rw [if_pos o1, if_neg (nI_pos hn), show eg_gR h 2 1 c = eg_P h c 1 from if_pos o1, o3, Option.bind_some, hal, Option.bind_some]
  by_cases c1 : n < 62
  · rw [if_pos (nI_lt c1 (by omega)), Option.bind_some]
    have hr : eg_aI h 100 (c + 1) (nI n) = some (eg_I h (c + 1) n) := by
      unfold eg_aI
      rw [if_pos ⟨c16, by rw [o4], nI_pos hn, by rw [o4, hcl]; exact c1⟩, hcl]
    rw [hr, Option.bind_some]
    by_cases c2 : n ≤ 60
    · rw [if_pos c2, K.1 n c2]
    · obtain rfl : n = 61 := by omega
      rw [if_neg c2, K.2.1]
  · rw [if_neg (nI_nlt (by omega) hn), if_neg (by omega)]
def aComes (σ : eg_S) (two c k : Int32) : Int32 := if (G2 (sP σ) two ∧ GE (sE σ) c) ∧ ¬ k < 0 then (if k ≤ 60 then nI (ptS σ (dA two) (dB two) (dA c) (dB c) (dN k)) else 0) else -1
theorem X_comes (X : XI h σ B) (two c k : Int32) : ∃ h', fX12_comes h 16 two c k = some (aComes σ two c k, h') ∧ XOk h h' σ B := by
  have C := X.2.2.1
  have hs := C.1
  have hP := XI_P X
  unfold fX12_comes aComes
  rw [if_pos (iO_16 hs), X_isCourse hs C.2.1 two c, Option.bind_some]
  show ∃ h', (if (if G2 (sP σ) two ∧ GE (sE σ) c then (1 : Int32) else 0) = 0 then _ else _) = _ ∧ _
  by_cases c1 : G2 (sP σ) two ∧ GE (sE σ) c
  · rw [if_pos c1, if_neg (by decide)]
    by_cases c2 : k < 0
    · rw [if_neg (Int32.not_le.mpr c2), if_neg (fun w => w.2 c2)]
      exact ⟨h, rfl, XOk_rfl X⟩
    · rw [if_pos (Int32.not_lt.mp c2), if_pos ⟨c1, c2⟩]
      obtain ⟨a, b, ha, hb, hab, rfl⟩ := G2_n hP.1 c1.1
      obtain ⟨e, d, he, hd, rfl⟩ := GE_n hP.2 c1.2
      obtain ⟨n, hn, rfl⟩ := pos_n c2
      obtain ⟨h', e1, G1', X1, K1⟩ := X_along X (w := 0) (by omega) ha hb he hd
      have e1' : fX12_goAlong h 16 0 (nI (10 * a + b)) (nI (10 * e + d)) = some (41, h') := e1
      refine ⟨h', ?_, X1, gr_cl (SC_x (Or.inl rfl) G1')⟩
      rw [e1', Option.bind_some]
      show ((fX2_comesTo h' 41 (nI n)).bind _) = _
      rw [X_comesTo (Or.inl rfl) X1.2.2.1.1 K1 hn, Option.bind_some, (dAB (by omega) (by omega)).1, (dAB (by omega) (by omega)).2, (dAB (a := e) (by omega) (by omega)).1, (dAB (a := e) (by omega) (by omega)).2, dN_n hn]
      by_cases c3 : n ≤ 60
      · rw [if_pos c3, if_pos (show nI n ≤ (60 : Int32) from nI_le (b := 60) c3 (by omega))]
      · rw [if_neg c3, if_neg (show ¬ nI n ≤ (60 : Int32) from nI_ge (a := 60) (by omega) hn)]
  · rw [if_neg c1, if_pos rfl, if_neg (fun w => c1 w.1)]
    exact ⟨h, rfl, XOk_rfl X⟩
theorem M_comes (R : RI h σ) (two c k : Int32) : ∃ h', fX13_comes h 54 two c k = some (aComes σ two c k, h') ∧ ROk h h' σ := by
  obtain ⟨R0, Q0⟩ := R_0 R
  have hs := R.1
  have s0 := R0.1
  have hP : sP σ ≤ 6 ∧ sE σ ≤ 6 := ⟨R.2.1.2.1.1, R.2.1.2.1.2.1⟩
  unfold fX13_comes aComes
  rw [if_pos (iO_54 hs), pI_54 hs, Option.bind_some, M_isTwo s0 R0.2.2.2.1 two, Option.bind_some]
  show ∃ h', (if (if G2 (sP σ) two then (1 : Int32) else 0) = 0 then _ else _) = _ ∧ _
  by_cases c1 : G2 (sP σ) two
  · rw [if_pos c1, if_neg (by decide), M_isFrom s0 R0.2.2.2.1 c, Option.bind_some]
    show ∃ h', (if (if GE (sE σ) c then (1 : Int32) else 0) = 0 then _ else _) = _ ∧ _
    by_cases c2 : GE (sE σ) c
    · rw [if_pos c2, if_neg (by decide)]
      by_cases c3 : k < 0
      · rw [if_neg (Int32.not_le.mpr c3), if_neg (fun w => w.2 c3)]
        exact ⟨_, rfl, ROk_scr R Q0⟩
      · rw [if_pos (Int32.not_lt.mp c3), if_pos (show (G2 (sP σ) two ∧ GE (sE σ) c) ∧ ¬ k < 0 from ⟨⟨c1, c2⟩, c3⟩)]
        by_cases c4 : k ≤ 60
        · rw [if_pos c4, if_pos c4]
          obtain ⟨a, b, ha, hb, hab, rfl⟩ := G2_n hP.1 c1
          obtain ⟨e, d, he, hd, rfl⟩ := GE_n hP.2 c2
          obtain ⟨n, hn, rfl⟩ := pos_n c3
          have hn6 : n ≤ 60 := by
            rcases Nat.lt_or_ge 60 n with z | z
            · exact absurd c4 (nI_ge (a := 60) z hn)
            · exact z
          have O := RI_RO R0 (by omega)
          have hU := O.2.1
          obtain ⟨h', e1, E1, K1⟩ := M_pair O ha hb he hd (st := sU σ 2) (by have := hU.1.2.2.2.2.2.1; omega) hn6
          refine ⟨h', ?_, ROk_scr R (eq_tr Q0 (SP_x E1))⟩
          have e2 : eg_aI (eg_sI h 54 0 0) 100 59 2 = some (nI (sU σ 2)) := R_mea O (x := 2) (by omega)
          rw [gR_54 s0, rf_54_18 s0, Option.bind_some, e2, Option.bind_some, e1, Option.bind_some, (dAB (by omega) (by omega)).1, (dAB (by omega) (by omega)).2, (dAB (a := e) (by omega) (by omega)).1, (dAB (a := e) (by omega) (by omega)).2, dN_n hn]
          rfl
        · rw [if_neg c4, if_neg c4]
          exact ⟨_, rfl, ROk_scr R Q0⟩
    · rw [if_neg c2, if_pos rfl, if_neg (fun w => c2 w.1.2)]
      exact ⟨_, rfl, ROk_scr R Q0⟩
  · rw [if_neg c1, if_pos rfl, if_neg (fun w => c1 w.1.1)]
    exact ⟨_, rfl, ROk_scr R Q0⟩
def aFar (σ : eg_S) (two c : Int32) : Int32 := if G2 (sP σ) two ∧ GE (sE σ) c then nI (frF (ptS σ (dA two) (dB two) (dA c) (dB c)) 60) else -1
def aHope (σ : eg_S) (two c : Int32) : Int64 := if G2 (sP σ) two ∧ GE (sE σ) c then jI (hpF (ptS σ (dA two) (dB two) (dA c) (dB c)) 60) else -1
theorem X_far (X : XI h σ B) (two c : Int32) : ∃ h', fX12_far h 16 two c = some (aFar σ two c, h') ∧ XOk h h' σ B := by
  have C := X.2.2.1
  have hs := C.1
  have hP := XI_P X
  unfold fX12_far aFar
  rw [if_pos (iO_16 hs), X_isCourse hs C.2.1 two c, Option.bind_some]
  show ∃ h', (if (if G2 (sP σ) two ∧ GE (sE σ) c then (1 : Int32) else 0) = 0 then _ else _) = _ ∧ _
  by_cases c1 : G2 (sP σ) two ∧ GE (sE σ) c
  · rw [if_pos c1, if_neg (by decide), if_pos c1]
    obtain ⟨a, b, ha, hb, hab, rfl⟩ := G2_n hP.1 c1.1
    obtain ⟨e, d, he, hd, rfl⟩ := GE_n hP.2 c1.2
    obtain ⟨h', e1, G1', X1, K1⟩ := X_along X (w := 0) (by omega) ha hb he hd
    have e1' : fX12_goAlong h 16 0 (nI (10 * a + b)) (nI (10 * e + d)) = some (41, h') := e1
    refine ⟨h', ?_, X1, gr_cl (SC_x (Or.inl rfl) G1')⟩
    rw [e1', Option.bind_some]
    show ((fX2_reach h' 41).bind _) = _
    unfold fX2_reach
    have s1 := X1.2.2.1.1
    rw [if_pos (iO_41 s1), gI_41 s1, Option.bind_some, K1.2.2.1, Option.bind_some, (dAB (by omega) (by omega)).1, (dAB (by omega) (by omega)).2, (dAB (a := e) (by omega) (by omega)).1, (dAB (a := e) (by omega) (by omega)).2]
  · rw [if_neg c1, if_pos rfl, if_neg c1]
    exact ⟨h, rfl, XOk_rfl X⟩
theorem X_hope (X : XI h σ B) (two c : Int32) : ∃ h', fX12_hope h 16 two c = some (aHope σ two c, h') ∧ XOk h h' σ B := by
  have C := X.2.2.1
  have hs := C.1
  have hP := XI_P X
  unfold fX12_hope aHope
  rw [if_pos (iO_16 hs), X_isCourse hs C.2.1 two c, Option.bind_some]
  show ∃ h', (if (if G2 (sP σ) two ∧ GE (sE σ) c then (1 : Int32) else 0) = 0 then _ else _) = _ ∧ _
  by_cases c1 : G2 (sP σ) two ∧ GE (sE σ) c
  · rw [if_pos c1, if_neg (by decide), if_pos c1]
    obtain ⟨a, b, ha, hb, hab, rfl⟩ := G2_n hP.1 c1.1
    obtain ⟨e, d, he, hd, rfl⟩ := GE_n hP.2 c1.2
    obtain ⟨h', e1, G1', X1, K1⟩ := X_along X (w := 0) (by omega) ha hb he hd
    have e1' : fX12_goAlong h 16 0 (nI (10 * a + b)) (nI (10 * e + d)) = some (41, h') := e1
    refine ⟨h', ?_, X1, gr_cl (SC_x (Or.inl rfl) G1')⟩
    rw [e1', Option.bind_some]
    show ((fX2_hopes h' 41).bind _) = _
    unfold fX2_hopes
    have s1 := X1.2.2.1.1
    rw [if_pos (iO_41 s1), gL_41 s1, Option.bind_some, K1.2.2.2.2, Option.bind_some, (dAB (by omega) (by omega)).1, (dAB (by omega) (by omega)).2, (dAB (a := e) (by omega) (by omega)).1, (dAB (a := e) (by omega) (by omega)).2]
  · rw [if_neg c1, if_pos rfl, if_neg c1]
    exact ⟨h, rfl, XOk_rfl X⟩
theorem M_hopeOf (R : RI h σ) {a b e d : Nat} (ha : a < sP σ) (hb : b < sP σ) (he : e < sE σ) (hd : d ≤ 1) : ∃ h', fX13_hopeOf h 54 (nI (10 * a + b)) (nI (10 * e + d)) = some (jI (hpF (ptS σ a b e d) 60), h') ∧ eg_eq SP h h' ∧ PNk h' (ptS σ a b e d) 60 := by
  have hs := R.1
  have O := RI_RO R (by omega)
  have hU := O.2.1
  obtain ⟨h', e1, E1, K1⟩ := M_pair O ha hb he hd (st := sU σ 2) (n := 60) (by have := hU.1.2.2.2.2.2.1; omega) (by omega)
  have s1 := eq_stt E1 hs (by decide)
  refine ⟨h', ?_, E1, K1⟩
  have e2 : eg_aI h 100 59 2 = some (nI (sU σ 2)) := R_mea O (x := 2) (by omega)
  have e1' : fX13_goPair h 54 (nI (10 * a + b)) (nI (10 * e + d)) (nI (sU σ 2)) 60 = _ := e1
  have hp := pt_le (U := sU σ) (lw := sL σ) (wd := sU σ 0) (a := a) (b := b) (e := e) (d := d) (st := sU σ 2) 60
  unfold fX13_hopeOf
  rw [if_pos (iO_54 hs), gR_54 hs, rf_54_18 hs, Option.bind_some, e2, Option.bind_some, e1', Option.bind_some]
  show (if 0 ≤ nI (ptF (sU σ) (sL σ) (sU σ 0) a b e d (sU σ 2) 60) then _ else _) = _
  rw [if_pos (show (0 : Int32) ≤ nI _ from nI_le (a := 0) (by omega) (by omega)), gL_54 s1, Option.bind_some, K1.2.2]
  rfl
theorem M_far (R : RI h σ) (two c : Int32) : ∃ h', fX13_far h 54 two c = some (aFar σ two c, h') ∧ ROk h h' σ := by
  obtain ⟨R0, Q0⟩ := R_0 R
  have hs := R.1
  have s0 := R0.1
  have hP : sP σ ≤ 6 ∧ sE σ ≤ 6 := ⟨R.2.1.2.1.1, R.2.1.2.1.2.1⟩
  unfold fX13_far aFar
  rw [if_pos (iO_54 hs), pI_54 hs, Option.bind_some, M_isTwo s0 R0.2.2.2.1 two, Option.bind_some]
  show ∃ h', (if (if G2 (sP σ) two then (1 : Int32) else 0) = 0 then _ else _) = _ ∧ _
  by_cases c1 : G2 (sP σ) two
  · rw [if_pos c1, if_neg (by decide), M_isFrom s0 R0.2.2.2.1 c, Option.bind_some]
    show ∃ h', (if (if GE (sE σ) c then (1 : Int32) else 0) = 0 then _ else _) = _ ∧ _
    by_cases c2 : GE (sE σ) c
    · rw [if_pos c2, if_neg (by decide), if_pos ⟨c1, c2⟩]
      obtain ⟨a, b, ha, hb, hab, rfl⟩ := G2_n hP.1 c1
      obtain ⟨e, d, he, hd, rfl⟩ := GE_n hP.2 c2
      obtain ⟨h', e1, E1, K1⟩ := M_hopeOf R0 ha hb he hd
      have s1 := eq_stt E1 s0 (by decide)
      refine ⟨h', ?_, ROk_scr R (eq_tr Q0 (SP_x E1))⟩
      rw [e1, Option.bind_some]
      show ((eg_gI h' 13 40 54).bind _) = _
      rw [gI_54 s1, Option.bind_some, K1.2.1, (dAB (by omega) (by omega)).1, (dAB (by omega) (by omega)).2, (dAB (a := e) (by omega) (by omega)).1, (dAB (a := e) (by omega) (by omega)).2]
    · rw [if_neg c2, if_pos rfl, if_neg (fun w => c2 w.2)]
      exact ⟨_, rfl, ROk_scr R Q0⟩
  · rw [if_neg c1, if_pos rfl, if_neg (fun w => c1 w.1)]
    exact ⟨_, rfl, ROk_scr R Q0⟩
theorem M_hope (R : RI h σ) (two c : Int32) : ∃ h', fX13_hope h 54 two c = some (aHope σ two c, h') ∧ ROk h h' σ := by
  obtain ⟨R0, Q0⟩ := R_0 R
  have hs := R.1
  have s0 := R0.1
  have hP : sP σ ≤ 6 ∧ sE σ ≤ 6 := ⟨R.2.1.2.1.1, R.2.1.2.1.2.1⟩
  unfold fX13_hope aHope
  rw [if_pos (iO_54 hs), pI_54 hs, Option.bind_some, M_isTwo s0 R0.2.2.2.1 two, Option.bind_some]
  show ∃ h', (if (if G2 (sP σ) two then (1 : Int32) else 0) = 0 then _ else _) = _ ∧ _
  by_cases c1 : G2 (sP σ) two
  · rw [if_pos c1, if_neg (by decide), M_isFrom s0 R0.2.2.2.1 c, Option.bind_some]
    show ∃ h', (if (if GE (sE σ) c then (1 : Int32) else 0) = 0 then _ else _) = _ ∧ _
    by_cases c2 : GE (sE σ) c
    · rw [if_pos c2, if_neg (by decide), if_pos ⟨c1, c2⟩]
      obtain ⟨a, b, ha, hb, hab, rfl⟩ := G2_n hP.1 c1
      obtain ⟨e, d, he, hd, rfl⟩ := GE_n hP.2 c2
      obtain ⟨h', e1, E1, K1⟩ := M_hopeOf R0 ha hb he hd
      refine ⟨h', ?_, ROk_scr R (eq_tr Q0 (SP_x E1))⟩
      rw [e1, Option.bind_some, (dAB (by omega) (by omega)).1, (dAB (by omega) (by omega)).2, (dAB (a := e) (by omega) (by omega)).1, (dAB (a := e) (by omega) (by omega)).2]
    · rw [if_neg c2, if_pos rfl, if_neg (fun w => c2 w.2)]
      exact ⟨_, rfl, ROk_scr R Q0⟩
  · rw [if_neg c1, if_pos rfl, if_neg (fun w => c1 w.1)]
    exact ⟨_, rfl, ROk_scr R Q0⟩
end XP
