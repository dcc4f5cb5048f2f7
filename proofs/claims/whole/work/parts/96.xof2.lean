def Sc : List (Nat × Option Nat) := [(36, some 3), (36, some 4), (36, some 5), (36, some 6), (36, some 7), (36, some 8), (39, none)]
theorem S36_c {h h' : eg_H} (G : eg_gr S36 h h') : eg_gr Sc h h' := gr_mono G (fun p i _ hc => by
  unfold Sc eg_cov at hc
  unfold S36 eg_cov
  simp only [List.any_cons, List.any_nil, Bool.or_eq_false_iff] at hc ⊢
  obtain ⟨z1, z2, z3, z4, z5, z6, _⟩ := hc
  exact ⟨z1, z2, z3, z4, z5, z6, trivial⟩)
theorem S39_c {h h' : eg_H} (G : eg_gr S39 h h') : eg_gr Sc h h' := gr_mono G (fun p i _ hc => by
  unfold Sc eg_cov at hc
  unfold S39 eg_cov
  simp only [List.any_cons, List.any_nil, Bool.or_eq_false_iff] at hc ⊢
  obtain ⟨_, _, _, _, _, _, z7, _⟩ := hc
  exact ⟨z7, trivial⟩)
section XG
variable {U : Nat → Nat} {P E : Nat} {lw : eg_LW} {q : Option Nat} {era : Nat} {B : Nat × Nat}
theorem XC_low {S : List (Nat × Option Nat)} {h h' : eg_H} (C : XC h U P E lw q era B) (Q : eg_eq S h h') (hS : S.all (fun t => t.1 < 95) = true) (hd : eg_P0.all (fun t => !(eg_cov S t.1 t.2.1)) = true) (c : eg_cov S 38 3 = false ∧ eg_cov S 36 2 = false ∧ eg_cov S 23 1 = false ∧ eg_cov S 23 2 = false ∧ ∀ i, eg_cov S 39 i = false ∧ eg_cov S 24 i = false) : XC h' U P E lw q era B := by
  obtain ⟨hs, V, h36, L, K⟩ := C
  obtain ⟨c1, c2, c3, c4, c5⟩ := c
  have G := gr_eq Q hS
  exact ⟨gr_stt G hs hd, XV_eq V G ⟨c3, c4, fun i => (c5 i).2⟩, by rw [(G.2.1 36 2 (by omega) c2).2.2]; exact h36, gr_XL G L, XK_low K Q hS c1 (fun i => (c5 i).1)⟩
theorem XC_law {h h' : eg_H} (C : XC h U P E lw q era B) (Q : eg_eq (Sq q) h h') : XC h' U P E lw q era B := by
  obtain ⟨hs, V, h36, L, K⟩ := C
  have G := gr_Sq L Q
  exact ⟨gr_stt G hs (by decide), XV_eq V G ⟨rfl, rfl, fun _ => rfl⟩, by rw [(G.2.1 36 2 (by omega) rfl).2.2]; exact h36, gr_XL G L, XK_Sq K L Q⟩
theorem X_anew {h : eg_H} (C : XC h U P E lw q era B) (hU : Uok U P E) {p r e d y wd : Nat} (hp : p < P) (hr : r < P) (he : e < E) (hd : d ≤ 1) (hy : y ≤ 60) (hw : wd ≤ 9) : ∃ h1 h', fX11_take h 36 (nI (10 * p + r)) (nI (10 * e + d)) (nI wd) = some h1 ∧ eg_stt h1 ∧ fX11_seek h1 36 (nI y) = some (nI (pk (bst lw (tOf U wd p r e d) y) (bgd lw (tOf U wd p r e d) y)), h') ∧ eg_gr Sc h h' ∧ XC h' U P E lw q era B ∧ (∀ i, eg_P h' 39 i = eg_P h 39 i) ∧ ∀ k i, KN h k → eg_I h' k i = eg_I h k i ∧ eg_I h' (k + 1) i = eg_I h (k + 1) i ∧ KN h' k := by
  obtain ⟨h1, e1, E1, T1⟩ := X_take C.1 C.2.1 hU (wd := wd) hp hr he hd
  have C1 : XC h1 U P E lw q era B := XC_low C E1 (by decide) (by decide) ⟨rfl, rfl, rfl, rfl, fun _ => ⟨rfl, rfl⟩⟩
  have O1 : XO h1 (tOf U wd p r e d) q lw := ⟨C1.1, tOf_ok hU hw hp hr he, C1.2.2.1, T1, C1.2.2.2.1⟩
  obtain ⟨h', e2, E2⟩ := X_seek O1 hy
  refine ⟨h1, h', e1, C1.1, e2, gr_tr (S36_c (gr_eq E1 (by decide))) (gr_mono (gr_Sq C1.2.2.2.1 E2) (fun _ _ _ _ => rfl)), XC_law C1 E2, fun i => ?_, fun k i kn => ?_⟩
  · rw [(E2.2 39 i (Sq_95 C1.2.2.2.1 (by omega) i)).2.2, (E1.2 39 i rfl).2.2]
  · have kn1 : KN h1 k := ⟨kn.1, by rw [eq_kd E1]; exact kn.2.1, by rw [eq_kd E1]; exact kn.2.2.1, by rw [(E1.2 k 0 (cov_95 (by decide) k 0 kn.1)).2.2]; exact kn.2.2.2⟩
    have hc : ∀ i, eg_cov (Sq q) k i = false ∧ eg_cov (Sq q) (k + 1) i = false := by
      intro i
      have L := C1.2.2.2.1
      cases q with
      | none => exact ⟨rfl, rfl⟩
      | some r =>
        cases lw with
        | none => exact L.elim
        | some f =>
          obtain ⟨p9, t, n, w, h1, h2, l0, l1, l2, l3, l4, l5, l6, l7, l8, l9⟩ := L
          obtain ⟨k1, k2, k3, k4⟩ := kn1
          refine ⟨cov_Sq (fun r' hr => ?_), cov_Sq (fun r' hr => ?_)⟩
          · cases hr
            refine ⟨fun z => ?_, fun z => ?_⟩
            · rw [z, l3] at k2; cases k2
            · rw [z, l4] at k2; cases k2
          · cases hr
            refine ⟨fun z => ?_, fun z => ?_⟩
            · have : k = r := by omega
              rw [this, l2] at k2; cases k2
            · have : k = r + 1 := by omega
              rw [this, l3] at k2; cases k2
    refine ⟨?_, ?_, kn1.1, by rw [eq_kd E2]; exact kn1.2.1, by rw [eq_kd E2]; exact kn1.2.2.1, by rw [(E2.2 k 0 (hc 0).1).2.2]; exact kn1.2.2.2⟩
    · rw [(E2.2 k i (hc i).1).1, (E1.2 k i (cov_95 (by decide) k i kn.1)).1]
    · rw [(E2.2 (k + 1) i (hc i).2).1, (E1.2 (k + 1) i (cov_95 (by decide) (k + 1) i (by have := kn.1; omega))).1]
theorem pk_n0 (k g : Nat) (hk : k < 110) (hg : g ≤ 99) : ¬ nI (pk k g) = 0 := by
  have : pk k g < 200000 ∧ 100 ≤ pk k g := by unfold pk; omega
  exact nI_ne0 (by omega) (by omega)
theorem bst_lt {T : eg_TT} (h : Tok T) (y : Nat) : bst lw T y < 110 := by
  have h1 := bi_lt (gk lw T y) (tN T) (by unfold tN; omega)
  have := h.2.1
  unfold bst
  unfold tN at h1 ⊢
  omega
theorem bgd_le {T : eg_TT} (h : Tok T) (y : Nat) : bgd lw T y ≤ 11 := by
  have := gk_e (lw := lw) (T := T) (y := y) h.2.2.2.1 (bst lw T y)
  have := eM_le h
  unfold bgd
  omega
theorem X_of {h : eg_H} (C : XC h U P E lw q era B) (hU : Uok U P E) {p r e d y wd : Nat} (hp : p < P) (hr : r < P) (he : e < E) (hd : d ≤ 1) (hy : y ≤ 60) (hw : wd ≤ 9) : ∃ h', fX0_of h 38 (nI (10 * p + r)) (nI (10 * e + d)) (nI y) (nI wd) = some (nI (pk (bst lw (tOf U wd p r e d) y) (bgd lw (tOf U wd p r e d) y)), h') ∧ eg_gr Sc h h' ∧ XC h' U P E lw q era B := by
  have hP := hU.1.1
  have hE := hU.1.2.1
  have h09 := hU.1.2.2.1
  have hs := C.1
  have e0 : fX7_told h 23 0 = some (nI (U 0), h) := X_told hs C.2.1 (x := 0) (by omega)
  unfold fX0_of
  rw [if_pos (iO_38 hs), gR_38 hs, rf_38_0 hs, Option.bind_some, e0, Option.bind_some]
  show ∃ h', (if nI wd = nI (U 0) then _ else _) = _ ∧ _
  by_cases c : wd = U 0
  · obtain ⟨h1, k, e1, G1, C1, P1, I1⟩ := X_rowOf C (p := p) (r := r) (e := e) (d := d) (by omega) (by omega) (by omega) hd
    obtain ⟨s1, s2, s3, s4, s5⟩ := slt_in (p := p) (r := r) (e := e) (d := d) (by omega) (by omega) (by omega) hd
    obtain ⟨kn, e', b1, b2, b3⟩ := C1.2.2.2.2.2.2.1 _ s1 k P1
    have her : e' = era := by
      rw [I1] at b1
      have := C1.2.2.2.2.2.1
      exact ((nI_eq (by omega) (by omega)).mp b1).symm
    have hval := b3 her y hy
    have hb : bV U lw (slt p r e d) y = pk (bst lw (tOf U wd p r e d) y) (bgd lw (tOf U wd p r e d) y) := by
      unfold bV
      rw [s2, s3, s4, s5, ← c]
    have hcl : (nI y).toNatClampNeg = y := nI_clamp (by omega)
    have hA : ∀ g, KN g k → eg_isA g 100 (k + 1) (nI y) := fun g hg => ⟨by have := hg.1; omega, by rw [hg.2.2.1], nI_pos (by omega), by rw [hg.2.2.1, hcl]; show y < 61; omega⟩
    have hal : eg_al h1 (k + 1) = some (nI 61) := by
      unfold eg_al
      rw [if_pos ⟨by have := kn.1; omega, by rw [kn.2.2.1]; show eg_arr 100; decide⟩, kn.2.2.1]
    have hrd : ∀ g, KN g k → eg_aI g 100 (k + 1) (nI y) = some (eg_I g (k + 1) y) := fun g hg => by
      unfold eg_aI
      rw [if_pos (hA g hg), hcl]
    have hwr : ∀ g, KN g k → ∀ x, eg_wI g 100 (k + 1) (nI y) x = some (eg_sI g (k + 1) y x) := fun g hg x => by
      unfold eg_wI
      rw [if_pos (hA g hg), hcl]
    have ha := hrd h1 kn
    rw [if_pos (by rw [c]), e1, Option.bind_some]
    show ∃ h', fX0_of_j23 h1 38 _ _ _ _ (some (k + 1)) = _ ∧ _
    unfold fX0_of_j23
    rw [if_neg (by simp), if_neg (nI_pos (by omega)), Option.bind_some, hal, Option.bind_some, if_pos (nI_lt (by omega) (by omega)), ha, Option.bind_some]
    have T := tOf_ok (d := d) hU hw hp hr he
    by_cases c0 : eg_I h1 (k + 1) y = 0
    · rw [if_pos c0]
      obtain ⟨h2, h3, a1, a2, a3, G3, C3, P3, K3⟩ := X_anew C1 hU hp hr he hd hy hw
      have kn3 := (K3 k 0 kn).2.2
      have Q4 : eg_eq (SK k) h3 (eg_sI h3 (k + 1) y (nI (pk (bst lw (tOf U wd p r e d) y) (bgd lw (tOf U wd p r e d) y)))) := eq_sI eq_rfl (by simp [SK, eg_cov])
      have K4 : XK (eg_sI h3 (k + 1) y (nI (pk (bst lw (tOf U wd p r e d) y) (bgd lw (tOf U wd p r e d) y)))) U lw era B := by
        refine XK_SK C3.2.2.2.2 s1 (by rw [P3]; exact P1) Q4 ⟨kn3, era, ?_, Nat.le_refl _, fun _ y' hy' => ?_⟩
        · rw [I_sI, if_neg (by omega), (K3 k 1 kn).1]; exact I1
        · rw [I_sI]
          by_cases cy : y' = y
          · subst cy
            rw [if_pos ⟨rfl, rfl⟩, hb]
            exact Or.inr rfl
          · rw [if_neg (fun z => cy z.2), (K3 k y' kn).2.1]
            exact b3 her y' hy'
      have G4 := gr_SK kn3 Q4
      refine ⟨_, ?_, gr_tr (S39_c G1) (gr_tr G3 (gr_mono G4 (fun _ _ _ _ => rfl))), ?_⟩
      · rw [gR_38 C1.1, rf_38_1 C1.1, Option.bind_some, a1, Option.bind_some, gR_38 a2, rf_38_1 a2, Option.bind_some, a3, Option.bind_some]
        show ((eg_wI h3 100 (k + 1) (nI y) _).bind _) = _
        rw [hwr h3 kn3, Option.bind_some, hrd _ (show KN (eg_sI h3 (k + 1) y _) k from kn3), I_sI, if_pos ⟨rfl, rfl⟩, Option.bind_some]
      · exact ⟨gr_stt G4 C3.1 (by decide), XV_eq C3.2.1 G4 ⟨rfl, rfl, fun _ => rfl⟩, by rw [(G4.2.1 36 2 (by omega) rfl).2.2]; exact C3.2.2.1, gr_XL G4 C3.2.2.2.1, K4⟩
    · rw [if_neg c0, Option.bind_some, hval.resolve_left c0, hb]
      exact ⟨h1, rfl, S39_c G1, C1⟩
  · rw [if_neg (fun w => c ((nI_eq (by omega) (by omega)).mp w))]
    obtain ⟨h2, h3, a1, a2, a3, G3, C3, _⟩ := X_anew C hU hp hr he hd hy hw
    refine ⟨h3, ?_, G3, C3⟩
    unfold fX0_of_j23 fX0_of_j41
    rw [if_pos rfl, gR_38 hs, rf_38_1 hs, Option.bind_some, a1, Option.bind_some, gR_38 a2, rf_38_1 a2, Option.bind_some, a3, Option.bind_some]
theorem X_goodIn (h : eg_H) {k g : Nat} (hk : k < 110) (hg : g ≤ 11) : fX11_goodIn h (nI (pk k g)) = some (nI g, h) := by
  have hp : pk k g < 200000 := by unfold pk; omega
  have h2 : ((pk k g : Nat) : Int).tmod 100 = g := by
    rw [Int.tmod_eq_emod_of_nonneg (by omega)]
    unfold pk
    omega
  unfold fX11_goodIn
  rw [← iI_n, ← iI_n, show (100 : Int32) = iI 100 from rfl, iI_mod (by unfold i3; omega) (by unfold i3; omega), h2]
theorem X_bowIn (h : eg_H) {k g : Nat} (hk : k < 110) (hg : g ≤ 11) : fX11_bowIn h (nI (pk k g)) = some (nI (k / 11), h) := by
  have hp : pk k g < 200000 := by unfold pk; omega
  have h2 : ((pk k g : Nat) : Int).tdiv 10000 = ((k / 11 : Nat) : Int) := by
    rw [Int.tdiv_eq_ediv_of_nonneg (by omega)]
    unfold pk
    omega
  unfold fX11_bowIn
  rw [← iI_n, ← iI_n, show (10000 : Int32) = iI 10000 from rfl, iI_div (by unfold i3; omega) (by unfold i3; omega) (by rw [h2]; unfold i3; omega), h2]
theorem X_aimIn (h : eg_H) {k g : Nat} (hk : k < 110) (hg : g ≤ 11) : fX11_aimIn h (nI (pk k g)) = some (iI ((k % 11 : Nat) - 5), h) := by
  have hp : pk k g < 200000 := by unfold pk; omega
  have h1 : ((pk k g : Nat) : Int).tdiv 100 = ((k / 11 * 100 + (k % 11 + 1) : Nat) : Int) := by
    rw [Int.tdiv_eq_ediv_of_nonneg (by omega)]
    unfold pk
    omega
  have h2 : ((k / 11 * 100 + (k % 11 + 1) : Nat) : Int).tmod 100 = ((k % 11 + 1 : Nat) : Int) := by
    rw [Int.tmod_eq_emod_of_nonneg (by omega)]
    omega
  unfold fX11_aimIn
  rw [← iI_n, show (100 : Int32) = iI 100 from rfl, iI_div (by unfold i3; omega) (by unfold i3; omega) (by rw [h1]; unfold i3; omega), h1, iI_mod (by unfold i3; omega) (by unfold i3; omega), h2, show (5 : Int32) = iI 5 from rfl, show (1 : Int32) = iI 1 from rfl, iI_sub, iI_sub]
  congr 2
  congr 1
  omega
end XG
