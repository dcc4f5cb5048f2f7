section GM
variable {h : eg_H} {σ : eg_S} {B : Nat × Nat}
theorem M_dr {U : Nat → Nat} {P E : Nat} {lw : eg_LW} (O : RO h U P E lw) {p r e d y : Nat} (x : Int64) (hp : p < P) (hr : r < P) (he : e < E) (hd : d ≤ 1) (hy : y ≤ 60) : ∃ h1 h2 bow aim off, fX13_layBest h 54 (nI p) (nI r) (nI (10 * e + d)) (nI y) = some h1 ∧ eg_stt h1 ∧ eg_aI h1 100 61 (nI (4 * p)) = some (nI (U (4 + 4 * p))) ∧ eg_I h1 54 36 = bow ∧ fX13_layHolds h1 54 (nI r) (nI (10 * e + d)) (nI y) bow = some h2 ∧ eg_stt h2 ∧ eg_I h2 54 36 = bow ∧ eg_I h2 54 37 = aim ∧ fX13_offOf h2 54 (nI d) bow aim (iI ((drN (nx x) (U (4 + 4 * p)) : Int) - U (4 + 4 * p))) = some (off, h2) ∧ fX13_isCaught h2 54 off = some (if cgt lw (tOf U (U 0) p r e d) y x = true then 1 else 0, h2) ∧ eg_eq SB h h2 := by
  have hU := O.2.1
  have hP := hU.1.1
  obtain ⟨h1, e1, E1, b1, b2, b3⟩ := M_best O hp hr he hd (y := y) hy
  have T := tOf_ok (d := d) hU hU.1.2.2.1 hp hr he
  have hb1 := bst_lt (lw := lw) T y
  have O1 := RO_B O E1
  have hbw : bst lw (tOf U (U 0) p r e d) y / 11 ≤ 9 := by omega
  obtain ⟨h2, e2, E2, H2⟩ := M_holds (p := p) O1 hr he hd hy (b := bst lw (tOf U (U 0) p r e d) y / 11) hbw
  have O2 := RO_H O1 E2
  have hS := (hU.2.1 p hp).1
  have hdr : drN (nx x) (U (4 + 4 * p)) < 2 * U (4 + 4 * p) + 1 := Nat.mod_lt _ (by omega)
  have eo := M_off (k := drN (nx x) (U (4 + 4 * p))) (aim := ((bst lw (tOf U (U 0) p r e d) y % 11 : Nat) : Int) - 5) O2 hp hr he hd hbw
  have hwb := wb_b (w := tW (tOf U (U 0) p r e d)) (b := bst lw (tOf U (U 0) p r e d) y / 11) ⟨T.2.2.2.2.1, T.2.2.2.2.2.1⟩ hbw
  have hoff : i3 (lo (tOf U (U 0) p r e d) (bst lw (tOf U (U 0) p r e d) y / 11) (((bst lw (tOf U (U 0) p r e d) y % 11 : Nat) : Int) - 5) + (drN (nx x) (U (4 + 4 * p)) : Int)) := by
    have htd := td_b (b := 4) hwb
    have hS' : tS (tOf U (U 0) p r e d) ≤ 5 := T.1
    unfold lo i3
    omega
  have ec := M_caught (y := y) O2.1 T.2.2.2.1 H2 hoff
  refine ⟨h1, h2, _, _, _, e1, O1.1, by rw [R_per O1 (by omega)], b1, e2, O2.1, ?_, ?_, eo, ec, eq_tr E1 (SH_B E2)⟩
  · rw [(E2.2 54 36 rfl).1]; exact b1
  · rw [(E2.2 54 37 rfl).1]; exact b2
theorem fl_code (e d : Nat) (he : e ≤ 9) (hd : d ≤ 1) : nI (10 * e + d) / 10 * 10 + 1 - nI (10 * e + d) % 10 = nI (10 * e + (1 - d)) := by
  rw [(i10 e d he (by omega)).1, (i10 e d he (by omega)).2, Int32.mul_comm, nI_k10, nI_1, n_sub (by omega)]
  congr 1
  omega
theorem M_game_L {a b e d : Nat} (ha : a < sP σ) (hb : b < sP σ) (he : e < sE σ) (hd : d ≤ 1) : ∀ j n h x F, n + j = 60 → j + 1 < F → RI h σ → ∃ h' z, fX13_game_L41 F h 54 (nI (10 * a + b)) (nI (10 * e + d)) x (nI n) 1 = some z ∧ exG z = (54, nI (10 * a + b), nI (10 * e + d), nI (gmF σ a b e d j n x), h') ∧ eg_eq Rx h h' := by
  intro j
  induction j with
  | zero =>
    intro n h x F hn hF R
    obtain ⟨F, rfl⟩ : ∃ F', F = F' + 1 := ⟨F - 1, by omega⟩
    have hs := R.1
    have O := RI_RO R (by omega)
    have hU := O.2.1
    obtain rfl : n = 60 := by omega
    have h2 := hU.1.2.2.2.2.1
    have h2' := hU.1.2.2.2.2.2.1
    have h3 := hU.1.2.2.2.2.2.2
    have e3 : eg_aI h 100 59 3 = some (nI (sU σ 3)) := R_mea O (x := 3) (by omega)
    have e2 : eg_aI h 100 59 2 = some (nI (sU σ 2)) := R_mea O (x := 2) (by omega)
    refine ⟨h, .inr (54, nI (10 * a + b), nI (10 * e + d), nI 60, h), ?_, rfl, eq_rfl⟩
    rw [fX13_game_L41, if_neg (show ¬ (1 : Int32) = 0 by decide), gR_54 hs, rf_54_18 hs, Option.bind_some, e3, Option.bind_some, Option.bind_some, e2, Option.bind_some, n_ml, nI_add, Option.bind_some, if_neg (show ¬ nI (sU σ 3 + 60 * sU σ 2) ≤ (60 : Int32) from nI_ge (a := 60) (by omega) (by omega))]
  | succ j ih =>
    intro n h x F hn hF R
    obtain ⟨F, rfl⟩ : ∃ F', F = F' + 1 := ⟨F - 1, by omega⟩
    have hs := R.1
    have hP := RI_P R
    have O := RI_RO R (by omega)
    have hU := O.2.1
    have h3 := hU.1.2.2.2.2.2.2
    have hm : n * sU σ 2 ≤ 60 * 9 := Nat.mul_le_mul (by omega) hU.1.2.2.2.2.2.1
    have e3 : eg_aI h 100 59 3 = some (nI (sU σ 3)) := R_mea O (x := 3) (by omega)
    have e2 : eg_aI h 100 59 2 = some (nI (sU σ 2)) := R_mea O (x := 2) (by omega)
    rw [fX13_game_L41, if_neg (show ¬ (1 : Int32) = 0 by decide), gR_54 hs, rf_54_18 hs, Option.bind_some, e3, Option.bind_some, Option.bind_some, e2, Option.bind_some, n_ml, nI_add, Option.bind_some]
    unfold gmF
    by_cases c : 60 < sU σ 3 + n * sU σ 2
    · rw [if_neg (show ¬ nI (sU σ 3 + n * sU σ 2) ≤ (60 : Int32) from nI_ge (a := 60) (by omega) (by omega)), if_pos c]
      exact ⟨h, _, rfl, rfl, eq_rfl⟩
    rw [if_pos (show nI (sU σ 3 + n * sU σ 2) ≤ (60 : Int32) from nI_le (b := 60) (by omega) (by omega)), if_neg c]
    have fa : fOd (n + 1) a b < sP σ := by unfold fOd; split <;> assumption
    have fb : fOd (n + 1) b a < sP σ := by unfold fOd; split <;> assumption
    have fd : fOd (n + 1) d (1 - d) ≤ 1 := by unfold fOd; split <;> omega
    obtain ⟨h1, h2, bow, aim, off, q1, s1, q2, q3, q4, s2, q5, q6, q7, q8, E2⟩ := M_dr O x fa fb he fd (y := sU σ 3 + n * sU σ 2) (by omega)
    have hS := (hU.2.1 _ fa).1
    obtain ⟨d1, d2⟩ := dr_e (nx x) hS
    have hj : ∃ h' z, fX13_game_j147 (fX13_game_L41 F) h 54 (nI (10 * a + b)) (nI (10 * e + d)) x (nI n) (nI (sU σ 3 + n * sU σ 2)) (nI (fOd (n + 1) a b)) (nI (fOd (n + 1) b a)) (nI (10 * e + fOd (n + 1) d (1 - d))) = some z ∧ exG z = (54, nI (10 * a + b), nI (10 * e + d), nI (if cgt (sL σ) (tK (sU σ) (sU σ 0) a b e d (n + 1)) (sU σ 3 + n * sU σ 2) x = true then gmF σ a b e d j (n + 1) (nx x) else n), h') ∧ eg_eq Rx h h' := by
      have R2 := RI_scr R (SB_x E2)
      unfold fX13_game_j147
      rw [q1, Option.bind_some, Option.bind_some, gR_54 s1, rf_54_20 s1, Option.bind_some, nI_k4, q2, Option.bind_some, nI_k2, nI_1, if_neg d1, Option.bind_some, q2, Option.bind_some]
      rw [show x * (6364136223846793005 : Int64) + (1442695040888963407 : Int64) = nx x from rfl]
      rw [d2, Option.bind_some, gI_54 s1, Option.bind_some, q3, q4, Option.bind_some, gI_54 s2, Option.bind_some, q5, gI_54 s2, Option.bind_some, q6, (i10 e _ (by omega) (by omega)).2, q7, Option.bind_some]
      dsimp only
      rw [q8, Option.bind_some]
      dsimp only
      rw [g01]
      show ∃ h' z, (if cgt (sL σ) (tK (sU σ) (sU σ 0) a b e d (n + 1)) (sU σ 3 + n * sU σ 2) x = true then _ else _) = some z ∧ _
      by_cases c2 : cgt (sL σ) (tK (sU σ) (sU σ 0) a b e d (n + 1)) (sU σ 3 + n * sU σ 2) x = true
      · obtain ⟨h3, z, e5, e6, E3⟩ := ih (n + 1) h2 (nx x) F (by omega) (by omega) R2
        refine ⟨h3, z, ?_, ?_, eq_tr (SB_x E2) E3⟩
        · have c2' : cgt (sL σ) (tOf (sU σ) (sU σ 0) (fOd (n + 1) a b) (fOd (n + 1) b a) e (fOd (n + 1) d (1 - d))) (sU σ 3 + n * sU σ 2) x = true := c2
          rw [if_pos c2, nI_1, Option.bind_some, if_pos c2']
          exact e5
        · rw [if_pos c2]; exact e6
      · have c2' : ¬ cgt (sL σ) (tOf (sU σ) (sU σ 0) (fOd (n + 1) a b) (fOd (n + 1) b a) e (fOd (n + 1) d (1 - d))) (sU σ 3 + n * sU σ 2) x = true := c2
        rw [if_neg c2, Int32.add_zero, Option.bind_some, if_neg c2', if_neg c2]
        obtain ⟨F, rfl⟩ : ∃ F', F = F' + 1 := ⟨F - 1, by omega⟩
        refine ⟨h2, .inl (54, nI (10 * a + b), nI (10 * e + d), nI n, h2), ?_, rfl, SB_x E2⟩
        rw [fX13_game_L41, if_pos rfl]
    have en : nI n % 2 = nI (n % 2) := by rw [show (2 : Int32) = nI 2 from rfl, n_md (by omega) (by omega)]
    rw [en]
    unfold fX13_game_j86 fX13_game_j104 fX13_game_j122
    have ec := fl_code e d (by omega) hd
    by_cases cp : n % 2 = 0
    · have f1 : fOd (n + 1) a b = a := if_pos (by omega)
      have f2 : fOd (n + 1) b a = b := if_pos (by omega)
      have f3 : fOd (n + 1) d (1 - d) = d := if_pos (by omega)
      rw [f1, f2, f3] at hj
      rw [if_pos (show nI (n % 2) = 0 by rw [cp]; rfl), if_neg (show ¬ (1 : Int32) = 0 by decide), if_neg (show ¬ (1 : Int32) = 0 by decide), if_neg (show ¬ (1 : Int32) = 0 by decide), (i10 a b (by omega) (by omega)).1, (i10 a b (by omega) (by omega)).2]
      exact hj
    · have f1 : fOd (n + 1) a b = b := if_neg (by omega)
      have f2 : fOd (n + 1) b a = a := if_neg (by omega)
      have f3 : fOd (n + 1) d (1 - d) = 1 - d := if_neg (by omega)
      rw [f1, f2, f3] at hj
      rw [if_neg (nI_ne0 (by omega) (by omega)), if_pos rfl, if_pos rfl, if_pos rfl, (i10 a b (by omega) (by omega)).1, (i10 a b (by omega) (by omega)).2, ec]
      exact hj
theorem M_game (R : RI h σ) (two c : Int32) (x : Int64) : ∃ h', fX13_game h 54 two c x = some (aGame σ two c x, h') ∧ ROk h h' (sGame σ two c x) := by
  obtain ⟨R0, Q0⟩ := R_0 R
  have hs := R.1
  have s0 := R0.1
  have hP := RI_P R
  have h40 := R.2.1.2.2.2.2.2.2.1
  have f1 := R0.2.2.2.2.2.2.2.2.1.1
  unfold fX13_game aGame sGame
  rw [if_pos (iO_54 hs), pI_54 hs, Option.bind_some, M_isTwo s0 R0.2.2.2.1 two, Option.bind_some]
  dsimp only
  rw [g01]
  by_cases c1 : G2 (sP σ) two
  rotate_left
  · have gg : ¬ gGam σ two c := fun z => c1 z.1.1
    rw [if_neg c1, if_neg gg, if_neg gg]; exact ⟨_, rfl, ROk_scr R Q0⟩
  rw [if_pos c1, M_isFrom s0 R0.2.2.2.1 c, Option.bind_some]
  dsimp only
  rw [g01]
  by_cases c2 : GE (sE σ) c
  rotate_left
  · have gg : ¬ gGam σ two c := fun z => c2 z.1.2
    rw [if_neg c2, if_neg gg, if_neg gg]; exact ⟨_, rfl, ROk_scr R Q0⟩
  rw [if_pos c2, gI_54 s0, Option.bind_some, f1]
  by_cases c3 : σ.1 8 < 40
  rotate_left
  · have gg : ¬ gGam σ two c := fun z => c3 z.2
    rw [if_pos (show nI (σ.1 8) = (40 : Int32) by rw [show σ.1 8 = 40 by omega]; rfl), if_neg gg, if_neg gg]; exact ⟨_, rfl, ROk_scr R Q0⟩
  have gg : gGam σ two c := ⟨⟨c1, c2⟩, c3⟩
  rw [if_neg (show ¬ nI (σ.1 8) = (40 : Int32) from fun z => by have := (nI_eq (b := 40) (by omega) (by omega)).mp z; omega), if_pos gg, if_pos gg]
  unfold gaN
  obtain ⟨a, b, ha, hb, hab, rfl⟩ := G2_n hP.1 c1
  obtain ⟨e, d, he, hd, rfl⟩ := GE_n hP.2 c2
  rw [(dAB (a := a) (b := b) (by omega) (by omega)).1, (dAB (a := a) (b := b) (by omega) (by omega)).2, (dAB (a := e) (b := d) (by omega) (by omega)).1, (dAB (a := e) (b := d) (by omega) (by omega)).2]
  obtain ⟨h2, z, e2, e3, E2⟩ := M_game_L ha hb he hd 60 0 (eg_sI h 54 0 0) x eg_F (by omega) (by rw [eg_F_eq]; omega) R0
  have e2' : fX13_game_L41 eg_F (eg_sI h 54 0 0) 54 (nI (10 * a + b)) (nI (10 * e + d)) x 0 1 = some z := e2
  have R2 := RI_scr R0 E2
  have s2 := R2.1
  have rf2 := rf_tr (eq_rf Q0) (eq_rf E2)
  obtain ⟨d1, d2⟩ := R2.2.2.2.2.2.2.2.2.1
  have hcl : (nI (σ.1 8)).toNatClampNeg = σ.1 8 := nI_clamp (by omega)
  let m := gmF σ a b e d 60 0 x
  let g1 := eg_sI h2 87 (σ.1 8) (nI (10 * a + b))
  let g2 := eg_sI g1 88 (σ.1 8) (nI (10 * e + d))
  let g3 := eg_sI g2 89 (σ.1 8) (nI m)
  let g4 := eg_sI g3 54 72 (nI (σ.1 8 + 1))
  have Q4 : eg_eq Ry h2 g4 := eq_sI (eq_sI (eq_sI (eq_sI eq_rfl rfl) rfl) rfl) rfl
  have v1 : eg_I g1 54 72 = nI (σ.1 8) := by show eg_I (eg_sI h2 87 _ _) 54 72 = _; rw [I_sI, if_neg (by omega)]; exact d1
  have v2 : eg_I g2 54 72 = nI (σ.1 8) := by show eg_I (eg_sI g1 88 _ _) 54 72 = _; rw [I_sI, if_neg (by omega)]; exact v1
  have v3 : eg_I g3 54 72 = nI (σ.1 8) := by show eg_I (eg_sI g2 89 _ _) 54 72 = _; rw [I_sI, if_neg (by omega)]; exact v2
  have v4 : eg_I g4 54 72 = nI (σ.1 8 + 1) := by show eg_I (eg_sI g3 54 72 _) 54 72 = _; rw [I_sI, if_pos ⟨rfl, rfl⟩]
  have R4 : RI g4 (st_row σ 8 6 (nI (10 * a + b)) (nI (10 * e + d)) (nI m) 0) := by
    refine RI_row R2 Q4 (W_game R.2.1 c3) (fun j hj => if_neg (by omega)) (fun r hr => by funext k; exact if_neg (by omega)) ?_ ?_ ⟨v4, fun i hi => ?_⟩
    · have := R2.2.2.2.2.2.2.1
      exact this
    · have := R2.2.2.2.2.2.2.2.1
      exact this
    · have hi : i < σ.1 8 + 1 := hi
      obtain ⟨z0, z1, z2, _⟩ := rw4_0 (σ.2 6) (σ.1 8) (nI (10 * a + b)) (nI (10 * e + d)) (nI m) 0
      show eg_I (eg_sI (eg_sI (eg_sI (eg_sI h2 87 (σ.1 8) (nI (10 * a + b))) 88 (σ.1 8) (nI (10 * e + d))) 89 (σ.1 8) (nI m)) 54 72 (nI (σ.1 8 + 1))) 87 i = rw4 (σ.2 6) (σ.1 8) (nI (10 * a + b)) (nI (10 * e + d)) (nI m) 0 (4 * i) ∧ eg_I (eg_sI (eg_sI (eg_sI (eg_sI h2 87 (σ.1 8) (nI (10 * a + b))) 88 (σ.1 8) (nI (10 * e + d))) 89 (σ.1 8) (nI m)) 54 72 (nI (σ.1 8 + 1))) 88 i = rw4 (σ.2 6) (σ.1 8) (nI (10 * a + b)) (nI (10 * e + d)) (nI m) 0 (4 * i + 1) ∧ eg_I (eg_sI (eg_sI (eg_sI (eg_sI h2 87 (σ.1 8) (nI (10 * a + b))) 88 (σ.1 8) (nI (10 * e + d))) 89 (σ.1 8) (nI m)) 54 72 (nI (σ.1 8 + 1))) 89 i = rw4 (σ.2 6) (σ.1 8) (nI (10 * a + b)) (nI (10 * e + d)) (nI m) 0 (4 * i + 2)
      by_cases c : i = σ.1 8
      · subst c
        rw [z0, z1, z2]
        simp only [I_sI]
        simp
      · have := d2 i (by omega)
        rw [rw4_lo _ _ _ _ _ _ (by omega), rw4_lo _ _ _ _ _ _ (by omega), rw4_lo _ _ _ _ _ _ (by omega)]
        simp only [I_sI]
        simp [c]
        exact this
  refine ⟨g4, ?_, R4, rf_tr rf2 (Ry_rf Q4)⟩
  have s1 : eg_stt g1 := s2
  have s2' : eg_stt g2 := s2
  have s3 : eg_stt g3 := s2
  have hj : fX13_game_j263 h2 54 (nI (10 * a + b)) (nI (10 * e + d)) (nI m) = some (nI m, g4) := by
    unfold fX13_game_j263
    rw [gR_54 s2, rf_54_69 s2, Option.bind_some, gI_54 s2, Option.bind_some, d1, wI_87 s2 (nI_pos (by omega)) (by rw [hcl]; omega), hcl, Option.bind_some]
    show ((eg_gR g1 13 70 54).bind _) = _
    rw [gR_54 s1, rf_54_70 s1, Option.bind_some, gI_54 s1, Option.bind_some, v1, wI_88 s1 (nI_pos (by omega)) (by rw [hcl]; omega), hcl, Option.bind_some]
    show ((eg_gR g2 13 71 54).bind _) = _
    rw [gR_54 s2', rf_54_71 s2', Option.bind_some, gI_54 s2', Option.bind_some, v2, wI_89 s2' (nI_pos (by omega)) (by rw [hcl]; omega), hcl, Option.bind_some]
    show ((eg_gI g3 13 72 54).bind _) = _
    rw [gI_54 s3, Option.bind_some, v3, nI_1, pI_54 s3, Option.bind_some]
  rw [e2', Option.bind_some]
  cases z with
  | inl z =>
    have e3 : z = (54, nI (10 * a + b), nI (10 * e + d), nI m, h2) := e3
    subst e3
    exact hj
  | inr z =>
    have e3 : z = (54, nI (10 * a + b), nI (10 * e + d), nI m, h2) := e3
    subst e3
    exact hj
end GM
