section MB
variable {U : Nat → Nat} {P E : Nat} {lw : eg_LW}
theorem ccH : (eg_cov SH 54 24 = false ∧ eg_cov SH 54 26 = false ∧ eg_cov SH 54 34 = false) ∧ ∀ i, eg_cov SH 59 i = false ∧ eg_cov SH 61 i = false ∧ eg_cov SH 63 i = false ∧ eg_cov SH 56 i = false ∧ eg_cov SH 57 i = false := ⟨⟨rfl, rfl, rfl⟩, fun _ => ⟨rfl, rfl, rfl, rfl, rfl⟩⟩
theorem ccB : (eg_cov SB 54 24 = false ∧ eg_cov SB 54 26 = false ∧ eg_cov SB 54 34 = false) ∧ ∀ i, eg_cov SB 59 i = false ∧ eg_cov SB 61 i = false ∧ eg_cov SB 63 i = false ∧ eg_cov SB 56 i = false ∧ eg_cov SB 57 i = false := ⟨⟨rfl, rfl, rfl⟩, fun _ => ⟨rfl, rfl, rfl, rfl, rfl⟩⟩
theorem SF_H {h h' : eg_H} (E : eg_eq SF h h') : eg_eq SH h h' := eq_mono E (fun p i hc => by
  unfold SH eg_cov at hc
  unfold SF eg_cov
  simp only [List.any_cons, List.any_nil, Bool.or_eq_false_iff] at hc ⊢
  obtain ⟨z1, z2, z3, z4, z5, z6, z7, z8, z9, z10, _⟩ := hc
  exact ⟨z1, z2, z3, z4, z5, z6, z7, z8, z9, z10, trivial⟩)
theorem SH_B {h h' : eg_H} (E : eg_eq SH h h') : eg_eq SB h h' := eq_mono E (fun p i hc => by
  unfold SB eg_cov at hc
  unfold SH eg_cov
  simp only [List.any_cons, List.any_nil, Bool.or_eq_false_iff] at hc ⊢
  obtain ⟨z1, z2, z3, z4, z5, z6, z7, z8, z9, z10, z11, _⟩ := hc
  exact ⟨z1, z2, z3, z4, z5, z6, z7, z8, z9, z10, z11, trivial⟩)
theorem RO_H {h h' : eg_H} (O : RO h U P E lw) (Q : eg_eq SH h h') : RO h' U P E lw := RO_eq O Q (by decide) ccH
theorem RO_B {h h' : eg_H} (O : RO h U P E lw) (Q : eg_eq SB h h') : RO h' U P E lw := RO_eq O Q (by decide) ccB
theorem i10 (e d : Nat) (he : e ≤ 9) (hd : d ≤ 9) : nI (10 * e + d) / 10 = nI e ∧ nI (10 * e + d) % 10 = nI d := by
  have h1 : ((10 * e + d : Nat) : Int).tdiv 10 = e := by rw [Int.tdiv_eq_ediv_of_nonneg (by omega)]; omega
  have h2 : ((10 * e + d : Nat) : Int).tmod 10 = d := by rw [Int.tmod_eq_emod_of_nonneg (by omega)]; omega
  constructor
  · rw [← iI_n, ← iI_n, show (10 : Int32) = iI 10 from rfl, iI_div (by unfold i3; omega) (by unfold i3; omega) (by rw [h1]; unfold i3; omega), h1]
  · rw [← iI_n, ← iI_n, show (10 : Int32) = iI 10 from rfl, iI_mod (by unfold i3; omega) (by unfold i3; omega), h2]
theorem M_bears {h : eg_H} (O : RO h U P E lw) {e f : Nat} (he : e < E) (hf : f ≤ 999) : fX13_bears h 54 (nI e) (nI f) = some (if f ≤ limU U e then 1 else 0, h) := by
  have hU := O.2.1.2.2 e he
  have hE := O.2.1.1.2.1
  have e1 : (2 : Int32) * nI e + 1 = nI (2 * e + 1) := by rw [nI_k2, nI_1]
  have e2 : (2 : Int32) * nI e = nI (2 * e) := nI_k2 e
  have hh : nI (U (28 + 2 * e)) / 2 = nI (U (28 + 2 * e) / 2) := by
    have h1 : ((U (28 + 2 * e) : Nat) : Int).tdiv 2 = ((U (28 + 2 * e) / 2 : Nat) : Int) := by rw [Int.tdiv_eq_ediv_of_nonneg (by omega)]; omega
    rw [← iI_n, ← iI_n, show (2 : Int32) = iI 2 from rfl, iI_div (by unfold i3; omega) (by unfold i3; omega) (by rw [h1]; unfold i3; omega), h1]
  unfold fX13_bears limU
  rw [if_pos (iO_54 O.1), gR_54 O.1, rf_54_22 O.1, Option.bind_some, e1, R_egg O (by omega), Option.bind_some, show 28 + (2 * e + 1) = 29 + 2 * e by omega]
  by_cases c : U (29 + 2 * e) = 1
  · rw [if_pos (show nI (U (29 + 2 * e)) = 1 by rw [c]; rfl), if_pos c, Option.bind_some, e2, R_egg O (by omega), Option.bind_some, hh]
    by_cases c2 : f ≤ U (28 + 2 * e) / 2
    · rw [if_neg (nI_nlt c2 (by omega)), if_pos c2]
    · rw [if_pos (nI_lt (by omega) (by omega)), if_neg c2]
  · rw [if_neg (fun w : nI (U (29 + 2 * e)) = 1 => c ((nI_eq (b := 1) (by omega) (by omega)).mp w)), if_neg c, Option.bind_some, e2, R_egg O (by omega), Option.bind_some]
    by_cases c2 : f ≤ U (28 + 2 * e)
    · rw [if_neg (nI_nlt c2 (by omega)), if_pos c2]
    · rw [if_pos (nI_lt (by omega) (by omega)), if_neg c2]
def HLn (h : eg_H) (lw : eg_LW) (T : eg_TT) (y b n : Nat) : Prop := ∀ i, i < n → eg_I h 68 i = nI (hI lw T y b i)
theorem M_holds_L {p r e d y b : Nat} (hr : r < P) (he : e < E) (hd : d ≤ 1) (hy : y ≤ 60) (hb : b ≤ 9) : ∀ j i h F, i + j = 11 → j < F → RO h U P E lw → HLn h lw (tOf U (U 0) p r e d) y b i → ∃ h', fX13_layHolds_L16 F h 54 (nI r) (nI (10 * e + d)) (nI y) (nI b) (nI (U (6 + 4 * r))) (iI ((i : Int) - 5)) = some h' ∧ eg_eq SH h h' ∧ HLn h' lw (tOf U (U 0) p r e d) y b 11 := by
  intro j
  induction j with
  | zero =>
    intro i h F hi hF O HH
    obtain ⟨F, rfl⟩ : ∃ F', F = F' + 1 := ⟨F - 1, by omega⟩
    obtain rfl : i = 11 := by omega
    refine ⟨h, ?_, eq_rfl, HH⟩
    rw [fX13_layHolds_L16, if_pos (show (5 : Int32) < iI _ from (iI_lt (a := 5) (by unfold i3; omega) (by unfold i3; omega)).mpr (by omega))]
  | succ j ih =>
    intro i h F hi hF O HH
    obtain ⟨F, rfl⟩ : ∃ F', F = F' + 1 := ⟨F - 1, by omega⟩
    have hE := O.2.1.1.2.1
    have hR := (O.2.1.2.1 r hr).2.2.1
    have hnx : iI ((i : Int) - 5) + 1 = iI (((i + 1 : Nat) : Int) - 5) := by
      rw [show (1 : Int32) = iI 1 from rfl, iI_add]
      congr 1
      omega
    have h5 : iI ((i : Int) - 5) + 5 = nI i := by
      rw [show (5 : Int32) = iI 5 from rfl, iI_add, ← iI_n]
      congr 1
      omega
    have hab : eg_absI (iI ((i : Int) - 5)) = nI ((i : Int) - 5).natAbs := by
      unfold eg_absI
      rw [← iI_n]
      by_cases c : 0 ≤ (i : Int) - 5
      · rw [if_pos (show (0 : Int32) ≤ iI _ from (iI_le (a := 0) (by unfold i3; omega) (by unfold i3; omega)).mpr c)]
        congr 1
        omega
      · rw [if_neg (fun w : (0 : Int32) ≤ iI _ => c ((iI_le (a := 0) (by unfold i3; omega) (by unfold i3; omega)).mp w)), show (0 : Int32) = iI 0 from rfl, iI_sub]
        congr 1
        omega
    have hcl : (nI i).toNatClampNeg = i := nI_clamp (by omega)
    have wr : ∀ g, eg_stt g → ∀ x, eg_wI g 103 68 (nI i) x = some (eg_sI g 68 i x) := fun g hg x => by
      rw [wI_68 hg (nI_pos (by omega)) (by rw [hcl]; omega), hcl]
    have go : ∀ g, RO g U P E lw → eg_eq SF h g → ∀ x, x = nI (hI lw (tOf U (U 0) p r e d) y b i) → ∃ h', ((eg_wI g 103 68 (nI i) x).bind fun h5 => fX13_layHolds_L16 F h5 54 (nI r) (nI (10 * e + d)) (nI y) (nI b) (nI (U (6 + 4 * r))) (iI (((i + 1 : Nat) : Int) - 5))) = some h' ∧ eg_eq SH h h' ∧ HLn h' lw (tOf U (U 0) p r e d) y b 11 := by
      intro g Og Eg x hx
      have E2 : eg_eq SH g (eg_sI g 68 i x) := eq_sI eq_rfl rfl
      obtain ⟨h', e', E', H'⟩ := ih (i + 1) (eg_sI g 68 i x) F (by omega) (by omega) (RO_H Og E2) (fun k hk => by
        rw [I_sI]
        by_cases c : k = i
        · subst c; rw [if_pos ⟨rfl, rfl⟩, hx]
        · rw [if_neg (by omega), (Eg.2 68 k rfl).1]
          exact HH k (by omega))
      exact ⟨h', by rw [wr g Og.1, Option.bind_some, e'], eq_tr (SF_H Eg) (eq_tr E2 E'), H'⟩
    rw [fX13_layHolds_L16, if_neg (fun w : (5 : Int32) < iI _ => by have := (iI_lt (a := 5) (by unfold i3; omega) (by unfold i3; omega)).mp w; omega), gR_54 O.1, rf_54_35 O.1, Option.bind_some, hab, h5, hnx]
    have hrun : tR (tOf U (U 0) p r e d) = U (6 + 4 * r) := rfl
    by_cases c : ((i : Int) - 5).natAbs ≤ U (6 + 4 * r)
    · obtain ⟨g, e1, E1⟩ := M_force O (r := r) (d := d) (y := y) (b := b) (off := (i : Int) - 5) hr (by omega) hy hb (by omega)
      have Og := RO_H O (SF_H E1)
      have hf9 : frc lw (U (5 + 4 * r)) (blw U (U 0) d) y b ((i : Int) - 5) ≤ 999 := cf_le _
      rw [if_neg (nI_nlt c (by omega)), (i10 e d (by omega) (by omega)).1, (i10 e d (by omega) (by omega)).2, e1, Option.bind_some]
      show ∃ h', ((fX13_bears g 54 (nI e) _).bind _) = _ ∧ _
      rw [M_bears Og he hf9, Option.bind_some]
      show ∃ h', (if (if frc lw (U (5 + 4 * r)) (blw U (U 0) d) y b ((i : Int) - 5) ≤ limU U e then (1 : Int32) else 0) = 0 then _ else _) = _ ∧ _
      by_cases c2 : frc lw (U (5 + 4 * r)) (blw U (U 0) d) y b ((i : Int) - 5) ≤ limU U e
      · rw [if_pos c2, if_neg (by decide)]
        refine go g Og E1 _ ?_
        have ht : hT lw (tOf U (U 0) p r e d) y b ((i : Int) - 5) = true := by
          unfold hT
          rw [decide_eq_true_eq, hrun]
          exact ⟨by omega, by omega, c2⟩
        unfold hI
        rw [if_pos ht]
        rfl
      · rw [if_neg c2, if_pos rfl]
        refine go g Og E1 _ ?_
        have ht : ¬ hT lw (tOf U (U 0) p r e d) y b ((i : Int) - 5) = true := by
          unfold hT
          rw [decide_eq_true_eq]
          exact fun z => c2 z.2.2
        unfold hI
        rw [if_neg ht]
        rfl
    · rw [if_pos (nI_lt (by omega) (by omega))]
      refine go h O eq_rfl _ ?_
      have ht : ¬ hT lw (tOf U (U 0) p r e d) y b ((i : Int) - 5) = true := hT_out lw _ y b (by rw [hrun]; omega)
      unfold hI
      rw [if_neg ht]
      rfl
theorem M_holds {p r e d y b : Nat} {h : eg_H} (O : RO h U P E lw) (hr : r < P) (he : e < E) (hd : d ≤ 1) (hy : y ≤ 60) (hb : b ≤ 9) : ∃ h', fX13_layHolds h 54 (nI r) (nI (10 * e + d)) (nI y) (nI b) = some h' ∧ eg_eq SH h h' ∧ HLn h' lw (tOf U (U 0) p r e d) y b 11 := by
  obtain ⟨h', e1, E1, H1⟩ := M_holds_L (p := p) hr he hd hy hb 11 0 h eg_F (by omega) (by rw [eg_F_eq]; omega) O (fun i hi => by omega)
  refine ⟨h', ?_, E1, H1⟩
  unfold fX13_layHolds
  rw [if_pos (iO_54 O.1), gR_54 O.1, rf_54_20 O.1, Option.bind_some, show (4 : Int32) * nI r + 2 = nI (4 * r + 2) by rw [nI_k4, show (2 : Int32) = nI 2 from rfl, nI_add], R_per O (by omega), Option.bind_some, show 4 + (4 * r + 2) = 6 + 4 * r by omega]
  have e2 : fX13_layHolds_L16 eg_F h 54 (nI r) (nI (10 * e + d)) (nI y) (nI b) (nI (U (6 + 4 * r))) (-5) = some h' := e1
  rw [e2, Option.bind_some]
theorem M_caught {h : eg_H} {T : eg_TT} {y b : Nat} {off : Int} (hs : eg_stt h) (hR : tR T ≤ 5) (H : HLn h lw T y b 11) (ho : i3 off) : fX13_isCaught h 54 (iI off) = some (if hT lw T y b off = true then 1 else 0, h) := by
  unfold fX13_isCaught
  rw [if_pos (iO_54 hs), show (-5 : Int64) = (-5 : Int32).toInt64 by decide, show (5 : Int64) = (5 : Int32).toInt64 by decide, M_in, Option.bind_some]
  show (if (if iI off < -5 ∨ 5 < iI off then (0 : Int32) else 1) = 0 then _ else _) = _
  have c1 : iI off < (-5 : Int32) ↔ off < -5 := by
    rw [show (-5 : Int32) = iI (-5) by decide]; exact iI_lt ho (by unfold i3; omega)
  have c2 : (5 : Int32) < iI off ↔ 5 < off := iI_lt (a := 5) (by unfold i3; omega) ho
  by_cases c : off < -5 ∨ 5 < off
  · rw [if_pos (show iI off < -5 ∨ 5 < iI off from c.imp c1.mpr c2.mpr), if_pos rfl, if_neg (hT_out lw T y b (by omega))]
  · have c' : ¬ (iI off < -5 ∨ 5 < iI off) := fun w => c (w.imp c1.mp c2.mp)
    obtain ⟨i, hi⟩ := Int.eq_ofNat_of_zero_le (show 0 ≤ off + 5 by omega)
    have h5 : iI off + 5 = nI i := by
      rw [show (5 : Int32) = iI 5 from rfl, iI_add, ← iI_n, hi]
    have hcl : (nI i).toNatClampNeg = i := nI_clamp (by omega)
    rw [if_neg c', if_neg (by decide), gR_54 hs, rf_54_35 hs, Option.bind_some, h5, aI_68 hs (nI_pos (by omega)) (by rw [hcl]; omega), hcl, Option.bind_some, H i (by omega)]
    have hoi : (i : Int) - 5 = off := by omega
    unfold hI
    rw [hoi]
    by_cases ct : hT lw T y b off = true
    · rw [if_pos ct, if_pos ct, if_neg (by decide)]
    · rw [if_neg ct, if_neg ct]; rfl
theorem M_off {h : eg_H} {p r e d b : Nat} {aim : Int} {k : Nat} (O : RO h U P E lw) (hp : p < P) (hr : r < P) (he : e < E) (hd : d ≤ 1) (hb : b ≤ 9) : fX13_offOf h 54 (nI d) (nI b) (iI aim) (iI ((k : Int) - U (4 + 4 * p))) = some (iI (lo (tOf U (U 0) p r e d) b aim + k), h) := by
  have hk := tOf_ok (d := d) O.2.1 O.2.1.1.2.2.1 hp hr he
  have hwb := wb_b (w := blw U (U 0) d) ⟨hk.2.2.2.2.1, hk.2.2.2.2.2.1⟩ hb
  have ht := td_b (a := blw U (U 0) d * b) (b := 4) (M := 81) hwb
  unfold fX13_offOf
  rw [if_pos (iO_54 O.1), M_blows O (by omega), Option.bind_some]
  show some (iI aim + iI _ + iI (blw U (U 0) d) * nI b / 4, h) = _
  rw [← iI_n, iI_mul, show (4 : Int32) = iI 4 from rfl, iI_div (by unfold i3; omega) (by unfold i3; omega) (by unfold i3; omega), iI_add, iI_add]
  congr 2
  congr 1
  show aim + ((k : Int) - U (4 + 4 * p)) + (blw U (U 0) d * b).tdiv 4 = aim + (blw U (U 0) d * b).tdiv 4 - U (4 + 4 * p) + k
  omega
theorem M_goodBy_L {p r e d y b : Nat} {aim : Int} {h : eg_H} (O : RO h U P E lw) (hp : p < P) (hr : r < P) (he : e < E) (hd : d ≤ 1) (hb : b ≤ 9) (ha : -5 ≤ aim ∧ aim ≤ 5) (H : HLn h lw (tOf U (U 0) p r e d) y b 11) : ∀ j k F, k + j = 2 * U (4 + 4 * p) + 1 → j < F → fX13_goodBy_L14 F h 54 (nI p) (nI d) (nI b) (iI aim) (nI (sm (fun k => if hT lw (tOf U (U 0) p r e d) y b (lo (tOf U (U 0) p r e d) b aim + k) = true then 1 else 0) k)) (iI ((k : Int) - U (4 + 4 * p))) = some (nI (gd lw (tOf U (U 0) p r e d) y b aim), h) := by
  have hk := tOf_ok (d := d) O.2.1 O.2.1.1.2.2.1 hp hr he
  have hS := (O.2.1.2.1 p hp).1
  have hP := O.2.1.1.1
  have hwb := wb_b (w := blw U (U 0) d) ⟨hk.2.2.2.2.1, hk.2.2.2.2.2.1⟩ hb
  have ht := td_b (a := blw U (U 0) d * b) (b := 4) (M := 81) hwb
  have hlo : lo (tOf U (U 0) p r e d) b aim = aim + (blw U (U 0) d * b).tdiv 4 - U (4 + 4 * p) := rfl
  have hper : eg_aI h 100 61 ((4 : Int32) * nI p) = some (nI (U (4 + 4 * p))) := by rw [nI_k4, R_per O (by omega)]
  intro j
  induction j with
  | zero =>
    intro k F hj hF
    obtain ⟨F, rfl⟩ : ∃ F', F = F' + 1 := ⟨F - 1, by omega⟩
    obtain rfl : k = 2 * U (4 + 4 * p) + 1 := by omega
    rw [fX13_goodBy_L14, gR_54 O.1, rf_54_20 O.1, Option.bind_some, hper, Option.bind_some, ← iI_n (U (4 + 4 * p)), if_pos ((iI_lt (by unfold i3; omega) (by unfold i3; omega)).mpr (by omega))]
    rfl
  | succ j ih =>
    intro k F hj hF
    obtain ⟨F, rfl⟩ : ∃ F', F = F' + 1 := ⟨F - 1, by omega⟩
    have hnx : iI ((k : Int) - U (4 + 4 * p)) + 1 = iI (((k + 1 : Nat) : Int) - U (4 + 4 * p)) := by
      rw [show (1 : Int32) = iI 1 from rfl, iI_add]
      congr 1
      omega
    have hz := ih (k + 1) F (by omega) (by omega)
    rw [fX13_goodBy_L14, gR_54 O.1, rf_54_20 O.1, Option.bind_some, hper, Option.bind_some, ← iI_n (U (4 + 4 * p)), if_neg (fun w => by have := (iI_lt (by unfold i3; omega) (by unfold i3; omega)).mp w; omega), M_off O hp hr he hd hb, Option.bind_some]
    show ((fX13_isCaught h 54 (iI (lo (tOf U (U 0) p r e d) b aim + k))).bind _) = _
    rw [M_caught O.1 hk.2.2.2.1 H (by unfold i3; omega), Option.bind_some, hnx]
    show (if (if hT lw (tOf U (U 0) p r e d) y b (lo (tOf U (U 0) p r e d) b aim + k) = true then (1 : Int32) else 0) = 0 then _ else _) = _
    have hsm : sm (fun k => if hT lw (tOf U (U 0) p r e d) y b (lo (tOf U (U 0) p r e d) b aim + k) = true then 1 else 0) (k + 1) = sm (fun k => if hT lw (tOf U (U 0) p r e d) y b (lo (tOf U (U 0) p r e d) b aim + k) = true then 1 else 0) k + (if hT lw (tOf U (U 0) p r e d) y b (lo (tOf U (U 0) p r e d) b aim + k) = true then 1 else 0) := rfl
    rw [hsm] at hz
    by_cases c : hT lw (tOf U (U 0) p r e d) y b (lo (tOf U (U 0) p r e d) b aim + k) = true
    · rw [if_pos c] at hz
      rw [if_pos c, if_neg (by decide), Option.bind_some, nI_1]
      exact hz
    · rw [if_neg c, Nat.add_zero] at hz
      rw [if_neg c, if_pos rfl, Option.bind_some, Int32.add_zero]
      exact hz
theorem M_goodBy {p r e d y b : Nat} {aim : Int} {h : eg_H} (O : RO h U P E lw) (hp : p < P) (hr : r < P) (he : e < E) (hd : d ≤ 1) (hb : b ≤ 9) (ha : -5 ≤ aim ∧ aim ≤ 5) (H : HLn h lw (tOf U (U 0) p r e d) y b 11) : fX13_goodBy h 54 (nI p) (nI d) (nI b) (iI aim) = some (nI (gd lw (tOf U (U 0) p r e d) y b aim), h) := by
  have hS := (O.2.1.2.1 p hp).1
  have z := M_goodBy_L O hp hr he hd hb ha H (2 * U (4 + 4 * p) + 1) 0 eg_F (by omega) (by rw [eg_F_eq]; omega)
  unfold fX13_goodBy
  rw [if_pos (iO_54 O.1), gR_54 O.1, rf_54_20 O.1, Option.bind_some, nI_k4, R_per O (by omega), Option.bind_some, Option.bind_some, ← iI_n (U (4 + 4 * p)), iI_neg]
  have z' : fX13_goodBy_L14 eg_F h 54 (nI p) (nI d) (nI b) (iI aim) 0 (iI (-(U (4 + 4 * p) : Int))) = some (nI (gd lw (tOf U (U 0) p r e d) y b aim), h) := by
    have e0 : ((0 : Nat) : Int) - (U (4 + 4 * p) : Int) = -(U (4 + 4 * p) : Int) := by omega
    rw [e0] at z
    exact z
  rw [z', Option.bind_some]
def Bj (h : eg_H) (G : Nat → Nat) (j : Nat) : Prop := if j = 0 then eg_I h 54 38 = -1 else eg_I h 54 36 = nI (bi G j / 11) ∧ eg_I h 54 37 = iI ((bi G j % 11 : Nat) - 5) ∧ eg_I h 54 38 = nI (G (bi G j))
theorem HLn_eq {h h' : eg_H} {T : eg_TT} {y b n : Nat} (H : HLn h lw T y b n) {S : List (Nat × Option Nat)} (E : eg_eq S h h') (c : ∀ i, eg_cov S 68 i = false) : HLn h' lw T y b n := fun i hi => by rw [(E.2 68 i (c i)).1]; exact H i hi
theorem M_best_in {p r e d y b : Nat} (hp : p < P) (hr : r < P) (he : e < E) (hd : d ≤ 1) (hy : y ≤ 60) (hb : b ≤ 9) : ∀ j i h F, i + j = 11 → j < F → RO h U P E lw → HLn h lw (tOf U (U 0) p r e d) y b 11 → Bj h (gk lw (tOf U (U 0) p r e d) y) (11 * b + i) → ∃ h', fX13_layBest_L37 F h 54 (nI p) (nI r) (nI (10 * e + d)) (nI y) (nI b) (iI ((i : Int) - 5)) = some (54, nI p, nI r, nI (10 * e + d), nI y, nI b, h') ∧ eg_eq SB h h' ∧ Bj h' (gk lw (tOf U (U 0) p r e d) y) (11 * b + 11) := by
  intro j
  induction j with
  | zero =>
    intro i h F hi hF O H B
    obtain ⟨F, rfl⟩ : ∃ F', F = F' + 1 := ⟨F - 1, by omega⟩
    obtain rfl : i = 11 := by omega
    refine ⟨h, ?_, eq_rfl, B⟩
    rw [fX13_layBest_L37, if_pos (show (5 : Int32) < iI _ from (iI_lt (a := 5) (by unfold i3; omega) (by unfold i3; omega)).mpr (by omega))]
  | succ j ih =>
    intro i h F hi hF O H B
    obtain ⟨F, rfl⟩ : ∃ F', F = F' + 1 := ⟨F - 1, by omega⟩
    have hE := O.2.1.1.2.1
    have hk := tOf_ok (d := d) O.2.1 O.2.1.1.2.2.1 hp hr he
    have hS := hk.1
    have hnx : iI ((i : Int) - 5) + 1 = iI (((i + 1 : Nat) : Int) - 5) := by
      rw [show (1 : Int32) = iI 1 from rfl, iI_add]
      congr 1
      omega
    have hg : ∀ k, gk lw (tOf U (U 0) p r e d) y k ≤ 11 := fun k => Nat.le_trans (gd_le lw _ y _ _) (by omega)
    rw [fX13_layBest_L37, if_neg (fun w : (5 : Int32) < iI _ => by have := (iI_lt (a := 5) (by unfold i3; omega) (by unfold i3; omega)).mp w; omega), (i10 e d (by omega) (by omega)).2, M_goodBy O hp hr he hd hb (by omega) H, Option.bind_some]
    show ∃ h', ((eg_gI h 13 38 54).bind _) = _ ∧ _
    rw [gI_54 O.1, Option.bind_some, ← gk_at b i (by omega), hnx]
    have hlt : (eg_I h 54 38 < nI (gk lw (tOf U (U 0) p r e d) y (11 * b + i))) ↔ (11 * b + i = 0 ∨ gk lw (tOf U (U 0) p r e d) y (bi (gk lw (tOf U (U 0) p r e d) y) (11 * b + i)) < gk lw (tOf U (U 0) p r e d) y (11 * b + i)) := by
      unfold Bj at B
      by_cases c : 11 * b + i = 0
      · rw [if_pos c] at B
        rw [B]
        refine ⟨fun _ => Or.inl c, fun _ => ?_⟩
        rw [← iI_n, show (-1 : Int32) = iI (-1) by decide]
        have := hg (11 * b + i)
        exact (iI_lt (by unfold i3; omega) (by unfold i3; omega)).mpr (by omega)
      · rw [if_neg c] at B
        rw [B.2.2]
        have h1 := hg (11 * b + i)
        have h2 := hg (bi (gk lw (tOf U (U 0) p r e d) y) (11 * b + i))
        rw [nI_ltI (by omega) (by omega)]
        exact ⟨fun z => Or.inr z, fun z => z.resolve_left c⟩
    by_cases c : eg_I h 54 38 < nI (gk lw (tOf U (U 0) p r e d) y (11 * b + i))
    · have hbi : bi (gk lw (tOf U (U 0) p r e d) y) (11 * b + i + 1) = 11 * b + i := by
        show (if _ < _ then _ else _) = _
        rcases hlt.mp c with z | z
        · rw [z]
          split <;> rfl
        · rw [if_pos z]
      have E1 : eg_eq SB h (eg_sI (eg_sI (eg_sI h 54 36 (nI b)) 54 37 (iI ((i : Int) - 5))) 54 38 (nI (gk lw (tOf U (U 0) p r e d) y (11 * b + i)))) := eq_sI (eq_sI (eq_sI eq_rfl rfl) rfl) rfl
      have Er : eg_eq [(54, some 36), (54, some 37), (54, some 38)] h (eg_sI (eg_sI (eg_sI h 54 36 (nI b)) 54 37 (iI ((i : Int) - 5))) 54 38 (nI (gk lw (tOf U (U 0) p r e d) y (11 * b + i)))) := eq_sI (eq_sI (eq_sI eq_rfl rfl) rfl) rfl
      obtain ⟨h', e', E', B'⟩ := ih (i + 1) _ F (by omega) (by omega) (RO_B O E1) (HLn_eq H Er (fun _ => rfl)) (by
        unfold Bj
        rw [if_neg (by omega), show 11 * b + (i + 1) = 11 * b + i + 1 by omega, hbi]
        refine ⟨?_, ?_, ?_⟩
        · rw [I_sI, if_neg (by decide), I_sI, if_neg (by decide), I_sI, if_pos ⟨rfl, rfl⟩, show (11 * b + i) / 11 = b by omega]
        · rw [I_sI, if_neg (by decide), I_sI, if_pos ⟨rfl, rfl⟩, show (11 * b + i) % 11 = i by omega]
        · rw [I_sI, if_pos ⟨rfl, rfl⟩])
      refine ⟨h', ?_, eq_tr E1 E', B'⟩
      rw [if_pos c, pI_54 O.1, Option.bind_some, pI_54 (show eg_stt (eg_sI h 54 36 (nI b)) from O.1), Option.bind_some, pI_54 (show eg_stt (eg_sI (eg_sI h 54 36 (nI b)) 54 37 (iI ((i : Int) - 5))) from O.1), Option.bind_some]
      exact e'
    · have hc : ¬ (11 * b + i = 0) ∧ ¬ gk lw (tOf U (U 0) p r e d) y (bi (gk lw (tOf U (U 0) p r e d) y) (11 * b + i)) < gk lw (tOf U (U 0) p r e d) y (11 * b + i) := ⟨fun z => c (hlt.mpr (Or.inl z)), fun z => c (hlt.mpr (Or.inr z))⟩
      have hbi : bi (gk lw (tOf U (U 0) p r e d) y) (11 * b + i + 1) = bi (gk lw (tOf U (U 0) p r e d) y) (11 * b + i) := if_neg hc.2
      obtain ⟨h', e', E', B'⟩ := ih (i + 1) h F (by omega) (by omega) O H (by
        unfold Bj at B ⊢
        rw [if_neg hc.1] at B
        rw [if_neg (by omega), show 11 * b + (i + 1) = 11 * b + i + 1 by omega, hbi]
        exact B)
      refine ⟨h', ?_, E', B'⟩
      rw [if_neg c]
      exact e'
theorem M_best_L {p r e d y : Nat} (hp : p < P) (hr : r < P) (he : e < E) (hd : d ≤ 1) (hy : y ≤ 60) : ∀ j b h F, b + j = U (7 + 4 * p) + 1 → j < F → RO h U P E lw → Bj h (gk lw (tOf U (U 0) p r e d) y) (11 * b) → ∃ h', fX13_layBest_L8 F h 54 (nI p) (nI r) (nI (10 * e + d)) (nI y) (nI b) = some h' ∧ eg_eq SB h h' ∧ Bj h' (gk lw (tOf U (U 0) p r e d) y) (11 * (U (7 + 4 * p) + 1)) := by
  intro j
  induction j with
  | zero =>
    intro b h F hj hF O B
    obtain ⟨F, rfl⟩ : ∃ F', F = F' + 1 := ⟨F - 1, by omega⟩
    have hH := (O.2.1.2.1 p hp).2.2.2
    obtain rfl : b = U (7 + 4 * p) + 1 := by omega
    refine ⟨h, ?_, eq_rfl, B⟩
    rw [fX13_layBest_L8, gR_54 O.1, rf_54_20 O.1, Option.bind_some, show (4 : Int32) * nI p + 3 = nI (4 * p + 3) by rw [nI_k4, show (3 : Int32) = nI 3 from rfl, nI_add], R_per O (by omega), Option.bind_some, show 4 + (4 * p + 3) = 7 + 4 * p by omega, if_pos (nI_lt (by omega) (by omega))]
  | succ j ih =>
    intro b h F hj hF O B
    obtain ⟨F, rfl⟩ : ∃ F', F = F' + 1 := ⟨F - 1, by omega⟩
    have hH := (O.2.1.2.1 p hp).2.2.2
    obtain ⟨g, e1, E1, H1⟩ := M_holds (p := p) O hr he hd hy (b := b) (by omega)
    have Og := RO_H O E1
    have Bg : Bj g (gk lw (tOf U (U 0) p r e d) y) (11 * b + 0) := by
      unfold Bj at B ⊢
      rw [Nat.add_zero, (E1.2 54 36 rfl).1, (E1.2 54 37 rfl).1, (E1.2 54 38 rfl).1]
      exact B
    obtain ⟨g2, e2, E2, B2⟩ := M_best_in hp hr he hd hy (b := b) (by omega) 11 0 g eg_F (by omega) (by rw [eg_F_eq]; omega) Og H1 Bg
    have e2' : fX13_layBest_L37 eg_F g 54 (nI p) (nI r) (nI (10 * e + d)) (nI y) (nI b) (-5) = some (54, nI p, nI r, nI (10 * e + d), nI y, nI b, g2) := e2
    obtain ⟨h', e3, E3, B3⟩ := ih (b + 1) g2 F (by omega) (by omega) (RO_B Og E2) (by rw [show 11 * (b + 1) = 11 * b + 11 by omega]; exact B2)
    refine ⟨h', ?_, eq_tr (SH_B E1) (eq_tr E2 E3), B3⟩
    rw [fX13_layBest_L8, gR_54 O.1, rf_54_20 O.1, Option.bind_some, show (4 : Int32) * nI p + 3 = nI (4 * p + 3) by rw [nI_k4, show (3 : Int32) = nI 3 from rfl, nI_add], R_per O (by omega), Option.bind_some, show 4 + (4 * p + 3) = 7 + 4 * p by omega, if_neg (nI_nlt (by omega) (by omega)), e1, Option.bind_some, e2', Option.bind_some]
    show fX13_layBest_L8 F g2 54 (nI p) (nI r) (nI (10 * e + d)) (nI y) (nI b + 1) = _
    rw [nI_1]
    exact e3
theorem M_best {p r e d y : Nat} {h : eg_H} (O : RO h U P E lw) (hp : p < P) (hr : r < P) (he : e < E) (hd : d ≤ 1) (hy : y ≤ 60) : ∃ h', fX13_layBest h 54 (nI p) (nI r) (nI (10 * e + d)) (nI y) = some h' ∧ eg_eq SB h h' ∧ eg_I h' 54 36 = nI (bst lw (tOf U (U 0) p r e d) y / 11) ∧ eg_I h' 54 37 = iI ((bst lw (tOf U (U 0) p r e d) y % 11 : Nat) - 5) ∧ eg_I h' 54 38 = nI (bgd lw (tOf U (U 0) p r e d) y) := by
  have hH := (O.2.1.2.1 p hp).2.2.2
  have E0 : eg_eq SB h (eg_sI h 54 38 (-1)) := eq_sI eq_rfl rfl
  obtain ⟨h', e1, E1, B1⟩ := M_best_L hp hr he hd hy (U (7 + 4 * p) + 1) 0 (eg_sI h 54 38 (-1)) eg_F (by omega) (by rw [eg_F_eq]; omega) (RO_B O E0) (by
    unfold Bj
    rw [if_pos rfl, I_sI, if_pos ⟨rfl, rfl⟩])
  refine ⟨h', ?_, eq_tr E0 E1, ?_⟩
  · unfold fX13_layBest
    rw [if_pos (iO_54 O.1), pI_54 O.1, Option.bind_some]
    have e1' : fX13_layBest_L8 eg_F (eg_sI h 54 38 (-1)) 54 (nI p) (nI r) (nI (10 * e + d)) (nI y) 0 = some h' := e1
    rw [e1', Option.bind_some]
  · unfold Bj at B1
    rw [if_neg (by omega)] at B1
    exact B1
end MB
