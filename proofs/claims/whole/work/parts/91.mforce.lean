def blw (U : Nat → Nat) (wd d : Nat) : Int := if d = U 1 then (wd : Int) else -(wd : Int)
def limU (U : Nat → Nat) (e : Nat) : Nat := if U (29 + 2 * e) = 1 then U (28 + 2 * e) / 2 else U (28 + 2 * e)
def tOf (U : Nat → Nat) (wd p r e d : Nat) : eg_TT := (U (4 + 4 * p), U (7 + 4 * p), U (5 + 4 * r), U (6 + 4 * r), blw U wd d, limU U e)
def Uok (U : Nat → Nat) (P E : Nat) : Prop := (P ≤ 6 ∧ E ≤ 6 ∧ U 0 ≤ 9 ∧ U 1 ≤ 1 ∧ 1 ≤ U 2 ∧ U 2 ≤ 9 ∧ 1 ≤ U 3 ∧ U 3 ≤ 60) ∧ (∀ p, p < P → U (4 + 4 * p) ≤ 5 ∧ U (5 + 4 * p) ≤ 9 ∧ U (6 + 4 * p) ≤ 5 ∧ U (7 + 4 * p) ≤ 9) ∧ ∀ e, e < E → 1 ≤ U (28 + 2 * e) ∧ U (28 + 2 * e) ≤ 99 ∧ U (29 + 2 * e) ≤ 1
theorem tOf_ok {U : Nat → Nat} {P E wd p r e d : Nat} (h : Uok U P E) (hw : wd ≤ 9) (hp : p < P) (hr : r < P) (he : e < E) : Tok (tOf U wd p r e d) := by
  obtain ⟨h0, h1, h2⟩ := h
  have a := h1 p hp
  have b := h1 r hr
  have c := h2 e he
  refine ⟨a.1, a.2.2.2, b.2.1, b.2.2.1, ?_, ?_, ?_⟩
  · show -9 ≤ blw U wd d
    unfold blw; split <;> omega
  · show blw U wd d ≤ 9
    unfold blw; split <;> omega
  · show limU U e ≤ 99
    unfold limU; split <;> omega
def RV (h : eg_H) (U : Nat → Nat) (P E : Nat) : Prop := (∀ x, x < 4 → eg_I h 59 x = nI (U x)) ∧ (∀ x, x < 4 * P → eg_I h 61 x = nI (U (4 + x))) ∧ (∀ x, x < 2 * E → eg_I h 63 x = nI (U (28 + x))) ∧ eg_I h 54 24 = nI P ∧ eg_I h 54 26 = nI E
def RL (h : eg_H) (lw : eg_LW) : Prop := match lw with
  | none => eg_I h 54 34 = -1
  | some f => ∃ j n t w, j < 4 ∧ n ≤ 160 ∧ eg_I h 54 34 = nI j ∧ eg_I h 57 j = nI n ∧ byt n t ∧ (∀ i, i < n → eg_I h 56 (160 * j + i) = (t i).toInt8.toInt32) ∧ pLaw t n = .inr w ∧ f = w.2
def RO (h : eg_H) (U : Nat → Nat) (P E : Nat) (lw : eg_LW) : Prop := eg_stt h ∧ Uok U P E ∧ RV h U P E ∧ RL h lw
def SF : List (Nat × Option Nat) := [(54, some 5), (54, some 8), (54, some 9), (54, some 10), (54, some 11), (54, some 12), (54, some 13), (54, some 14), (54, some 17), (58, none)]
def SH : List (Nat × Option Nat) := [(54, some 5), (54, some 8), (54, some 9), (54, some 10), (54, some 11), (54, some 12), (54, some 13), (54, some 14), (54, some 17), (58, none), (68, none)]
def SB : List (Nat × Option Nat) := [(54, some 5), (54, some 8), (54, some 9), (54, some 10), (54, some 11), (54, some 12), (54, some 13), (54, some 14), (54, some 17), (58, none), (68, none), (54, some 36), (54, some 37), (54, some 38)]
theorem RO_eq {S : List (Nat × Option Nat)} {h h' : eg_H} {U : Nat → Nat} {P E : Nat} {lw : eg_LW} (O : RO h U P E lw) (Q : eg_eq S h h') (hd : eg_P0.all (fun t => !(eg_cov S t.1 t.2.1)) = true) (c : (eg_cov S 54 24 = false ∧ eg_cov S 54 26 = false ∧ eg_cov S 54 34 = false) ∧ ∀ i, eg_cov S 59 i = false ∧ eg_cov S 61 i = false ∧ eg_cov S 63 i = false ∧ eg_cov S 56 i = false ∧ eg_cov S 57 i = false) : RO h' U P E lw := by
  obtain ⟨o1, o2, ⟨v1, v2, v3, v4, v5⟩, o4⟩ := O
  obtain ⟨⟨c1, c2, c3⟩, c4⟩ := c
  refine ⟨eq_stt Q o1 hd, o2, ⟨fun x hx => ?_, fun x hx => ?_, fun x hx => ?_, ?_, ?_⟩, ?_⟩
  · rw [(Q.2 59 x (c4 x).1).1]; exact v1 x hx
  · rw [(Q.2 61 x (c4 x).2.1).1]; exact v2 x hx
  · rw [(Q.2 63 x (c4 x).2.2.1).1]; exact v3 x hx
  · rw [(Q.2 54 24 c1).1]; exact v4
  · rw [(Q.2 54 26 c2).1]; exact v5
  · cases lw with
    | none => show eg_I h' 54 34 = -1; rw [(Q.2 54 34 c3).1]; exact o4
    | some f =>
      obtain ⟨j, n, t, w, a1, a2, a3, a4, a5, a6, a7, a8⟩ := o4
      refine ⟨j, n, t, w, a1, a2, ?_, ?_, a5, fun i hi => ?_, a7, a8⟩
      · rw [(Q.2 54 34 c3).1]; exact a3
      · rw [(Q.2 57 j (c4 j).2.2.2.2).1]; exact a4
      · rw [(Q.2 56 (160 * j + i) (c4 _).2.2.2.1).1]; exact a6 i hi
section MF
variable {h : eg_H} {U : Nat → Nat} {P E : Nat} {lw : eg_LW}
theorem R_mea (O : RO h U P E lw) {x : Nat} (hx : x < 4) : eg_aI h 100 59 (nI x) = some (nI (U x)) := by
  have hcl : (nI x).toNatClampNeg = x := nI_clamp (by omega)
  rw [aI_59 O.1 (nI_pos (by omega)) (by rw [hcl]; omega), hcl, O.2.2.1.1 x hx]
theorem R_per (O : RO h U P E lw) {x : Nat} (hx : x < 4 * P) : eg_aI h 100 61 (nI x) = some (nI (U (4 + x))) := by
  have hP := O.2.1.1.1
  have hcl : (nI x).toNatClampNeg = x := nI_clamp (by omega)
  rw [aI_61 O.1 (nI_pos (by omega)) (by rw [hcl]; omega), hcl, O.2.2.1.2.1 x hx]
theorem R_egg (O : RO h U P E lw) {x : Nat} (hx : x < 2 * E) : eg_aI h 100 63 (nI x) = some (nI (U (28 + x))) := by
  have hE := O.2.1.1.2.1
  have hcl : (nI x).toNatClampNeg = x := nI_clamp (by omega)
  rw [aI_63 O.1 (nI_pos (by omega)) (by rw [hcl]; omega), hcl, O.2.2.1.2.2.1 x hx]
theorem M_blows (O : RO h U P E lw) {d : Nat} (hd : d ≤ 9) : fX13_blows h 54 (nI d) = some (iI (blw U (U 0) d), h) := by
  have hU := O.2.1.1
  unfold fX13_blows blw
  rw [if_pos (iO_54 O.1), gR_54 O.1, rf_54_18 O.1, Option.bind_some, show (1 : Int32) = nI 1 from rfl, R_mea O (by omega), Option.bind_some]
  have e0 : eg_aI h 100 59 0 = some (nI (U 0)) := R_mea O (x := 0) (by omega)
  rw [Option.bind_some, Option.bind_some, e0, Option.bind_some]
  by_cases c : d = U 1
  · rw [if_pos (by rw [c]), if_pos c, iI_n]
  · rw [if_neg (fun w => c ((nI_eq (by omega) (by omega)).mp w)), if_neg c, Option.bind_some, ← iI_n (U 0), iI_neg]
theorem mm_i {z : Int} (hz : i3 z) : eg_maxI (0 : Int32) (eg_minI (999 : Int32) (iI z)) = nI (cf z) := by
  unfold eg_maxI eg_minI cf
  by_cases c2 : 999 < z
  · rw [if_neg (fun w : iI z < (999 : Int32) => by have := (iI_lt (b := 999) hz (by unfold i3; omega)).mp w; omega), if_pos (show (0 : Int32) < 999 by decide), if_neg (by omega), if_pos c2]; rfl
  · by_cases c9 : z = 999
    · subst c9; rfl
    · rw [if_pos (show iI z < (999 : Int32) from (iI_lt (b := 999) hz (by unfold i3; omega)).mpr (by omega))]
      by_cases c1 : 0 < z
      · rw [if_pos (show (0 : Int32) < iI z from (iI_lt (a := 0) (by unfold i3; omega) hz).mpr c1), if_neg (by omega), if_neg c2, ← iI_n]
        congr 1
        omega
      · rw [if_neg (fun w : (0 : Int32) < iI z => c1 ((iI_lt (a := 0) (by unfold i3; omega) hz).mp w))]
        by_cases c3 : z < 0
        · rw [if_pos c3]; rfl
        · obtain rfl : z = 0 := by omega
          rfl
theorem M_force (O : RO h U P E lw) {r d y b : Nat} {off : Int} (hr : r < P) (hd : d ≤ 9) (hy : y ≤ 60) (hb : b ≤ 9) (ho : -99 ≤ off ∧ off ≤ 99) :
    ∃ h', fX13_forceOf h 54 (nI r) (nI d) (nI y) (nI b) (iI off) = some (nI (frc lw (U (5 + 4 * r)) (blw U (U 0) d) y b off), h') ∧ eg_eq SF h h' := by
  have hU := O.2.1.1
  have hA := (O.2.1.2.1 r hr).2.1
  have hbw : -9 ≤ blw U (U 0) d ∧ blw U (U 0) d ≤ 9 := by unfold blw; split <;> omega
  have e4 : (4 : Int32) * nI r + 1 = nI (4 * r + 1) := by rw [nI_k4, nI_1]
  have hs := O.1
  unfold fX13_forceOf
  rw [if_pos (iO_54 hs), gI_54 hs, Option.bind_some]
  cases lw with
  | none =>
    refine ⟨h, ?_, eq_rfl⟩
    have h34 : eg_I h 54 34 = -1 := O.2.2.2
    have i0 : i3 off := by unfold i3; omega
    have i60 : i3 (y : Int) := by unfold i3; omega
    have hi : i3 ((b : Int) - (y : Int) / 4) := by unfold i3; omega
    have e5 : nI b - nI y / 4 = iI ((b : Int) - (y : Int) / 4) := by
      rw [← iI_n, ← iI_n, show (4 : Int32) = iI 4 from rfl, iI_div i60 (by unfold i3; omega) (by rw [td_4]; unfold i3; omega), td_4, iI_sub]
    have ea : eg_absI (iI ((b : Int) - (y : Int) / 4)) = iI ((((b : Int) - (y : Int) / 4).natAbs : Nat) : Int) := by
      unfold eg_absI
      by_cases c : 0 ≤ (b : Int) - (y : Int) / 4
      · rw [if_pos (show (0 : Int32) ≤ iI _ from (iI_le (a := 0) (by unfold i3; omega) hi).mpr c)]
        congr 1
        omega
      · rw [if_neg (fun w : (0 : Int32) ≤ iI _ => c ((iI_le (a := 0) (by unfold i3; omega) hi).mp w)), show (0 : Int32) = iI 0 from rfl, iI_sub]
        congr 1
        omega
    have hh : ((2 : Int32) * nI y + 3 * iI ((((b : Int) - (y : Int) / 4).natAbs : Nat) : Int) - 2 * nI (U (5 + 4 * r)) - iI (blw U (U 0) d)) = iI (2 * y + 3 * ((((b : Int) - (y : Int) / 4).natAbs : Nat) : Int) - 2 * (U (5 + 4 * r)) - blw U (U 0) d) := by
      rw [← iI_n, ← iI_n, show (2 : Int32) = iI 2 from rfl, show (3 : Int32) = iI 3 from rfl, iI_mul, iI_mul, iI_mul, iI_add, iI_sub, iI_sub]
    have c0 : (iI off ≤ (0 : Int32)) ↔ ¬ 0 < off := by
      have := iI_le (b := 0) i0 (by unfold i3; omega)
      exact this.trans (by omega)
    rw [h34, if_pos rfl, gR_54 hs, rf_54_20 hs, Option.bind_some, e4, R_per O (by omega), Option.bind_some, M_blows O hd, Option.bind_some, show 4 + (4 * r + 1) = 5 + 4 * r by omega]
    dsimp only
    rw [e5, ea, hh]
    unfold frc fz
    dsimp only
    by_cases c : 0 < off
    · rw [if_neg (fun w => (c0.mp w) c), if_pos c, Option.bind_some, iI_add, mm_i (by unfold i3; omega)]
    · rw [if_pos (c0.mpr c), if_neg c, show (-3 : Int32) = iI (-3) by decide, iI_mul, Option.bind_some, iI_add, mm_i (by unfold i3; omega)]
  | some f =>
    obtain ⟨j, n, t, w, a1, a2, a3, a4, a5, a6, a7, a8⟩ := O.2.2.2
    have hne : ¬ eg_I h 54 34 = -1 := by rw [a3]; exact nI_nm1 (by omega)
    have wl : ∀ (g : eg_H), eg_stt g → ∀ c, c < 128 → ∀ x, eg_wI g 100 58 (nI c) x = some (eg_sI g 58 c x) := fun g hg c hc x => by
      have hcl : (nI c).toNatClampNeg = c := nI_clamp (by omega)
      rw [wI_58 hg (nI_pos (by omega)) (by rw [hcl]; exact hc), hcl]
    let g2 := eg_sI (eg_sI h 58 100 (nI y)) 58 98 (nI b)
    let g3 := eg_sI g2 58 97 (nI (U (5 + 4 * r)))
    let g4 := eg_sI g3 58 119 (iI (blw U (U 0) d))
    let g5 := eg_sI g4 58 114 (iI off)
    have E2 : eg_eq SF h g2 := eq_sI (eq_sI eq_rfl rfl) rfl
    have E3 : eg_eq SF h g3 := eq_sI E2 rfl
    have E5 : eg_eq SF h g5 := eq_sI (eq_sI E3 rfl) rfl
    have cc : (eg_cov SF 54 24 = false ∧ eg_cov SF 54 26 = false ∧ eg_cov SF 54 34 = false) ∧ ∀ i, eg_cov SF 59 i = false ∧ eg_cov SF 61 i = false ∧ eg_cov SF 63 i = false ∧ eg_cov SF 56 i = false ∧ eg_cov SF 57 i = false := ⟨⟨rfl, rfl, rfl⟩, fun _ => ⟨rfl, rfl, rfl, rfl, rfl⟩⟩
    have O2 : RO g2 U P E (some f) := RO_eq O E2 (by decide) cc
    have O3 : RO g3 U P E (some f) := RO_eq O E3 (by decide) cc
    have O5 : RO g5 U P E (some f) := RO_eq O E5 (by decide) cc
    have s5 : eg_stt g5 := O5.1
    have h34 : eg_I g5 54 34 = nI j := by rw [(E5.2 54 34 rfl).1]; exact a3
    have h57 : eg_aI g5 100 57 (nI j) = some (nI n) := by
      have hcl : (nI j).toNatClampNeg = j := nI_clamp (by omega)
      rw [aI_57 s5 (nI_pos (by omega)) (by rw [hcl]; omega), hcl, (E5.2 57 j rfl).1, a4]
    have hl : ∀ l, l < 5 → eg_I g5 58 (cd5 l) = envF y b (U (5 + 4 * r)) (blw U (U 0) d) off l := by
      intro l hl
      show eg_I (eg_sI (eg_sI (eg_sI (eg_sI (eg_sI h 58 100 (nI y)) 58 98 (nI b)) 58 97 (nI (U (5 + 4 * r)))) 58 119 (iI (blw U (U 0) d))) 58 114 (iI off)) 58 (cd5 l) = _
      rw [I_sI, I_sI, I_sI, I_sI, I_sI]
      rcases (by omega : l = 0 ∨ l = 1 ∨ l = 2 ∨ l = 3 ∨ l = 4) with rfl | rfl | rfl | rfl | rfl <;> rfl
    have HT : Tm 56 (160 * j) n t (eg_sI (eg_sI (eg_sP g5 54 5 (some 56)) 54 8 (nI (160 * j))) 54 9 (nI n)) := by
      refine ⟨stt_sP s5 (by decide), Or.inr ⟨rfl, by omega⟩, ?_, ?_, ?_, a5, fun i hi => ?_⟩
      · show eg_P (eg_sP g5 54 5 (some 56)) 54 5 = _
        rw [P_sP, if_pos ⟨rfl, rfl⟩]
      · rw [I_sI, if_neg (by decide), I_sI, if_pos ⟨rfl, rfl⟩]
      · rw [I_sI, if_pos ⟨rfl, rfl⟩]
      · rw [I_sI, if_neg (by omega), I_sI, if_neg (by omega)]
        show eg_I g5 56 (160 * j + i) = _
        rw [(E5.2 56 (160 * j + i) rfl).1]; exact a6 i hi
    obtain ⟨g, e, E, _, hv⟩ := M_through (env := envF y b (U (5 + 4 * r)) (blw U (U 0) d) off) (Or.inr rfl) HT s5 a2 hl
    have hfv := hv w a7 (envF_bd hy hb hA hbw ho)
    refine ⟨g, ?_, eq_tr E5 (eq_mono E (fun p i hc => ?_))⟩
    · have sg : eg_stt g := eq_stt E s5 (by decide)
      rw [if_neg hne, gR_54 hs, rf_54_4 hs, Option.bind_some, show (100 : Int32) = nI 100 from rfl, wl h hs 100 (by omega), Option.bind_some]
      have s1 : eg_stt (eg_sI h 58 100 (nI y)) := hs
      rw [gR_54 s1, rf_54_4 s1, Option.bind_some, show (98 : Int32) = nI 98 from rfl, wl _ s1 98 (by omega), Option.bind_some]
      show ((eg_gR g2 13 4 54).bind _) = _
      rw [gR_54 O2.1, rf_54_4 O2.1, Option.bind_some, gR_54 O2.1, rf_54_20 O2.1, Option.bind_some, e4, R_per O2 (by omega), Option.bind_some, show 4 + (4 * r + 1) = 5 + 4 * r by omega, show (97 : Int32) = nI 97 from rfl, wl g2 O2.1 97 (by omega), Option.bind_some]
      show ((eg_gR g3 13 4 54).bind _) = _
      rw [gR_54 O3.1, rf_54_4 O3.1, Option.bind_some, M_blows O3 hd, Option.bind_some]
      show ((eg_wI g3 100 58 119 _).bind _) = _
      rw [show (119 : Int32) = nI 119 from rfl, wl g3 O3.1 119 (by omega), Option.bind_some]
      have s4 : eg_stt g4 := O3.1
      show ((eg_gR g4 13 4 54).bind _) = _
      rw [gR_54 s4, rf_54_4 s4, Option.bind_some, show (114 : Int32) = nI 114 from rfl, wl g4 s4 114 (by omega), Option.bind_some]
      show ((eg_gR g5 13 2 54).bind _) = _
      rw [gR_54 s5, rf_54_2 s5, Option.bind_some, gI_54 s5, Option.bind_some, gR_54 s5, rf_54_3 s5, Option.bind_some, Option.bind_some, h34, h57, Option.bind_some, show (160 : Int32) * nI j = nI (160 * j) by rw [← iI_n, ← iI_n, show (160 : Int32) = iI 160 from rfl, iI_mul]; rfl, e, Option.bind_some, gI_54 sg, Option.bind_some, hfv, ← iI_o (w.2 _), mm_i (i3_t _)]
      unfold frc fz
      rw [a8]
    · unfold SF eg_cov at hc
      unfold SMl eg_cov
      simp only [List.any_cons, List.any_nil, Bool.or_eq_false_iff] at hc ⊢
      obtain ⟨z1, z2, z3, z4, z5, z6, z7, z8, z9, _⟩ := hc
      exact ⟨z1, z2, z3, z4, z5, z6, z7, z8, z9, trivial⟩
end MF
