theorem M_GIi (h : eg_H) (x a b : Int32) (A B : Int64) (ha : A = a.toInt64) (hb : B = b.toInt64) : fX13_isIn h x.toInt64 A B = some (if GI a b x then 1 else 0, h) := by
  rw [ha, hb, M_in]
  by_cases c : GI a b x
  · rw [if_pos c, if_neg (fun w => w.elim c.1 c.2)]
  · rw [if_neg c, if_pos]
    by_cases c1 : x < a
    · exact Or.inl c1
    · by_cases c2 : b < x
      · exact Or.inr c2
      · exact absurd ⟨c1, c2⟩ c
theorem GIi_n {lo hi : Int} {x : Int32} (hl : i3 lo) (hh : i3 hi) (h : GI (iI lo) (iI hi) x) : lo ≤ x.toInt ∧ x.toInt ≤ hi := by
  have h1 : ¬ x.toInt < lo := fun w => h.1 (by rw [Int32.lt_iff_toInt_lt, iI_t hl]; exact w)
  have h2 : ¬ hi < x.toInt := fun w => h.2 (by rw [Int32.lt_iff_toInt_lt, iI_t hh]; exact w)
  omega
theorem X_within (h : eg_H) (x m : Int32) : fX12_isWithin h x m = some (if GI (-m) m x then 1 else 0, h) := by
  unfold fX12_isWithin
  by_cases c1 : x < -m
  · rw [if_pos c1, if_neg (fun w => w.1 c1)]
  · rw [if_neg c1]
    by_cases c2 : m < x
    · rw [if_pos c2, if_neg (fun w => w.2 c2)]
    · rw [if_neg c2, if_pos ⟨c1, c2⟩]
def aOff (σ : eg_S) (p t b a s : Int32) : Int32 := if (((G1 (sP σ) p ∧ GI (nI 0) (nI 1) t) ∧ GI (-5) 5 a) ∧ GI (nI 0) (nI (sU σ (7 + 4 * dN p))) b) ∧ GI (-(nI (sU σ (4 + 4 * dN p)))) (nI (sU σ (4 + 4 * dN p))) s then a + s + iI (blw (sU σ) (sU σ 0) (dN t)) * b / 4 else -1000000
def aForce (σ : eg_S) (p t y b o : Int32) : Int32 := if (((G1 (sP σ) p ∧ GI (nI 0) (nI 1) t) ∧ GI (nI 1) (nI 60) y) ∧ GI (nI 0) (nI 9) b) ∧ GI (-99) 99 o then nI (frc (sL σ) (sU σ (5 + 4 * dN p)) (blw (sU σ) (sU σ 0) (dN t)) (dN y) (dN b) o.toInt) else -1000000
def aEgg (σ : eg_S) (e w : Int32) : Int32 := if G1 (sE σ) e ∧ GI (nI 0) (nI 1) w then nI (sU σ (28 + 2 * dN e + dN w)) else -1
section SI
variable {h : eg_H} {σ : eg_S} {B : Nat × Nat}
theorem X_off (X : XI h σ B) (p t b a s : Int32) : ∃ h', fX12_off h 16 p t b a s = some (aOff σ p t b a s, h') ∧ XOk h h' σ B := by
  have C := X.2.2.1
  have hs := C.1
  have hP := XI_P X
  refine ⟨h, ?_, XOk_rfl X⟩
  unfold fX12_off aOff
  rw [if_pos (iO_16 hs), gR_16 hs, rf_16_3 hs, Option.bind_some, X_isPerson hs C.2.1 p, Option.bind_some]
  dsimp only
  rw [g01]
  by_cases c1 : G1 (sP σ) p
  · rw [if_pos c1, X_isEnd h t, Option.bind_some]
    dsimp only
    rw [g01]
    by_cases c2 : GI (nI 0) (nI 1) t
    · rw [if_pos c2, X_within, Option.bind_some]
      dsimp only
      rw [g01]
      by_cases c3 : GI (-5) 5 a
      · rw [if_pos c3]
        have c0 := c1
        obtain ⟨n, hn, rfl⟩ := G1_n (by omega) c1
        have hU := XI_U X (by omega)
        have e3 : fX7_ofPerson h 23 (nI n) 3 = some (nI (sU σ (7 + 4 * n)), h) := by
          have := X_ofPerson hs C.2.1 hU hn (j := 3) (by omega)
          rw [show 4 + 4 * n + 3 = 7 + 4 * n by omega] at this; exact this
        have e0 : fX7_ofPerson h 23 (nI n) 0 = some (nI (sU σ (4 + 4 * n)), h) := X_ofPerson hs C.2.1 hU hn (j := 0) (by omega)
        have et : fX7_told h 23 0 = some (nI (sU σ 0), h) := X_told hs C.2.1 (x := 0) (by omega)
        rw [dN_n (by omega)]
        by_cases c4 : b < 0
        · rw [if_pos c4, if_neg (fun z => z.1.2.1 c4)]
        · rw [if_neg c4, gR_16 hs, rf_16_3 hs, Option.bind_some, e3, Option.bind_some]
          dsimp only
          by_cases c5 : nI (sU σ (7 + 4 * n)) < b
          · rw [if_pos c5, if_neg (fun z => z.1.2.2 c5)]
          · rw [if_neg c5, gR_16 hs, rf_16_3 hs, Option.bind_some, e0, Option.bind_some]
            dsimp only
            rw [X_within, Option.bind_some]
            dsimp only
            rw [g01]
            by_cases c6 : GI (-(nI (sU σ (4 + 4 * n)))) (nI (sU σ (4 + 4 * n))) s
            · rw [if_pos c6, if_pos ⟨⟨⟨⟨c0, c2⟩, c3⟩, c4, c5⟩, c6⟩, gR_16 hs, rf_16_3 hs, Option.bind_some, Option.bind_some, et, Option.bind_some]
              dsimp only
              obtain ⟨m, m1, m2, rfl⟩ := GI_n (by omega) (by omega) c2
              rw [X_blows hs C.2.1 hU (by omega), Option.bind_some, dN_n (by omega)]
            · rw [if_neg c6, if_neg (fun z => c6 z.2)]
      · rw [if_neg c3, if_neg (fun z => c3 z.1.1.2)]
    · rw [if_neg c2, if_neg (fun z => c2 z.1.1.1.2)]
  · rw [if_neg c1, if_neg (fun z => c1 z.1.1.1.1)]
theorem M_offC (R : RI h σ) (p t b a s : Int32) : ∃ h', fX13_off h 54 p t b a s = some (aOff σ p t b a s, h') ∧ ROk h h' σ := by
  obtain ⟨R0, Q0⟩ := R_0 R
  have hs := R.1
  have s0 := R0.1
  have hP := RI_P R
  refine ⟨_, ?_, ROk_scr R Q0⟩
  unfold fX13_off aOff
  rw [if_pos (iO_54 hs), pI_54 hs, Option.bind_some, M_isPerson s0 R0.2.2.2.1 p, Option.bind_some]
  dsimp only
  rw [g01]
  by_cases c1 : G1 (sP σ) p
  · rw [if_pos c1, M_GI (lo := 0) (hi := 1) _ t (by omega) (by omega) 0 1 rfl rfl, Option.bind_some]
    dsimp only
    rw [g01]
    by_cases c2 : GI (nI 0) (nI 1) t
    · rw [if_pos c2]
      have c0 := c1
      obtain ⟨n, hn, rfl⟩ := G1_n (by omega) c1
      have O := RI_RO R0 (by omega)
      have hU := O.2.1
      have h9 := (hU.2.1 n hn).2.2.2
      rw [gR_54 s0, rf_54_20 s0, Option.bind_some, show (4 : Int32) * nI n + 3 = nI (4 * n + 3) by rw [nI_k4, show (3 : Int32) = nI 3 from rfl, nI_add], R_per O (by omega), Option.bind_some, show 4 + (4 * n + 3) = 7 + 4 * n by omega, M_GIi _ b (nI 0) (nI (sU σ (7 + 4 * n))) 0 _ rfl rfl, Option.bind_some, dN_n (by omega)]
      dsimp only
      rw [g01]
      by_cases c4 : GI (nI 0) (nI (sU σ (7 + 4 * n))) b
      · rw [if_pos c4, M_GIi _ a (-5) 5 (-5) 5 (by decide) (by decide), Option.bind_some]
        dsimp only
        rw [g01]
        by_cases c3 : GI (-5) 5 a
        · rw [if_pos c3, gR_54 s0, rf_54_20 s0, Option.bind_some, nI_k4, R_per O (by omega), Option.bind_some, Option.bind_some, R_per O (by omega), Option.bind_some, M_GIi _ s (-(nI (sU σ (4 + 4 * n)))) (nI (sU σ (4 + 4 * n))) _ _ rfl rfl, Option.bind_some]
          dsimp only
          rw [g01]
          by_cases c6 : GI (-(nI (sU σ (4 + 4 * n)))) (nI (sU σ (4 + 4 * n))) s
          · rw [if_pos c6, if_pos ⟨⟨⟨⟨c0, c2⟩, c3⟩, c4⟩, c6⟩]
            obtain ⟨m, m1, m2, rfl⟩ := GI_n (by omega) (by omega) c2
            unfold fX13_offOf
            rw [if_pos (iO_54 s0), M_blows O (by omega), Option.bind_some, dN_n (by omega)]
            rfl
          · rw [if_neg c6, if_neg (fun z => c6 z.2)]
        · rw [if_neg c3, if_neg (fun z => c3 z.1.1.2)]
      · rw [if_neg c4, if_neg (fun z => c4 z.1.2)]
    · rw [if_neg c2, if_neg (fun z => c2 z.1.1.1.2)]
  · rw [if_neg c1, if_neg (fun z => c1 z.1.1.1.1)]
theorem X_egg (X : XI h σ B) (e w : Int32) : ∃ h', fX12_egg h 16 e w = some (aEgg σ e w, h') ∧ XOk h h' σ B := by
  have C := X.2.2.1
  have hs := C.1
  have hP := XI_P X
  refine ⟨h, ?_, XOk_rfl X⟩
  unfold fX12_egg aEgg
  rw [if_pos (iO_16 hs), gR_16 hs, rf_16_3 hs, Option.bind_some, X_isEgg hs C.2.1 e, Option.bind_some]
  dsimp only
  rw [g01]
  by_cases c1 : G1 (sE σ) e
  · rw [if_pos c1]
    by_cases c2 : GI (nI 0) (nI 1) w
    · rw [if_neg (show ¬ w < 0 from c2.1), if_pos (show w < (2 : Int32) from Int32.not_le.mp (fun z => c2.2 (le2.mp z))), if_pos ⟨c1, c2⟩]
      obtain ⟨n, hn, rfl⟩ := G1_n (by omega) c1
      obtain ⟨m, m1, m2, rfl⟩ := GI_n (by omega) (by omega) c2
      have hPp : 0 < sP σ := by
        rcases Nat.eq_zero_or_pos (sP σ) with z | z
        · have := (X.1.2.1.2.2.1 z).1; omega
        · exact z
      rw [gR_16 hs, rf_16_3 hs, Option.bind_some, X_ofEgg hs C.2.1 (XI_U X hPp) hn (by omega), Option.bind_some, dN_n (by omega), dN_n (by omega)]
    · rw [if_neg (show ¬ (G1 (sE σ) e ∧ GI (nI 0) (nI 1) w) from fun z => c2 z.2)]
      by_cases c3 : w < 0
      · rw [if_pos c3]
      · rw [if_neg c3, if_neg (show ¬ w < (2 : Int32) from fun z => c2 ⟨c3, fun y => absurd z (Int32.not_lt.mpr (le2.mpr y))⟩)]
  · rw [if_neg c1, if_neg (fun z => c1 z.1)]
theorem M_egg (R : RI h σ) (e w : Int32) : ∃ h', fX13_egg h 54 e w = some (aEgg σ e w, h') ∧ ROk h h' σ := by
  obtain ⟨R0, Q0⟩ := R_0 R
  have hs := R.1
  have s0 := R0.1
  have hP := RI_P R
  refine ⟨_, ?_, ROk_scr R Q0⟩
  unfold fX13_egg aEgg
  rw [if_pos (iO_54 hs), pI_54 hs, Option.bind_some, M_isEgg s0 R0.2.2.2.1 e, Option.bind_some]
  dsimp only
  rw [g01]
  by_cases c1 : G1 (sE σ) e
  · rw [if_pos c1, M_GI (lo := 0) (hi := 1) _ w (by omega) (by omega) 0 1 rfl rfl, Option.bind_some]
    dsimp only
    rw [g01]
    by_cases c2 : GI (nI 0) (nI 1) w
    · rw [if_pos c2, if_pos ⟨c1, c2⟩]
      obtain ⟨n, hn, rfl⟩ := G1_n (by omega) c1
      obtain ⟨m, m1, m2, rfl⟩ := GI_n (by omega) (by omega) c2
      have hPp : 0 < sP σ := by
        rcases Nat.eq_zero_or_pos (sP σ) with z | z
        · have := (R.2.1.2.1.2.2.1 z).1; omega
        · exact z
      have O := RI_RO R0 hPp
      rw [gR_54 s0, rf_54_22 s0, Option.bind_some, nI_k2, nI_add, R_egg O (by omega), Option.bind_some, dN_n (by omega), dN_n (by omega), show 28 + (2 * n + m) = 28 + 2 * n + m by omega]
    · rw [if_neg c2, if_neg (fun z => c2 z.2)]
  · rw [if_neg c1, if_neg (fun z => c1 z.1)]
theorem X_lawAt (X : XI h σ B) : fX12_lawAt h 16 (eg_I h 16 6) = some (eg_P h 36 2, h) := by
  have hs := X.2.2.1.1
  obtain ⟨a1, a2, a3, a4⟩ := X.2.2.2.1
  have hN := X.1.2.2.1.1
  have hH := X.1.2.2.1.2.1
  unfold fX12_lawAt
  rw [if_pos (iO_16 hs), a2, a4]
  by_cases c : σ.1 4 = 0
  · rw [if_pos (show iI ((σ.1 4 : Int) - 1) < (0 : Int32) from (iI_lt (b := 0) (by unfold i3; omega) (by unfold i3; omega)).mpr (by omega)), if_pos c]
  · have e : iI ((σ.1 4 : Int) - 1) = nI (σ.1 4 - 1) := by rw [← iI_n]; congr 1; omega
    have hcl : (nI (σ.1 4 - 1)).toNatClampNeg = σ.1 4 - 1 := nI_clamp (by omega)
    rw [e, if_neg (nI_pos (by omega)), gI_16 hs, Option.bind_some, a1, if_neg (nI_ge (by omega) (by omega)), gR_16 hs, rf_16_4 hs, Option.bind_some, al_25 hs, Option.bind_some, if_pos (nI_lt (by omega) (by omega)), Option.bind_some]
    unfold eg_aQ
    rw [if_pos (show eg_isA h 115 25 (nI (σ.1 4 - 1)) from ⟨by omega, by rw [kd_25 hs], nI_pos (by omega), by rw [kd_25 hs, hcl]; show σ.1 4 - 1 < 4; omega⟩), hcl, Option.bind_some, if_neg c]
theorem X_receive {U : Nat → Nat} {P E : Nat} (hs : eg_stt h) (V : XV h U P E) (hU : Uok U P E) {r d : Nat} (hr : r < P) (hd : d ≤ 1) : ∃ h', fX11_receive h 36 (nI r) (nI d) = some h' ∧ eg_eq S36 h h' ∧ eg_I h' 36 5 = nI (U (5 + 4 * r)) ∧ eg_I h' 36 7 = iI (blw U (U 0) d) := by
  let g1 := eg_sI h 36 5 (nI (U (5 + 4 * r)))
  let g2 := eg_sI g1 36 7 (iI (blw U (U 0) d))
  have E1 : eg_eq S36 h g1 := eq_sI eq_rfl rfl
  have E2 : eg_eq S36 h g2 := eq_sI E1 rfl
  have V1 : XV g1 U P E := XV_eq V (gr_eq E1 (by decide)) ⟨rfl, rfl, fun _ => rfl⟩
  have s1 : eg_stt g1 := hs
  have a1 : fX7_ofPerson h 23 (nI r) 1 = some (nI (U (5 + 4 * r)), h) := by
    have := X_ofPerson hs V hU hr (j := 1) (by omega)
    rw [show 4 + 4 * r + 1 = 5 + 4 * r by omega] at this; exact this
  have a2 : fX7_told g1 23 0 = some (nI (U 0), g1) := X_told s1 V1 (x := 0) (by omega)
  have a3 := X_blows s1 V1 hU (d := d) (wd := U 0) (by omega)
  refine ⟨g2, ?_, E2, ?_, ?_⟩
  · unfold fX11_receive
    rw [if_pos (iO_36 hs), gR_36 hs, rf_36_0 hs, Option.bind_some, a1, Option.bind_some]
    dsimp only
    rw [pI_36 hs, Option.bind_some]
    show ((eg_gR g1 11 0 36).bind _) = _
    rw [gR_36 s1, rf_36_0 s1, Option.bind_some, Option.bind_some, a2, Option.bind_some]
    dsimp only
    rw [a3, Option.bind_some]
    dsimp only
    rw [pI_36 s1, Option.bind_some]
  · show eg_I (eg_sI g1 36 7 _) 36 5 = _
    rw [I_sI, if_neg (by decide)]
    show eg_I (eg_sI h 36 5 _) 36 5 = _
    rw [I_sI, if_pos ⟨rfl, rfl⟩]
  · show eg_I (eg_sI g1 36 7 _) 36 7 = _
    rw [I_sI, if_pos ⟨rfl, rfl⟩]
theorem X_forceC (X : XI h σ B) (p t y b o : Int32) : ∃ h', fX12_force h 16 p t y b o = some (aForce σ p t y b o, h') ∧ XOk h h' σ B := by
  have C := X.2.2.1
  have hs := C.1
  have hP := XI_P X
  unfold fX12_force aForce
  rw [if_pos (iO_16 hs), gR_16 hs, rf_16_3 hs, Option.bind_some, X_isPerson hs C.2.1 p, Option.bind_some]
  dsimp only
  rw [g01]
  by_cases c1 : G1 (sP σ) p
  · rw [if_pos c1, X_isEnd h t, Option.bind_some]
    dsimp only
    rw [g01]
    by_cases c2 : GI (nI 0) (nI 1) t
    · rw [if_pos c2, X_isYards h y, Option.bind_some]
      dsimp only
      rw [g01]
      by_cases c3 : GI (nI 1) (nI 60) y
      · rw [if_pos c3]
        by_cases c4 : GI (nI 0) (nI 9) b
        · rw [if_neg (show ¬ b < 0 from c4.1), if_neg (show ¬ (9 : Int32) < b from c4.2), X_within, Option.bind_some]
          dsimp only
          rw [g01]
          by_cases c5 : GI (-99) 99 o
          · rw [if_pos c5, if_pos (show (((G1 (sP σ) p ∧ GI (nI 0) (nI 1) t) ∧ GI (nI 1) (nI 60) y) ∧ GI (nI 0) (nI 9) b) ∧ GI (-99) 99 o from ⟨⟨⟨⟨c1, c2⟩, c3⟩, c4⟩, c5⟩)]
            obtain ⟨r, hr, rfl⟩ := G1_n (by omega) c1
            obtain ⟨d, d1, d2, rfl⟩ := GI_n (by omega) (by omega) c2
            obtain ⟨n, n1, n2, rfl⟩ := GI_n (by omega) (by omega) c3
            obtain ⟨m, m1, m2, rfl⟩ := GI_n (by omega) (by omega) c4
            have ho : -99 ≤ o.toInt ∧ o.toInt ≤ 99 := GIi_n (lo := -99) (hi := 99) (by unfold i3; omega) (by unfold i3; omega) (by
              rw [show iI (-99) = (-99 : Int32) by decide, show iI 99 = (99 : Int32) by decide]; exact c5)
            have hU := XI_U X (by omega)
            obtain ⟨h1, e1, E1, v5, v7⟩ := X_receive hs C.2.1 hU hr d2
            have C1 : XC h1 (sU σ) (sP σ) (sE σ) (sL σ) (eg_P h 36 2) (σ.1 11) B := XC_low C E1 (by decide) (by decide) ⟨rfl, rfl, rfl, rfl, fun _ => ⟨rfl, rfl⟩⟩
            have G1' : eg_gr Sx h h1 := gr_sub (by decide) (gr_eq E1 (by decide))
            have X1 : XI h1 σ B := XI_scr X G1' C1
            have hA := (hU.2.1 r hr).2.1
            have hbw : -9 ≤ blw (sU σ) (sU σ 0) d ∧ blw (sU σ) (sU σ 0) d ≤ 9 := by
              have := hU.1.2.2.1
              unfold blw; split <;> omega
            obtain ⟨h2, e2, E2⟩ := X_force (T := (0, 0, sU σ (5 + 4 * r), 0, blw (sU σ) (sU σ 0) d, 0)) C1.1 v5 v7 ⟨Nat.zero_le _, Nat.zero_le _, hA, Nat.zero_le _, hbw.1, hbw.2, Nat.zero_le _⟩ C1.2.2.2.1 (y := n) (b := m) (off := o.toInt) n2 m2 ho
            rw [iI_o] at e2
            refine ⟨h2, ?_, XOk_scr X (gr_tr G1' (gr_sub (by decide) (gr_Sq C1.2.2.2.1 E2))) (XC_law C1 E2)⟩
            have e36 : eg_P h1 36 2 = eg_P h 36 2 := C1.2.2.1
            have s1 := C1.1
            have eL := X_lawAt X1
            rw [e36] at eL
            rw [gR_16 hs, rf_16_15 hs, Option.bind_some, e1, Option.bind_some, gR_16 s1, rf_16_15 s1, Option.bind_some, gI_16 s1, Option.bind_some, eL, Option.bind_some]
            dsimp only
            rw [e2, Option.bind_some, dN_n (by omega), dN_n (by omega), dN_n (by omega), dN_n (by omega)]
            rfl
          · rw [if_neg c5, if_neg (fun z => c5 z.2)]
            exact ⟨h, rfl, XOk_rfl X⟩
        · rw [if_neg (show ¬ ((((G1 (sP σ) p ∧ GI (nI 0) (nI 1) t) ∧ GI (nI 1) (nI 60) y) ∧ GI (nI 0) (nI 9) b) ∧ GI (-99) 99 o) from fun z => c4 z.1.2)]
          by_cases c6 : b < 0
          · rw [if_pos c6]
            exact ⟨h, rfl, XOk_rfl X⟩
          · rw [if_neg c6, if_pos (show (9 : Int32) < b from Decidable.not_not.mp (fun z => c4 ⟨c6, z⟩))]
            exact ⟨h, rfl, XOk_rfl X⟩
      · rw [if_neg c3, if_neg (fun z => c3 z.1.1.2)]
        exact ⟨h, rfl, XOk_rfl X⟩
    · rw [if_neg c2, if_neg (fun z => c2 z.1.1.1.2)]
      exact ⟨h, rfl, XOk_rfl X⟩
  · rw [if_neg c1, if_neg (fun z => c1 z.1.1.1.1)]
    exact ⟨h, rfl, XOk_rfl X⟩
theorem M_forceC (R : RI h σ) (p t y b o : Int32) : ∃ h', fX13_force h 54 p t y b o = some (aForce σ p t y b o, h') ∧ ROk h h' σ := by
  obtain ⟨R0, Q0⟩ := R_0 R
  have hs := R.1
  have s0 := R0.1
  have hP := RI_P R
  unfold fX13_force aForce
  rw [if_pos (iO_54 hs), pI_54 hs, Option.bind_some, M_isPerson s0 R0.2.2.2.1 p, Option.bind_some]
  dsimp only
  rw [g01]
  by_cases c1 : G1 (sP σ) p
  · rw [if_pos c1, M_GI (lo := 0) (hi := 1) _ t (by omega) (by omega) 0 1 rfl rfl, Option.bind_some]
    dsimp only
    rw [g01]
    by_cases c2 : GI (nI 0) (nI 1) t
    · rw [if_pos c2, M_GI (lo := 1) (hi := 60) _ y (by omega) (by omega) 1 60 rfl rfl, Option.bind_some]
      dsimp only
      rw [g01]
      by_cases c3 : GI (nI 1) (nI 60) y
      · rw [if_pos c3, M_GI (lo := 0) (hi := 9) _ b (by omega) (by omega) 0 9 rfl rfl, Option.bind_some]
        dsimp only
        rw [g01]
        by_cases c4 : GI (nI 0) (nI 9) b
        · rw [if_pos c4, M_GIi _ o (-99) 99 (-99) 99 (by decide) (by decide), Option.bind_some]
          dsimp only
          rw [g01]
          by_cases c5 : GI (-99) 99 o
          · rw [if_pos c5, if_pos (show (((G1 (sP σ) p ∧ GI (nI 0) (nI 1) t) ∧ GI (nI 1) (nI 60) y) ∧ GI (nI 0) (nI 9) b) ∧ GI (-99) 99 o from ⟨⟨⟨⟨c1, c2⟩, c3⟩, c4⟩, c5⟩)]
            obtain ⟨r, hr, rfl⟩ := G1_n (by omega) c1
            obtain ⟨d, d1, d2, rfl⟩ := GI_n (by omega) (by omega) c2
            obtain ⟨n, n1, n2, rfl⟩ := GI_n (by omega) (by omega) c3
            obtain ⟨m, m1, m2, rfl⟩ := GI_n (by omega) (by omega) c4
            have ho : -99 ≤ o.toInt ∧ o.toInt ≤ 99 := GIi_n (lo := -99) (hi := 99) (by unfold i3; omega) (by unfold i3; omega) (by
              rw [show iI (-99) = (-99 : Int32) by decide, show iI 99 = (99 : Int32) by decide]; exact c5)
            have O := RI_RO R0 (by omega)
            obtain ⟨h', e1, E1⟩ := M_force O (r := r) (d := d) (y := n) (b := m) (off := o.toInt) hr (by omega) n2 m2 ho
            rw [iI_o] at e1
            refine ⟨h', ?_, ROk_scr R (eq_tr Q0 (SF_x E1))⟩
            rw [e1, Option.bind_some, dN_n (by omega), dN_n (by omega), dN_n (by omega), dN_n (by omega)]
          · rw [if_neg c5, if_neg (fun z => c5 z.2)]; exact ⟨_, rfl, ROk_scr R Q0⟩
        · rw [if_neg c4, if_neg (fun z => c4 z.1.2)]; exact ⟨_, rfl, ROk_scr R Q0⟩
      · rw [if_neg c3, if_neg (fun z => c3 z.1.1.2)]; exact ⟨_, rfl, ROk_scr R Q0⟩
    · rw [if_neg c2, if_neg (fun z => c2 z.1.1.1.2)]; exact ⟨_, rfl, ROk_scr R Q0⟩
  · rw [if_neg c1, if_neg (fun z => c1 z.1.1.1.1)]; exact ⟨_, rfl, ROk_scr R Q0⟩
end SI
