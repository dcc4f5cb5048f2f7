section XU
variable {h h' : eg_H} {σ : eg_S} {B : Nat × Nat}
theorem X_take_L (hs : eg_stt h) : ∀ j i g F, i + j = 40 → j < F → eg_eq [(24, none)] h g → (∀ m, m < i → eg_I g 24 m = eg_I h 20 m) → ∃ g', fX7_take_L2 F g 23 19 (nI i) = some (23, 19, g') ∧ eg_eq [(24, none)] h g' ∧ ∀ m, m < 40 → eg_I g' 24 m = eg_I h 20 m := by
  intro j
  induction j with
  | zero =>
    intro i g F hi hF Q H
    obtain ⟨F, rfl⟩ : ∃ F', F = F' + 1 := ⟨F - 1, by omega⟩
    have sg : eg_stt g := eq_stt Q hs (by decide)
    obtain rfl : i = 40 := by omega
    exact ⟨g, by rw [fX7_take_L2, gR_23 sg, rf_23_0 sg, Option.bind_some, al_24 sg, Option.bind_some, if_pos (nI_le (Nat.le_refl _) (by omega))], Q, H⟩
  | succ j ih =>
    intro i g F hi hF Q H
    obtain ⟨F, rfl⟩ : ∃ F', F = F' + 1 := ⟨F - 1, by omega⟩
    have sg : eg_stt g := eq_stt Q hs (by decide)
    have hcl : (nI i).toNatClampNeg = i := nI_clamp (by omega)
    have ev : fX8_value g 19 (nI i) = some (eg_I h 20 i, g) := by
      unfold fX8_value
      rw [if_pos (iO_19 sg), if_neg (nI_pos (by omega)), gR_19 sg, rf_19_1 sg, Option.bind_some, al_20 sg, Option.bind_some, if_pos (nI_lt (by omega) (by omega)), Option.bind_some, aI_20 sg (nI_pos (by omega)) (by rw [hcl]; omega), hcl, Option.bind_some, (Q.2 20 i rfl).1]
    rw [fX7_take_L2, gR_23 sg, rf_23_0 sg, Option.bind_some, al_24 sg, Option.bind_some, if_neg (nI_ge (by omega) (by omega)), Option.bind_some, ev, Option.bind_some]
    dsimp only
    rw [wI_24 sg (nI_pos (by omega)) (by rw [hcl]; omega), hcl, Option.bind_some, nI_1]
    exact ih (i + 1) (eg_sI g 24 i (eg_I h 20 i)) F (by omega) (by omega) (eq_sI Q (by rfl)) (fun m hm => by
      rw [I_sI]
      by_cases c : m = i
      · subst c; rw [if_pos ⟨rfl, rfl⟩]
      · rw [if_neg (fun z => c z.2)]; exact H m (by omega))
theorem X_takeM (hs : eg_stt h) : ∃ g, fX7_take h 23 19 = some (eg_sI (eg_sI g 23 1 (eg_I h 19 2)) 23 2 (eg_I h 19 3)) ∧ eg_eq [(24, none)] h g ∧ ∀ m, m < 40 → eg_I g 24 m = eg_I h 20 m := by
  obtain ⟨g, e1, E1, H1⟩ := X_take_L hs 40 0 h eg_F (by omega) (by rw [eg_F_eq]; omega) eq_rfl (fun m hm => by omega)
  have sg : eg_stt g := eq_stt E1 hs (by decide)
  have sg1 : eg_stt (eg_sI g 23 1 (eg_I h 19 2)) := sg
  have e1' : fX7_take_L2 eg_F h 23 19 0 = some (23, 19, g) := e1
  refine ⟨g, ?_, E1, H1⟩
  have e3 : eg_I (eg_sI g 23 1 (eg_I h 19 2)) 19 3 = eg_I h 19 3 := by rw [I_sI, if_neg (by omega), (E1.2 19 3 rfl).1]
  unfold fX7_take
  rw [if_pos (iO_23 hs), e1', Option.bind_some]
  show ((fX8_persons g 19).bind _) = _
  unfold fX8_persons fX8_eggs
  rw [if_pos (iO_19 sg), gI_19 sg, Option.bind_some, Option.bind_some, (E1.2 19 2 rfl).1]
  dsimp only
  rw [pI_23 sg, Option.bind_some, if_pos (iO_19 sg1), gI_19 sg1, Option.bind_some, Option.bind_some, e3]
  dsimp only
  rw [pI_23 sg1, Option.bind_some]
theorem X_drop (hs : eg_stt h) {era : Nat} (v38 : eg_I h 38 3 = nI era) : fX12_holdLaw h 16 (-1) = some (eg_sI (eg_sP (eg_sI h 16 6 (-1)) 36 2 none) 38 3 (nI (era + 1))) := by
  let h1 := eg_sI h 16 6 (-1)
  have s1 : eg_stt h1 := hs
  have ea : fX12_lawAt h1 16 (-1) = some (none, h1) := by
    unfold fX12_lawAt
    rw [if_pos (iO_16 s1), if_pos (by decide)]
  let h2 := eg_sP h1 36 2 none
  have s2 : eg_stt h2 := stt_sP hs (by decide)
  have v2 : eg_I h2 38 3 = nI era := by
    show eg_I (eg_sI h 16 6 (-1)) 38 3 = _
    rw [I_sI, if_neg (by omega)]; exact v38
  unfold fX12_holdLaw
  rw [if_pos (iO_16 hs), pI_16 hs, Option.bind_some]
  show ((eg_gR h1 12 15 16).bind _) = _
  rw [gR_16 s1, rf_16_15 s1, Option.bind_some, ea, Option.bind_some]
  dsimp only
  unfold fX11_obey
  rw [if_pos (iO_36 s1), pP_36 s1, Option.bind_some, Option.bind_some]
  show ((eg_gR h2 12 16 16).bind _) = _
  rw [gR_16 s2, rf_16_16 s2, Option.bind_some]
  unfold fX0_forget
  rw [if_pos (iO_38 s2), gI_38 s2, Option.bind_some, v2, nI_1, pI_38 s2, Option.bind_some, Option.bind_some]
theorem X_clear (hs : eg_stt h) {p : Nat} (hp : isB p) : fX1_clear h p = some (eg_sI h p 2 0) := by
  obtain ⟨o1, _, _⟩ := B_o hs hp
  unfold fX1_clear
  rw [if_pos o1, show eg_pI h 1 2 p 0 = some (eg_sI h p 2 0) from if_pos o1, Option.bind_some]
def Stm : List (Nat × Option Nat) := [(24, none), (23, some 1), (23, some 2), (27, some 2), (29, some 2), (31, some 2), (16, some 14), (16, some 6), (36, some 2), (38, some 3), (17, some 1)]
theorem X_textM (X : XI h σ B) (he : σ.1 11 + 1 < 2 ^ 30) {q : Nat × Nat × (Nat → Int32)} (hq : rMd σ = .inr q) : ∃ h', fX12_text h 16 0 = some (nI q.1, h') ∧ XOk h h' (stM σ q) B := by
  have hs0 := X.2.2.1.1
  obtain ⟨q1, q2, q3, q4, q5⟩ := rMd_in hq
  obtain ⟨h1, V, e1, ⟨X1, gc1⟩, ag, M1⟩ := X_rdM X
  rw [hq] at ag e1
  cases hr : mdF (tT σ) (σ.1 0) 14 (skp (tT σ) (σ.1 0) 0) 0 0 0 V with
  | inl e => rw [hr] at ag; exact ag.elim
  | inr p =>
    rw [hr] at ag M1
    obtain ⟨a1, a2, a3⟩ := ag
    obtain ⟨M, r1, r2, _, r4⟩ := M1
    rw [a1] at r1
    rw [a2] at r2
    rw [a1, a2] at a3
    have val : ∀ x, tol q.1 q.2.1 x → eg_I h1 20 x = nI (dN (q.2.2 x)) := fun x hx => by
      have hx40 : x < 40 := by unfold tol at hx; omega
      rw [r4 x hx40, a3 x hx]
      exact (Vin_n q2 q4 q5 hx).2.2
    have s1 := X1.2.2.1.1
    have k38 := X1.2.2.1.2.2.2.2.1
    obtain ⟨g, et, Et, Ht⟩ := X_takeM s1
    have sg : eg_stt g := eq_stt Et s1 (by decide)
    rw [r1, r2] at et
    let g2 := eg_sI (eg_sI g 23 1 (nI q.1)) 23 2 (nI q.2.1)
    let g3 := eg_sI g2 27 2 0
    let g4 := eg_sI g3 29 2 0
    let g5 := eg_sI g4 31 2 0
    let g6 := eg_sI g5 16 14 0
    have s2 : eg_stt g2 := sg
    have s3 : eg_stt g3 := sg
    have s4 : eg_stt g4 := sg
    have s5 : eg_stt g5 := sg
    have s6 : eg_stt g6 := sg
    have E6 : eg_eq Stm h1 g6 := eq_sI (eq_sI (eq_sI (eq_sI (eq_sI (eq_sI (cov_sub (by decide) Et) rfl) rfl) rfl) rfl) rfl) rfl
    have v38 : eg_I g6 38 3 = nI (σ.1 11) := by
      show eg_I (eg_sI (eg_sI (eg_sI (eg_sI (eg_sI (eg_sI g 23 1 (nI q.1)) 23 2 (nI q.2.1)) 27 2 0) 29 2 0) 31 2 0) 16 14 0) 38 3 = _
      rw [I_sI, if_neg (by omega), I_sI, if_neg (by omega), I_sI, if_neg (by omega), I_sI, if_neg (by omega), I_sI, if_neg (by omega), I_sI, if_neg (by omega), (Et.2 38 3 rfl).1]; exact k38
    have ed := X_drop s6 v38
    let g7 := eg_sI (eg_sP (eg_sI g6 16 6 (-1)) 36 2 none) 38 3 (nI (σ.1 11 + 1))
    have s7 : eg_stt g7 := stt_sP (h := eg_sI g6 16 6 (-1)) s6 (by decide)
    let g8 := eg_sI g7 17 1 0
    have s8 : eg_stt g8 := s7
    have E8 : eg_eq Stm h1 g8 := eq_sI (eq_sI (eq_sP (eq_sI E6 rfl) rfl) rfl) rfl
    have c6 : ∀ p i, ¬ (p = 16 ∧ i = 6) → ¬ (p = 38 ∧ i = 3) → ¬ (p = 17 ∧ i = 1) → eg_I g8 p i = eg_I g6 p i := fun p i z1 z2 z3 => by
      show eg_I (eg_sI (eg_sI (eg_sP (eg_sI g6 16 6 (-1)) 36 2 none) 38 3 (nI (σ.1 11 + 1))) 17 1 0) p i = _
      rw [I_sI, if_neg z3, I_sI, if_neg z2]
      show eg_I (eg_sI g6 16 6 (-1)) p i = _
      rw [I_sI, if_neg z1]
    have c2 : ∀ p i, ¬ (p = 27 ∧ i = 2) → ¬ (p = 29 ∧ i = 2) → ¬ (p = 31 ∧ i = 2) → ¬ (p = 16 ∧ i = 14) → eg_I g6 p i = eg_I g2 p i := fun p i z1 z2 z3 z4 => by
      show eg_I (eg_sI (eg_sI (eg_sI (eg_sI g2 27 2 0) 29 2 0) 31 2 0) 16 14 0) p i = _
      rw [I_sI, if_neg z4, I_sI, if_neg z3, I_sI, if_neg z2, I_sI, if_neg z1]
    have w1 : eg_I g7 23 1 = nI q.1 := by
      have : eg_I g8 23 1 = eg_I g7 23 1 := by
        show eg_I (eg_sI g7 17 1 0) 23 1 = _
        rw [I_sI, if_neg (by omega)]
      rw [← this, c6 23 1 (by omega) (by omega) (by omega), c2 23 1 (by omega) (by omega) (by omega) (by omega)]
      show eg_I (eg_sI (eg_sI g 23 1 (nI q.1)) 23 2 (nI q.2.1)) 23 1 = _
      rw [I_sI, if_neg (by omega), I_sI, if_pos ⟨rfl, rfl⟩]
    have XV8 : XV g8 (fun x => dN (q.2.2 x)) q.1 q.2.1 := by
      refine ⟨?_, ?_, fun x hx => ?_⟩
      · show eg_I (eg_sI g7 17 1 0) 23 1 = _
        rw [I_sI, if_neg (by omega)]; exact w1
      · rw [c6 23 2 (by omega) (by omega) (by omega), c2 23 2 (by omega) (by omega) (by omega) (by omega)]
        show eg_I (eg_sI (eg_sI g 23 1 (nI q.1)) 23 2 (nI q.2.1)) 23 2 = _
        rw [I_sI, if_pos ⟨rfl, rfl⟩]
      · rw [c6 24 x (by omega) (by omega) (by omega), c2 24 x (by omega) (by omega) (by omega) (by omega)]
        show eg_I (eg_sI (eg_sI g 23 1 (nI q.1)) 23 2 (nI q.2.1)) 24 x = _
        rw [I_sI, if_neg (by omega), I_sI, if_neg (by omega), Ht x (by unfold tol at hx; omega)]
        exact val x hx
    have v38' : eg_I g8 38 3 = nI (σ.1 11 + 1) := by
      show eg_I (eg_sI (eg_sI (eg_sP (eg_sI g6 16 6 (-1)) 36 2 none) 38 3 (nI (σ.1 11 + 1))) 17 1 0) 38 3 = _
      rw [I_sI, if_neg (by omega), I_sI, if_pos ⟨rfl, rfl⟩]
    have p36 : eg_P g8 36 2 = none := by
      show eg_P (eg_sP (eg_sI g6 16 6 (-1)) 36 2 none) 36 2 = none
      rw [P_sP, if_pos ⟨rfl, rfl⟩]
    have G8 := gr_eq E8 (by decide)
    have C8 : XC g8 (fun x => dN (q.2.2 x)) q.1 q.2.1 none (eg_P g8 36 2) (σ.1 11 + 1) B := ⟨s8, XV8, rfl, by rw [p36]; trivial, XK_new X1.2.2.1.2.2.2.2 E8 v38' he (by decide) (fun _ => rfl)⟩
    obtain ⟨W, t, _, lb, f, ⟨k1, k2, k3, k4⟩, j⟩ := X1
    have b27 : ∀ p, p = 27 ∨ p = 29 ∨ p = 31 → eg_I g8 p 2 = 0 ∧ eg_I g8 p 1 = eg_I h1 p 1 := fun p hp => by
      rw [c6 p 2 (by omega) (by omega) (by omega)]
      refine ⟨?_, ?_⟩
      · show eg_I (eg_sI (eg_sI (eg_sI (eg_sI g2 27 2 0) 29 2 0) 31 2 0) 16 14 0) p 2 = 0
        rw [I_sI, if_neg (by omega), I_sI]
        by_cases z3 : p = 31
        · rw [if_pos ⟨z3, rfl⟩]
        rw [if_neg (fun z => z3 z.1), I_sI]
        by_cases z2 : p = 29
        · rw [if_pos ⟨z2, rfl⟩]
        rw [if_neg (fun z => z2 z.1), I_sI, if_pos ⟨by omega, rfl⟩]
      · rcases hp with rfl | rfl | rfl <;> exact (E8.2 _ 1 rfl).1
    refine ⟨g8, ?_, XI_in (W_mead W hq) ⟨?_, fun i hi => absurd hi (Nat.not_lt_zero i)⟩ C8 ⟨?_, ?_, ?_, ?_⟩ (XBf_g G8 ⟨rfl, fun _ => rfl⟩ f) ⟨?_, (b27 27 (by omega)).1, fun k hk => absurd (show k < 4 * 0 from hk) (by omega)⟩ ⟨?_, (b27 29 (by omega)).1, fun k hk => absurd (show k < 4 * 0 from hk) (by omega)⟩ ⟨?_, (b27 31 (by omega)).1, fun k hk => absurd (show k < 4 * 0 from hk) (by omega)⟩ (Bk_g G8 (by omega) ⟨⟨rfl, rfl⟩, fun _ => rfl⟩ k4) ⟨?_, fun i hi z => absurd (show 0 = 1 from z) (by omega)⟩, gc_tr gc1 (gc_g G8 (by decide))⟩
    · unfold fX12_text fX12_takeMeadow
      rw [if_pos (iO_16 hs0), if_pos rfl, if_pos (iO_16 hs0), gR_16 hs0, rf_16_1 hs0, Option.bind_some, e1, Option.bind_some]
      dsimp only
      rw [if_pos (show mdA (.inr q) = -1 from rfl), gR_16 s1, rf_16_3 s1, Option.bind_some, gR_16 s1, rf_16_1 s1, Option.bind_some, et, Option.bind_some]
      show (((eg_gR g2 12 9 16).bind _).bind _) = _
      rw [gR_16 s2, rf_16_9 s2, Option.bind_some, X_clear s2 (by unfold isB; omega), Option.bind_some]
      show (((eg_gR g3 12 10 16).bind _).bind _) = _
      rw [gR_16 s3, rf_16_10 s3, Option.bind_some, X_clear s3 (by unfold isB; omega), Option.bind_some]
      show (((eg_gR g4 12 11 16).bind _).bind _) = _
      rw [gR_16 s4, rf_16_11 s4, Option.bind_some, X_clear s4 (by unfold isB; omega), Option.bind_some, pZ_16 (h := g5) s5 (Or.inl rfl), Option.bind_some]
      show (((fX12_holdLaw g6 16 (-1)).bind _).bind _) = _
      rw [ed, Option.bind_some]
      show (((eg_gR g7 12 3 16).bind _).bind _) = _
      rw [gR_16 s7, rf_16_3 s7, Option.bind_some]
      unfold fX7_persons
      rw [if_pos (iO_23 s7), gI_23 s7, Option.bind_some, Option.bind_some, w1, Option.bind_some]
      dsimp only
      rw [if_neg (nI_nm1 (by omega)), gR_16 s7, rf_16_0 s7, Option.bind_some]
      unfold fX10_cut
      rw [if_pos (iO_17 s7), pI_17 s7, Option.bind_some, Option.bind_some]
    · show eg_I (eg_sI g7 17 1 0) 17 1 = _
      rw [I_sI, if_pos ⟨rfl, rfl⟩]; rfl
    · rw [(E8.2 16 5 rfl).1]; exact lb.1
    · show eg_I (eg_sI (eg_sI (eg_sP (eg_sI g6 16 6 (-1)) 36 2 none) 38 3 (nI (σ.1 11 + 1))) 17 1 0) 16 6 = _
      rw [I_sI, if_neg (by omega), I_sI, if_neg (by omega)]
      show eg_I (eg_sI g6 16 6 (-1)) 16 6 = _
      rw [I_sI, if_pos ⟨rfl, rfl⟩]; rfl
    · intro m hm
      obtain ⟨p, w, x1, x2, x3, x4⟩ := lb.2.2.1 m hm
      exact ⟨p, w, by rw [(E8.2 25 m rfl).2.2]; exact x1, x2, x3, G8.2.2.1 p w.1 x2 x4⟩
    · rw [p36]; rfl
    · rw [(b27 27 (by omega)).2]; exact k1.1
    · rw [(b27 29 (by omega)).2]; exact k2.1
    · rw [(b27 31 (by omega)).2]; exact k3.1
    · rw [c6 16 14 (by omega) (by omega) (by omega)]
      show eg_I (eg_sI g5 16 14 0) 16 14 = _
      rw [I_sI, if_pos ⟨rfl, rfl⟩]; rfl
theorem X_textM_no (X : XI h σ B) {e : Nat} (hq : rMd σ = .inl e) : ∃ h', fX12_text h 16 0 = some (-1, h') ∧ XOk h h' σ B := by
  have hs0 := X.2.2.1.1
  obtain ⟨h1, V, e1, O1, _⟩ := X_rdM X
  refine ⟨h1, ?_, O1⟩
  unfold fX12_text fX12_takeMeadow
  rw [if_pos (iO_16 hs0), if_pos rfl, if_pos (iO_16 hs0), gR_16 hs0, rf_16_1 hs0, Option.bind_some, e1, Option.bind_some]
  dsimp only
  rw [if_neg (mdA_no X.1.1.1 hq), Option.bind_some]
  dsimp only
  rw [if_pos rfl]
end XU
