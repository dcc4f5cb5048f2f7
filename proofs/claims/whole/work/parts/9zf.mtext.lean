section MU
variable {h h' : eg_H} {σ : eg_S}
def Smm : List (Nat × Option Nat) := [(54, some 6), (54, some 24), (54, some 26), (59, none), (61, none), (63, none), (54, some 34), (54, some 49), (54, some 65), (54, some 72), (54, some 78)]
theorem M_textM (R : RI h σ) {q : Nat × Nat × (Nat → Int32)} (hq : rMd σ = .inr q) {V : Nat → Int32} (ag : mdR (mdF (tT σ) (σ.1 0) 14 (skp (tT σ) (σ.1 0) 0) 0 0 0 V) (rMd σ)) (M1 : mdM (mdF (tT σ) (σ.1 0) 14 (skp (tT σ) (σ.1 0) 0) 0 0 0 V) h) : ∃ h', ((eg_gI h 13 6 54).bind fun v5 =>
    (eg_pI h 13 6 54 (0 : Int32)).bind fun h7 =>
        (eg_gI h7 13 25 54).bind fun v48 =>
        (eg_pI h7 13 24 54 v48).bind fun h50 =>
        (eg_gI h50 13 27 54).bind fun v52 =>
        (eg_pI h50 13 26 54 v52).bind fun h54 =>
        (fX13_text_L219 eg_F h54 54 (0 : Int32)).bind fun e =>
        match e with
        | (p58, h59) =>
          (fX13_text_L244 eg_F h59 p58 (0 : Int32)).bind fun e =>
          match e with
          | (p62, h63) =>
            (fX13_text_L270 eg_F h63 p62 (0 : Int32)).bind fun e =>
            match e with
            | (p66, h67) =>
              (eg_pI h67 13 34 p66 (-1 : Int32)).bind fun h68 =>
              (eg_pI h68 13 49 p66 (0 : Int32)).bind fun h70 =>
              (eg_pI h70 13 65 p66 (0 : Int32)).bind fun h72 =>
              (eg_pI h72 13 72 p66 (0 : Int32)).bind fun h74 =>
              (eg_pZ h74 13 78 p66 (0 : Int32)).bind fun h76 =>
              (eg_gI h76 13 24 p66).bind fun v78 =>
              some (v78, h76)) = some (nI q.1, h') ∧ ROk h h' (stM σ q) := by
  have hs := R.1
  obtain ⟨q1, q2, q3, q4, q5⟩ := rMd_in hq
  rw [hq] at ag
  cases hr : mdF (tT σ) (σ.1 0) 14 (skp (tT σ) (σ.1 0) 0) 0 0 0 V with
  | inl e => rw [hr] at ag; exact ag.elim
  | inr p =>
    rw [hr] at ag M1
    obtain ⟨a1, a2, a3⟩ := ag
    obtain ⟨M, r1, r2, _, r4⟩ := M1
    rw [a1] at r1
    rw [a2] at r2
    rw [a1, a2] at a3
    have val : ∀ x, tol q.1 q.2.1 x → vM h x = nI (dN (q.2.2 x)) := fun x hx => by
      have hx40 : x < 40 := by unfold tol at hx; omega
      rw [r4 x hx40, a3 x hx]
      exact (Vin_n q2 q4 q5 hx).2.2
    let g1 := eg_sI h 54 6 0
    let g2 := eg_sI g1 54 24 (nI q.1)
    let g3 := eg_sI g2 54 26 (nI q.2.1)
    have s1 : eg_stt g1 := hs
    have s2 : eg_stt g2 := hs
    have s3 : eg_stt g3 := hs
    have v25 : eg_I g1 54 25 = nI q.1 := by rw [I_sI, if_neg (by omega)]; exact r1
    have v27 : eg_I g2 54 27 = nI q.2.1 := by rw [I_sI, if_neg (by omega), I_sI, if_neg (by omega)]; exact r2
    obtain ⟨g4, e4, E4, H4⟩ := M_tx_59 s3 4 0 g3 eg_F (by omega) (by rw [eg_F_eq]; omega) eq_rfl (fun m hm => by omega)
    have s4 : eg_stt g4 := eq_stt E4 s3 (by decide)
    obtain ⟨g5, e5, E5, H5⟩ := M_tx_61 s4 24 0 g4 eg_F (by omega) (by rw [eg_F_eq]; omega) eq_rfl (fun m hm => by omega)
    have s5 : eg_stt g5 := eq_stt E5 s4 (by decide)
    obtain ⟨g6, e6, E6, H6⟩ := M_tx_63 s5 12 0 g5 eg_F (by omega) (by rw [eg_F_eq]; omega) eq_rfl (fun m hm => by omega)
    have s6 : eg_stt g6 := eq_stt E6 s5 (by decide)
    have E3 : eg_eq Smm h g3 := eq_sI (eq_sI (eq_sI eq_rfl rfl) rfl) rfl
    have E6' : eg_eq Smm h g6 := eq_tr (eq_tr (eq_tr E3 (cov_sub (by decide) E4)) (cov_sub (by decide) E5)) (cov_sub (by decide) E6)
    let g7 := eg_sI (eg_sI (eg_sI (eg_sI (eg_sI g6 54 34 (-1)) 54 49 0) 54 65 0) 54 72 0) 54 78 0
    have s7 : eg_stt g7 := s6
    have E7 : eg_eq Smm h g7 := eq_sI (eq_sI (eq_sI (eq_sI (eq_sI E6' rfl) rfl) rfl) rfl) rfl
    have q7 : ∀ p i, ¬ p = 54 → eg_I g7 p i = eg_I g6 p i := fun p i hp => by
      show eg_I (eg_sI (eg_sI (eg_sI (eg_sI (eg_sI g6 54 34 (-1)) 54 49 0) 54 65 0) 54 72 0) 54 78 0) p i = _
      rw [I_sI, if_neg (fun z => hp z.1), I_sI, if_neg (fun z => hp z.1), I_sI, if_neg (fun z => hp z.1), I_sI, if_neg (fun z => hp z.1), I_sI, if_neg (fun z => hp z.1)]
    have q6 : ∀ i, ¬ i = 34 → ¬ i = 49 → ¬ i = 65 → ¬ i = 72 → ¬ i = 78 → eg_I g7 54 i = eg_I g3 54 i := fun i z1 z2 z3 z4 z5 => by
      show eg_I (eg_sI (eg_sI (eg_sI (eg_sI (eg_sI g6 54 34 (-1)) 54 49 0) 54 65 0) 54 72 0) 54 78 0) 54 i = _
      rw [I_sI, if_neg (by omega), I_sI, if_neg (by omega), I_sI, if_neg (by omega), I_sI, if_neg (by omega), I_sI, if_neg (by omega), (E6.2 54 i rfl).1, (E5.2 54 i rfl).1, (E4.2 54 i rfl).1]
    have v24 : eg_I g7 54 24 = nI q.1 := by
      rw [q6 24 (by omega) (by omega) (by omega) (by omega) (by omega)]
      show eg_I (eg_sI (eg_sI g1 54 24 (nI q.1)) 54 26 (nI q.2.1)) 54 24 = _
      rw [I_sI, if_neg (by omega), I_sI, if_pos ⟨rfl, rfl⟩]
    have v26 : eg_I g7 54 26 = nI q.2.1 := by
      rw [q6 26 (by omega) (by omega) (by omega) (by omega) (by omega)]
      show eg_I (eg_sI (eg_sI g1 54 24 (nI q.1)) 54 26 (nI q.2.1)) 54 26 = _
      rw [I_sI, if_pos ⟨rfl, rfl⟩]
    have v6 : eg_I g7 54 6 = 0 := by
      rw [q6 6 (by omega) (by omega) (by omega) (by omega) (by omega)]
      show eg_I (eg_sI (eg_sI (eg_sI h 54 6 0) 54 24 (nI q.1)) 54 26 (nI q.2.1)) 54 6 = _
      rw [I_sI, if_neg (by omega), I_sI, if_neg (by omega), I_sI, if_pos ⟨rfl, rfl⟩]
    refine ⟨g7, ?_, ?_, eq_rfS E7 (by decide)⟩
    · rw [gI_54 hs, Option.bind_some, pI_54 hs, Option.bind_some]
      show ((eg_gI g1 13 25 54).bind _) = _
      rw [gI_54 s1, Option.bind_some, v25, pI_54 s1, Option.bind_some]
      show ((eg_gI g2 13 27 54).bind _) = _
      rw [gI_54 s2, Option.bind_some, v27, pI_54 s2, Option.bind_some]
      have e4' : fX13_text_L219 eg_F g3 54 0 = some (54, g4) := e4
      have e5' : fX13_text_L244 eg_F g4 54 0 = some (54, g5) := e5
      have e6' : fX13_text_L270 eg_F g5 54 0 = some (54, g6) := e6
      show ((fX13_text_L219 eg_F g3 54 0).bind _) = _
      rw [e4', Option.bind_some]
      show ((fX13_text_L244 eg_F g4 54 0).bind _) = _
      rw [e5', Option.bind_some]
      show ((fX13_text_L270 eg_F g5 54 0).bind _) = _
      rw [e6', Option.bind_some]
      show ((eg_pI g6 13 34 54 (-1)).bind _) = _
      rw [pI_54 s6, Option.bind_some, pI_54 (h := eg_sI g6 54 34 (-1)) s6, Option.bind_some, pI_54 (h := eg_sI (eg_sI g6 54 34 (-1)) 54 49 0) s6, Option.bind_some, pI_54 (h := eg_sI (eg_sI (eg_sI g6 54 34 (-1)) 54 49 0) 54 65 0) s6, Option.bind_some, pZ_54 (h := eg_sI (eg_sI (eg_sI (eg_sI g6 54 34 (-1)) 54 49 0) 54 65 0) 54 72 0) s6 (Or.inl rfl), Option.bind_some]
      show ((eg_gI g7 13 24 54).bind _) = _
      rw [gI_54 s7, Option.bind_some, v24]
    · obtain ⟨_, W, t, v, l, f, w, m, g, i, j⟩ := R
      have c5 : ∀ p x, p = 60 ∨ p = 62 ∨ p = 64 → eg_I g3 p x = eg_I h p x := fun p x hp => by
        rcases hp with rfl | rfl | rfl <;> exact (E3.2 _ x rfl).1
      refine RI_in s7 (W_mead W hq) ⟨v6, fun i hi => absurd hi (Nat.not_lt_zero i)⟩ ⟨fun x hx => ?_, fun x hx => ?_, fun x hx => ?_, v24, v26⟩ ⟨?_, ?_, ?_⟩ ?_ ⟨?_, fun i hi => absurd hi (Nat.not_lt_zero i)⟩ ⟨?_, fun i hi => absurd hi (Nat.not_lt_zero i)⟩ ⟨?_, fun i hi => absurd hi (Nat.not_lt_zero i)⟩ ?_ ⟨?_, fun i hi z => absurd (show 0 = 1 from z) (by omega)⟩
      · rw [q7 59 x (by omega), (E6.2 59 x rfl).1, (E5.2 59 x rfl).1, H4 x hx, c5 60 x (by omega)]
        have := val x (by unfold tol; omega)
        unfold vM at this
        rw [if_pos hx] at this
        exact this
      · have hx : x < 4 * q.1 := hx
        rw [q7 61 x (by omega), (E6.2 61 x rfl).1, H5 x (by omega), (E4.2 62 x rfl).1, c5 62 x (by omega)]
        have := val (4 + x) (by unfold tol; omega)
        unfold vM at this
        rw [if_neg (by omega), if_pos (by omega), show 4 + x - 4 = x by omega] at this
        exact this
      · have hx : x < 2 * q.2.1 := hx
        rw [q7 63 x (by omega), H6 x (by omega), (E5.2 64 x rfl).1, (E4.2 64 x rfl).1, c5 64 x (by omega)]
        have := val (28 + x) (by unfold tol; omega)
        unfold vM at this
        rw [if_neg (by omega), if_neg (by omega), show 28 + x - 28 = x by omega] at this
        exact this
      · rw [(E7.2 54 7 rfl).1]; exact l.1
      · show eg_I (eg_sI (eg_sI (eg_sI (eg_sI (eg_sI g6 54 34 (-1)) 54 49 0) 54 65 0) 54 72 0) 54 78 0) 54 34 = _
        rw [I_sI, if_neg (by omega), I_sI, if_neg (by omega), I_sI, if_neg (by omega), I_sI, if_neg (by omega), I_sI, if_pos ⟨rfl, rfl⟩]
        rfl
      · exact fun j hj => ⟨by rw [(E7.2 57 j rfl).1]; exact (l.2.2 j hj).1, fun i hi => by rw [(E7.2 56 _ rfl).1]; exact (l.2.2 j hj).2 i hi⟩
      · exact RBf_e E7 ⟨rfl, fun _ => ⟨rfl, rfl⟩⟩ f
      · show eg_I (eg_sI (eg_sI (eg_sI (eg_sI (eg_sI g6 54 34 (-1)) 54 49 0) 54 65 0) 54 72 0) 54 78 0) 54 49 = _
        rw [I_sI, if_neg (by omega), I_sI, if_neg (by omega), I_sI, if_neg (by omega), I_sI, if_pos ⟨rfl, rfl⟩]
        rfl
      · show eg_I (eg_sI (eg_sI (eg_sI (eg_sI (eg_sI g6 54 34 (-1)) 54 49 0) 54 65 0) 54 72 0) 54 78 0) 54 65 = _
        rw [I_sI, if_neg (by omega), I_sI, if_neg (by omega), I_sI, if_pos ⟨rfl, rfl⟩]
        rfl
      · show eg_I (eg_sI (eg_sI (eg_sI (eg_sI (eg_sI g6 54 34 (-1)) 54 49 0) 54 65 0) 54 72 0) 54 78 0) 54 72 = _
        rw [I_sI, if_neg (by omega), I_sI, if_pos ⟨rfl, rfl⟩]
        rfl
      · exact RBh_e E7 ⟨rfl, fun _ => ⟨rfl, rfl, rfl⟩⟩ i
      · show eg_I (eg_sI (eg_sI (eg_sI (eg_sI (eg_sI g6 54 34 (-1)) 54 49 0) 54 65 0) 54 72 0) 54 78 0) 54 78 = _
        rw [I_sI, if_pos ⟨rfl, rfl⟩]
        rfl
theorem M_textL (R : RI h σ) (hN : sN σ < 4) {w : List Int32 × ((Nat → Int32) → Int32)} (hw : pLaw (tT σ) (σ.1 0) = .inr w) : ∃ h', ((eg_gI h 13 6 54).bind fun v5 =>
    (eg_pI h 13 6 54 (0 : Int32)).bind fun h7 =>
        (fX13_text_L142 eg_F h7 54 v5 (0 : Int32)).bind fun e =>
        match e with
        | (p32, v33, h34) =>
          (eg_gR h34 13 3 p32).bind fun p35 =>
          (eg_gI h34 13 7 p32).bind fun v37 =>
          (eg_wI h34 100 p35 v37 v33).bind fun h39 =>
          (eg_gI h39 13 7 p32).bind fun v41 =>
          (eg_pI h39 13 7 p32 (v41 + (1 : Int32))).bind fun h43 =>
          (eg_gI h43 13 7 p32).bind fun v45 =>
          some ((v45 - (1 : Int32)), h43)) = some (nI (sN σ), h') ∧ ROk h h' (stN σ) := by
  have hs := R.1
  have T := Tt_of R
  have h160 := T.2.1
  obtain ⟨_, W, t, v, l, f, w', m, g, i, j⟩ := R
  have v5 : eg_I h 54 6 = nI (σ.1 0) := t.1
  let g1 := eg_sI h 54 6 0
  have s1 : eg_stt g1 := hs
  have E1 : eg_eq [(54, some 6)] h g1 := eq_sI eq_rfl rfl
  have h7 : eg_I g1 54 7 = nI (sN σ) := by rw [(E1.2 54 7 rfl).1]; exact l.1
  obtain ⟨g2, e2, E2, H1, H2⟩ := M_txL s1 hN h7 h160 (t := tT σ) (fun i hi => by rw [(E1.2 55 i rfl).1]; exact T.2.2.2.2 i hi) (σ.1 0) 0 g1 eg_F (by omega) (by rw [eg_F_eq]; omega) eq_rfl (fun _ _ => rfl) (fun m hm => by omega)
  have e2' : fX13_text_L142 eg_F g1 54 (nI (σ.1 0)) 0 = some (54, nI (σ.1 0), g2) := e2
  have s2 : eg_stt g2 := eq_stt E2 s1 (by decide)
  have v7 : eg_I g2 54 7 = nI (sN σ) := by rw [(E2.2 54 7 rfl).1]; exact h7
  let g3 := eg_sI g2 57 (sN σ) (nI (σ.1 0))
  have s3 : eg_stt g3 := s2
  have v73 : eg_I g3 54 7 = nI (sN σ) := by rw [I_sI, if_neg (by omega)]; exact v7
  let g4 := eg_sI g3 54 7 (nI (sN σ + 1))
  have s4 : eg_stt g4 := s2
  have v74 : eg_I g4 54 7 = nI (sN σ + 1) := by rw [I_sI, if_pos ⟨rfl, rfl⟩]
  have hcl : (nI (sN σ)).toNatClampNeg = sN σ := nI_clamp (by omega)
  have E4 : eg_eq [(54, some 6), (56, none), (57, none), (54, some 7)] h g4 := eq_sI (eq_sI (eq_tr (cov_sub (by decide) E1) (cov_sub (by decide) E2)) rfl) rfl
  refine ⟨g4, ?_, ?_, eq_rfS E4 (by decide)⟩
  · rw [gI_54 hs, Option.bind_some, pI_54 hs, Option.bind_some, v5]
    show ((fX13_text_L142 eg_F g1 54 (nI (σ.1 0)) 0).bind _) = _
    rw [e2', Option.bind_some]
    show ((eg_gR g2 13 3 54).bind _) = _
    rw [gR_54 s2, rf_54_3 s2, Option.bind_some, gI_54 s2, Option.bind_some, v7, wI_57 s2 (nI_pos (by omega)) (by rw [hcl]; omega), hcl, Option.bind_some]
    show ((eg_gI g3 13 7 54).bind _) = _
    rw [gI_54 s3, Option.bind_some, v73, nI_1, pI_54 s3, Option.bind_some]
    show ((eg_gI g4 13 7 54).bind _) = _
    rw [gI_54 s4, Option.bind_some, v74, nI_m1]
  · have q6 : ∀ p i, ¬ p = 54 → ¬ p = 57 → eg_I g4 p i = eg_I g2 p i := fun p i hp hq => by
      show eg_I (eg_sI (eg_sI g2 57 (sN σ) (nI (σ.1 0))) 54 7 (nI (sN σ + 1))) p i = _
      rw [I_sI, if_neg (fun z => hp z.1), I_sI, if_neg (fun z => hq z.1)]
    refine RI_in s4 (W_newL W hN hw) ⟨?_, fun i hi => absurd hi (Nat.not_lt_zero i)⟩ (RV_e E4 ⟨⟨rfl, rfl⟩, fun _ => ⟨rfl, rfl, rfl⟩⟩ v) ⟨v74, ?_, fun j hj => ?_⟩ (RBf_e E4 ⟨rfl, fun _ => ⟨rfl, rfl⟩⟩ f) (RBw_e E4 ⟨rfl, fun _ => ⟨rfl, rfl, rfl⟩⟩ w') (RBm_e E4 ⟨rfl, fun _ => ⟨rfl, rfl, rfl, rfl⟩⟩ m) (RBg_e E4 ⟨rfl, fun _ => ⟨rfl, rfl, rfl⟩⟩ g) (RBh_e E4 ⟨rfl, fun _ => ⟨rfl, rfl, rfl⟩⟩ i) (RBj_e E4 ⟨rfl, fun _ => rfl⟩ j)
    · show eg_I (eg_sI (eg_sI g2 57 (sN σ) (nI (σ.1 0))) 54 7 (nI (sN σ + 1))) 54 6 = _
      rw [I_sI, if_neg (by omega), I_sI, if_neg (by omega), (E2.2 54 6 rfl).1, I_sI, if_pos ⟨rfl, rfl⟩]
      rfl
    · rw [(E4.2 54 34 rfl).1]; exact l.2.1
    · have hj : j < sN σ + 1 := hj
      have e57 : ∀ x, eg_I g4 57 x = if x = sN σ then nI (σ.1 0) else eg_I h 57 x := fun x => by
        show eg_I (eg_sI (eg_sI g2 57 (sN σ) (nI (σ.1 0))) 54 7 (nI (sN σ + 1))) 57 x = _
        rw [I_sI, if_neg (by omega), I_sI]
        by_cases c : x = sN σ
        · rw [if_pos ⟨rfl, c⟩, if_pos c]
        · rw [if_neg (fun z => c z.2), if_neg c, (E2.2 57 x rfl).1, (E1.2 57 x rfl).1]
      by_cases c : j = sN σ
      · rw [c, laT_N, laN_N W, e57, if_pos rfl]
        refine ⟨rfl, fun i hi => ?_⟩
        rw [q6 56 _ (by omega) (by omega)]
        exact H2 i hi
      · obtain ⟨z1, z2⟩ := l.2.2 j (by omega)
        have z3 := (W.2.2.1.2.2 j (by omega)).1
        rw [(laT_o (by omega)).1, (laT_o (by omega)).2, e57, if_neg c]
        refine ⟨z1, fun i hi => ?_⟩
        rw [q6 56 _ (by omega) (by omega), H1 _ (by omega), (E1.2 56 _ rfl).1]
        exact z2 i hi
theorem M_textF (R : RI h σ) (hN : sF σ < 4) (h3 : eg_I h 54 33 = nI (fc (tT σ) (σ.1 0))) (h66 : ∀ i, i < fc (tT σ) (σ.1 0) → eg_I h 66 i = fr (tT σ) (σ.1 0) i) : ∃ h', ((eg_gI h 13 6 54).bind fun v5 =>
    (eg_pI h 13 6 54 (0 : Int32)).bind fun h7 =>
      (fX13_text_L71 eg_F h7 54 (0 : Int32)).bind fun e =>
      match e with
      | (p12, h13) =>
        (eg_gR h13 13 31 p12).bind fun p14 =>
        (eg_gI h13 13 32 p12).bind fun v16 =>
        (eg_gI h13 13 33 p12).bind fun v18 =>
        (eg_wI h13 100 p14 v16 v18).bind fun h20 =>
        (eg_gI h20 13 32 p12).bind fun v22 =>
        (eg_pI h20 13 32 p12 (v22 + (1 : Int32))).bind fun h24 =>
        (eg_gI h24 13 32 p12).bind fun v26 =>
        some ((v26 - (1 : Int32)), h24)) = some (nI (sF σ), h') ∧ ROk h h' (stF σ) := by
  have hs := R.1
  have hc := fc_le (tT σ) (σ.1 0)
  obtain ⟨_, W, t, v, l, f, w', m, g, i, j⟩ := R
  have v5 : eg_I h 54 6 = nI (σ.1 0) := t.1
  let g1 := eg_sI h 54 6 0
  have s1 : eg_stt g1 := hs
  have E1 : eg_eq [(54, some 6)] h g1 := eq_sI eq_rfl rfl
  have h7 : eg_I g1 54 32 = nI (sF σ) := by rw [(E1.2 54 32 rfl).1]; exact f.1
  have h31 : eg_I g1 54 33 = nI (fc (tT σ) (σ.1 0)) := by rw [(E1.2 54 33 rfl).1]; exact h3
  obtain ⟨g2, e2, E2, H1, H2⟩ := M_txF s1 hN h7 hc h31 (fc (tT σ) (σ.1 0)) 0 g1 eg_F (by omega) (by rw [eg_F_eq]; omega) eq_rfl (fun _ _ => rfl) (fun m hm => by omega)
  have e2' : fX13_text_L71 eg_F g1 54 0 = some (54, g2) := e2
  have s2 : eg_stt g2 := eq_stt E2 s1 (by decide)
  have v7 : eg_I g2 54 32 = nI (sF σ) := by rw [(E2.2 54 32 rfl).1]; exact h7
  have v33 : eg_I g2 54 33 = nI (fc (tT σ) (σ.1 0)) := by rw [(E2.2 54 33 rfl).1]; exact h31
  let g3 := eg_sI g2 67 (sF σ) (nI (fc (tT σ) (σ.1 0)))
  have s3 : eg_stt g3 := s2
  have v73 : eg_I g3 54 32 = nI (sF σ) := by rw [I_sI, if_neg (by omega)]; exact v7
  let g4 := eg_sI g3 54 32 (nI (sF σ + 1))
  have s4 : eg_stt g4 := s2
  have v74 : eg_I g4 54 32 = nI (sF σ + 1) := by rw [I_sI, if_pos ⟨rfl, rfl⟩]
  have hcl : (nI (sF σ)).toNatClampNeg = sF σ := nI_clamp (by omega)
  have E4 : eg_eq [(54, some 6), (65, none), (67, none), (54, some 32)] h g4 := eq_sI (eq_sI (eq_tr (cov_sub (by decide) E1) (cov_sub (by decide) E2)) rfl) rfl
  refine ⟨g4, ?_, ?_, eq_rfS E4 (by decide)⟩
  · rw [gI_54 hs, Option.bind_some, pI_54 hs, Option.bind_some]
    show ((fX13_text_L71 eg_F g1 54 0).bind _) = _
    rw [e2', Option.bind_some]
    show ((eg_gR g2 13 31 54).bind _) = _
    rw [gR_54 s2, rf_54_31 s2, Option.bind_some, gI_54 s2, Option.bind_some, v7, gI_54 s2, Option.bind_some, v33, wI_67 s2 (nI_pos (by omega)) (by rw [hcl]; omega), hcl, Option.bind_some]
    show ((eg_gI g3 13 32 54).bind _) = _
    rw [gI_54 s3, Option.bind_some, v73, nI_1, pI_54 s3, Option.bind_some]
    show ((eg_gI g4 13 32 54).bind _) = _
    rw [gI_54 s4, Option.bind_some, v74, nI_m1]
  · have q6 : ∀ p i, ¬ p = 54 → ¬ p = 67 → eg_I g4 p i = eg_I g2 p i := fun p i hp hq => by
      show eg_I (eg_sI (eg_sI g2 67 (sF σ) (nI (fc (tT σ) (σ.1 0)))) 54 32 (nI (sF σ + 1))) p i = _
      rw [I_sI, if_neg (fun z => hp z.1), I_sI, if_neg (fun z => hq z.1)]
    refine RI_in s4 (W_newF W hN) ⟨?_, fun i hi => absurd hi (Nat.not_lt_zero i)⟩ (RV_e E4 ⟨⟨rfl, rfl⟩, fun _ => ⟨rfl, rfl, rfl⟩⟩ v) (RBl_e E4 ⟨⟨rfl, rfl⟩, fun _ => ⟨rfl, rfl⟩⟩ l) ⟨v74, fun j hj => ?_⟩ (RBw_e E4 ⟨rfl, fun _ => ⟨rfl, rfl, rfl⟩⟩ w') (RBm_e E4 ⟨rfl, fun _ => ⟨rfl, rfl, rfl, rfl⟩⟩ m) (RBg_e E4 ⟨rfl, fun _ => ⟨rfl, rfl, rfl⟩⟩ g) (RBh_e E4 ⟨rfl, fun _ => ⟨rfl, rfl, rfl⟩⟩ i) (RBj_e E4 ⟨rfl, fun _ => rfl⟩ j)
    · show eg_I (eg_sI (eg_sI g2 67 (sF σ) (nI (fc (tT σ) (σ.1 0)))) 54 32 (nI (sF σ + 1))) 54 6 = _
      rw [I_sI, if_neg (by omega), I_sI, if_neg (by omega), (E2.2 54 6 rfl).1, I_sI, if_pos ⟨rfl, rfl⟩]
      rfl
    · have hj : j < sF σ + 1 := hj
      have e57 : ∀ x, eg_I g4 67 x = if x = sF σ then nI (fc (tT σ) (σ.1 0)) else eg_I h 67 x := fun x => by
        show eg_I (eg_sI (eg_sI g2 67 (sF σ) (nI (fc (tT σ) (σ.1 0)))) 54 32 (nI (sF σ + 1))) 67 x = _
        rw [I_sI, if_neg (by omega), I_sI]
        by_cases c : x = sF σ
        · rw [if_pos ⟨rfl, c⟩, if_pos c]
        · rw [if_neg (fun z => c z.2), if_neg c, (E2.2 67 x rfl).1, (E1.2 67 x rfl).1]
      by_cases c : j = sF σ
      · rw [c, fl_N.1, e57, if_pos rfl]
        refine ⟨rfl, fun i hi => ?_⟩
        rw [q6 65 _ (by omega) (by omega), H2 i hi, (E1.2 66 _ rfl).1, h66 i hi, fl_N.2 i (by omega)]
      · obtain ⟨z1, z2⟩ := f.2 j (by omega)
        have z3 := (W.2.2.2.1.2 j (by omega)).1
        rw [(fl_o (by omega)).1, e57, if_neg c]
        refine ⟨z1, fun i hi => ?_⟩
        rw [q6 65 _ (by omega) (by omega), H1 _ (by omega), (E1.2 65 _ rfl).1, (fl_o (by omega)).2 i (by omega)]
        exact z2 i hi
theorem M_text (R : RI h σ) (s : Int32) : ∃ h', fX13_text h 54 s = some (aText σ s, h') ∧ ROk h h' (sText σ s) := by
  obtain ⟨R0, Q0⟩ := R_0 R
  have hs := R.1
  have s0 := R0.1
  have h160 := R.2.1.1.1
  have hN := R.2.1.2.2.1.1
  have hF := R.2.1.2.2.2.1.1
  unfold fX13_text aText sText
  rw [if_pos (iO_54 hs), pI_54 hs, Option.bind_some]
  show ∃ h', ((fX13_isIn (eg_sI h 54 0 0) s.toInt64 0 2).bind _) = _ ∧ _
  rw [M_GI (lo := 0) (hi := 2) _ s (by omega) (by omega) 0 2 rfl rfl, Option.bind_some]
  dsimp only
  rw [g01]
  by_cases c : GI (nI 0) (nI 2) s
  rotate_left
  · have n0 : ¬ s = 0 := fun z => c (by rw [z]; decide)
    have n1 : ¬ s = 1 := fun z => c (by rw [z]; decide)
    have n2 : ¬ s = 2 := fun z => c (by rw [z]; decide)
    rw [if_neg c, if_neg n0, if_neg n1, if_neg n2, if_neg n0, if_neg n1, if_neg n2]
    exact ⟨_, rfl, ROk_scr R Q0⟩
  rw [if_pos c]
  obtain ⟨k, _, k2, rfl⟩ := GI_n (by omega) (by omega) c
  unfold fX13_text_j30 fX13_text_j43
  have tr : ∀ {h1 h2 σ'}, eg_eq Rx (eg_sI h 54 0 0) h1 → ROk h1 h2 σ' → ROk h h2 σ' := fun E r => ⟨r.1, rf_tr (eq_rf (eq_tr Q0 E)) r.2⟩
  rcases (by omega : k = 0 ∨ k = 1 ∨ k = 2) with rfl | rfl | rfl
  · obtain ⟨h1, e1, E1, d1, _⟩ := M_faultF R0 (nI 0)
    obtain ⟨V, ag, M1⟩ := d1 rfl
    have R1 := RI_scr R0 E1
    rw [if_neg (show ¬ nI 0 = 1 by decide), if_neg (show ¬ nI 0 = 2 by decide), e1, Option.bind_some]
    dsimp only
    rw [if_pos (show nI 0 = 0 by decide), if_pos (show nI 0 = 0 by decide), show aFault σ (nI 0) = mdA (rMd σ) from if_pos rfl]
    simp only [if_neg (show ¬ nI 0 = 2 by decide), if_neg (show ¬ nI 0 = 1 by decide)]
    cases hr : rMd σ with
    | inl e =>
      have no := mdA_no h160 hr
      rw [hr] at no
      rw [if_neg no]
      exact ⟨h1, rfl, ROk_scr R (eq_tr Q0 E1)⟩
    | inr q =>
      rw [if_pos (show mdA (.inr q) = -1 from rfl)]
      obtain ⟨h2, e2, r2⟩ := M_textM R1 hr ag M1
      exact ⟨h2, e2, tr E1 r2⟩
  · rw [if_pos (show nI 1 = 1 by decide), gI_54 s0, Option.bind_some, R0.2.2.2.2.1.1, if_neg (show ¬ nI 1 = 0 by decide), if_pos (show nI 1 = 1 by decide), if_neg (show ¬ nI 1 = 0 by decide), if_pos (show nI 1 = 1 by decide)]
    by_cases c4 : sN σ < 4
    rotate_left
    · have gg : ¬ (sN σ < 4 ∧ lwA (pLaw (tT σ) (σ.1 0)) = -1) := fun z => c4 z.1
      rw [if_pos (show nI (sN σ) = 4 by rw [show sN σ = 4 by omega]; rfl), if_neg gg, if_neg gg]
      exact ⟨_, rfl, ROk_scr R Q0⟩
    obtain ⟨h1, e1, E1, _⟩ := M_faultF R0 (nI 1)
    have R1 := RI_scr R0 E1
    rw [if_neg (show ¬ nI (sN σ) = 4 from fun z => by have z' : nI (sN σ) = nI 4 := z; have q := congrArg dN z'; rw [dN_n (by omega), dN_n (by omega)] at q; omega), if_neg (show ¬ nI 1 = 2 by decide), e1, Option.bind_some]
    dsimp only
    rw [show aFault σ (nI 1) = lwA (pLaw (tT σ) (σ.1 0)) from rfl]
    simp only [if_neg (show ¬ nI 1 = 2 by decide), if_pos (show nI 1 = 1 by decide)]
    cases hr : pLaw (tT σ) (σ.1 0) with
    | inl e =>
      have no := lwA_no h160 hr
      rw [hr] at no
      have gg : ¬ (sN σ < 4 ∧ lwA (.inl e) = -1) := fun z => no z.2
      rw [if_neg no, if_neg gg, if_neg gg]
      exact ⟨h1, rfl, ROk_scr R (eq_tr Q0 E1)⟩
    | inr q =>
      rw [if_pos (show lwA (.inr q) = -1 from rfl), if_pos ⟨c4, rfl⟩, if_pos ⟨c4, rfl⟩]
      obtain ⟨h2, e2, r2⟩ := M_textL R1 c4 hr
      exact ⟨h2, e2, tr E1 r2⟩
  · rw [if_neg (show ¬ nI 2 = 1 by decide), if_pos (show nI 2 = 2 by decide), gI_54 s0, Option.bind_some, R0.2.2.2.2.2.1.1, if_neg (show ¬ nI 2 = 0 by decide), if_neg (show ¬ nI 2 = 1 by decide), if_pos (show nI 2 = 2 by decide), if_neg (show ¬ nI 2 = 0 by decide), if_neg (show ¬ nI 2 = 1 by decide), if_pos (show nI 2 = 2 by decide)]
    by_cases c4 : sF σ < 4
    rotate_left
    · have gg : ¬ (sF σ < 4 ∧ flm (tT σ) (σ.1 0) = -1) := fun z => c4 z.1
      rw [if_pos (show nI (sF σ) = 4 by rw [show sF σ = 4 by omega]; rfl), if_neg gg, if_neg gg]
      exact ⟨_, rfl, ROk_scr R Q0⟩
    obtain ⟨h1, e1, E1, _, d1⟩ := M_faultF R0 (nI 2)
    obtain ⟨z1, z2⟩ := d1 rfl
    have R1 := RI_scr R0 E1
    rw [if_neg (show ¬ nI (sF σ) = 4 from fun z => by have z' : nI (sF σ) = nI 4 := z; have q := congrArg dN z'; rw [dN_n (by omega), dN_n (by omega)] at q; omega), e1, Option.bind_some]
    dsimp only
    rw [show aFault σ (nI 2) = flm (tT σ) (σ.1 0) from rfl]
    simp only [if_pos (show nI 2 = 2 by decide)]
    by_cases c5 : flm (tT σ) (σ.1 0) = -1
    rotate_left
    · have gg : ¬ (sF σ < 4 ∧ flm (tT σ) (σ.1 0) = -1) := fun z => c5 z.2
      rw [if_neg c5, if_neg gg, if_neg gg]
      exact ⟨h1, rfl, ROk_scr R (eq_tr Q0 E1)⟩
    rw [if_pos c5, if_pos ⟨c4, c5⟩, if_pos ⟨c4, c5⟩]
    obtain ⟨h2, e2, r2⟩ := M_textF R1 c4 z1 z2
    exact ⟨h2, e2, tr E1 r2⟩
end MU
