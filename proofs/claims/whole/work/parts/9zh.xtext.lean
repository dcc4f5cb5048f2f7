section XW
variable {h h' : eg_H} {σ : eg_S} {B : Nat × Nat}
def bRm (B : Nat × Nat) (σ : eg_S) : Nat × Nat := (B.1 + 4 * sN σ + 2 * sF σ, B.2 + 300 * sN σ + 300 * sF σ)
theorem XK_grow {U : Nat → Nat} {lw : eg_LW} {era a b : Nat} {B' : Nat × Nat} (K : XK h U lw era B) (hk : ∀ p, p < eg_nc h → eg_kd h' p = eg_kd h p) (hc : ∀ p i, p = 38 ∨ p = 39 ∨ (95 ≤ p ∧ p < eg_nc h) → eg_I h' p i = eg_I h p i ∧ eg_P h' p i = eg_P h p i) (hn : eg_nc h' = eg_nc h + a) (hm : eg_ns h' = eg_ns h + b) (h1 : B.1 + a ≤ B'.1) (h2 : B.2 + b ≤ B'.2) : XK h' U lw era B' := by
  obtain ⟨k1, k2, k3, k4, k5, k6⟩ := K
  have e39 : ∀ s, eg_P h' 39 s = eg_P h 39 s := fun s => (hc 39 s (by omega)).2
  refine ⟨by rw [(hc 38 3 (by omega)).1]; exact k1, k2, fun s hs p hp => ?_, fun s s' p hs hs' hp hp' => k4 s s' p hs hs' (by rw [← e39]; exact hp) (by rw [← e39]; exact hp'), ?_, ?_⟩
  · rw [e39] at hp
    have k := k3 s hs p hp
    obtain ⟨n1, n2, n3, n4⟩ := k.1
    have hlt : p + 1 < eg_nc h := eg_kd_lt n3 (by omega)
    exact KS_of k ⟨hk p (by omega), hk (p + 1) hlt⟩ (hc p 0 (by omega)).2 (hc p 1 (by omega)).1 (fun y => (hc (p + 1) y (by omega)).1)
  · rw [fre_eq e39, hn]; omega
  · rw [fre_eq e39, hm]; omega
theorem kd_cp {p n : Nat} : eg_kd (eg_cp h p n) (eg_nc h) = (100, n) ∧ ∀ r, r < eg_nc h → eg_kd (eg_cp h p n) r = eg_kd h r := ⟨eg_kd_new h 100 n, fun r hr => eg_kd_new_old (h := h) (k := 100) (n := n) hr⟩
theorem ext_cp (p n : Nat) : eg_ext h (eg_cp h p n) := by
  refine ⟨⟨[(100, n)], rfl⟩, fun r i hr => ?_⟩
  have hne : ¬ r = h.1.length := by unfold eg_nc at hr; omega
  refine ⟨?_, ?_, ?_⟩
  · show (if r = h.1.length then _ else h.2.1 r) i = _
    rw [if_neg hne]; rfl
  · show (if r = h.1.length then _ else h.2.2.1 r) i = _
    rw [if_neg hne]; rfl
  · show (if r = h.1.length then _ else h.2.2.2 r) i = _
    rw [if_neg hne]; rfl
theorem I_cp (p n : Nat) {j : Nat} (hj : j < n) (h2 : j < (eg_kd h p).2) : eg_I (eg_cp h p n) (eg_nc h) j = eg_I h p j := by
  show (if eg_nc h = h.1.length then (fun j => if j < n ∧ j < (eg_kd h p).2 then h.2.1 p j else 0) else h.2.1 (eg_nc h)) j = _
  rw [if_pos (show eg_nc h = h.1.length from rfl)]
  show (if j < n ∧ j < (eg_kd h p).2 then h.2.1 p j else 0) = _
  rw [if_pos ⟨hj, h2⟩]
  rfl
theorem X_made (hs : eg_stt h) {C : List Int32} (L : LR h C) : ∃ h', fX6_made h 21 = some (eg_nc h, h') ∧ eg_ext h h' ∧ Lw h' (eg_nc h) C ∧ eg_nc h' = eg_nc h + 4 ∧ eg_ns h' = eg_ns h + (eg_nf 5 + 45 + C.length) := by
  obtain ⟨l1, l2, l3⟩ := L
  have h9 := hs.1
  generalize hk : eg_nc h = k at *
  let g1 := eg_new h 5 (eg_nf 5)
  let g2 := eg_new g1 100 40
  let g3 := eg_sP g2 k 1 (some (k + 1))
  let g4 := eg_new g3 100 5
  let g5 := eg_sP g4 k 2 (some (k + 2))
  let g6 := eg_cp g5 22 C.length
  let g7 := eg_sP g6 k 0 (some (k + 3))
  have nc1 : eg_nc g1 = k + 1 := by show eg_nc (eg_new h 5 _) = _; rw [eg_nc_new, hk]
  have nc2 : eg_nc g2 = k + 2 := by show eg_nc (eg_new g1 100 40) = _; rw [eg_nc_new, nc1]
  have nc3 : eg_nc g3 = k + 2 := nc2
  have nc4 : eg_nc g4 = k + 3 := by show eg_nc (eg_new g3 100 5) = _; rw [eg_nc_new, nc3]
  have nc5 : eg_nc g5 = k + 3 := nc4
  have nc6 : eg_nc g6 = k + 4 := by show eg_nc (eg_new g5 100 C.length) = _; rw [eg_nc_new, nc5]
  have x1 : eg_ext h g1 := ext_new h _ _
  have x2 : eg_ext h g2 := ext_tr x1 (ext_new g1 _ _)
  have x3 : eg_ext h g3 := ext_sP x2 (by omega)
  have x4 : eg_ext h g4 := ext_tr x3 (ext_new g3 _ _)
  have x5 : eg_ext h g5 := ext_sP x4 (by omega)
  have x56 : eg_ext g5 g6 := ext_cp 22 C.length
  have x6 : eg_ext h g6 := ext_tr x5 x56
  have x7 : eg_ext h g7 := ext_sP x6 (by omega)
  have st1 : eg_stt g1 := gr_stt (ext_gr x1 (by omega)) hs (by decide)
  have st5 : eg_stt g5 := gr_stt (ext_gr x5 (by omega)) hs (by decide)
  have kd1 : eg_kd g1 k = (5, eg_nf 5) := by rw [← hk]; exact eg_kd_new h _ _
  have kd2 : eg_kd g2 k = (5, eg_nf 5) := by
    show eg_kd (eg_new g1 100 40) k = _
    rw [eg_kd_new_old (by omega)]; exact kd1
  have kd21 : eg_kd g2 (k + 1) = (100, 40) := by
    show eg_kd (eg_new g1 100 40) (k + 1) = _
    rw [← nc1]; exact eg_kd_new g1 _ _
  have kd4 : eg_kd g4 k = (5, eg_nf 5) := by
    show eg_kd (eg_new g3 100 5) k = _
    rw [eg_kd_new_old (by omega)]; exact kd2
  have kd41 : eg_kd g4 (k + 1) = (100, 40) := by
    show eg_kd (eg_new g3 100 5) (k + 1) = _
    rw [eg_kd_new_old (by omega)]; exact kd21
  have kd42 : eg_kd g4 (k + 2) = (100, 5) := by
    show eg_kd (eg_new g3 100 5) (k + 2) = _
    rw [← nc3]; exact eg_kd_new g3 _ _
  have kd6 : ∀ r, r < k + 3 → eg_kd g6 r = eg_kd g4 r := fun r hr => kd_cp.2 r (by omega)
  have kd63 : eg_kd g6 (k + 3) = (100, C.length) := by rw [← nc5]; exact kd_cp.1
  have O2 : eg_isO g2 5 k := ⟨by omega, kd2⟩
  have O4 : eg_isO g4 5 k := ⟨by omega, kd4⟩
  have O6 : eg_isO g6 5 k := ⟨by omega, by rw [kd6 k (by omega)]; exact kd4⟩
  have k22 : eg_kd g5 22 = (100, 160) := kd_22 st5
  have hcl : (nI C.length).toNatClampNeg = C.length := nI_clamp (by omega)
  have ec : fJ7_copyOf_59c91 g5 22 (nI C.length) = some (k + 3, g6) := by
    unfold fJ7_copyOf_59c91
    rw [if_pos ⟨by omega, by rw [k22], nI_pos (by omega), by rw [hcl]; omega, by rw [k22]; exact Nat.le_of_ble_eq_true rfl⟩, hcl, nc5]
  have v21 : eg_I g1 21 2 = nI C.length := by rw [(x1.2 21 2 (by omega)).1]; exact l2
  have P5 : ∀ i, eg_P g7 k i = if i = 0 then some (k + 3) else eg_P g5 k i := fun i => by
    show eg_P (eg_sP g6 k 0 (some (k + 3))) k i = _
    rw [P_sP]
    by_cases c : i = 0
    · rw [if_pos ⟨rfl, c⟩, if_pos c]
    · rw [if_neg (fun z => c z.2), if_neg c, (x56.2 k i (by omega)).2.2]
  refine ⟨g7, ?_, x7, ⟨by omega, l1, ?_, ?_, ?_, kd63, ?_, ?_, ?_, fun m hm => ?_⟩, nc6, ?_⟩
  · unfold fX6_made fX5_init
    rw [if_pos (iO_21 hs), hk, Option.bind_some]
    show ((eg_gR g1 6 1 21).bind _) = _
    rw [gR_21 st1, rf_21_1 st1, Option.bind_some, gI_21 st1, Option.bind_some, v21]
    have na1 : eg_na g1 100 40 = some g2 := if_pos (by decide)
    have na2 : eg_na g3 100 5 = some g4 := if_pos (by decide)
    rw [na1, Option.bind_some, Option.bind_some, nc1, show eg_pP g2 5 1 k (some (k + 1)) = some g3 from if_pos O2, Option.bind_some, na2, Option.bind_some, Option.bind_some, nc3, show eg_pP g4 5 2 k (some (k + 2)) = some g5 from if_pos O4, Option.bind_some, if_neg (nI_pos (by omega)), al_22 st5, Option.bind_some, if_pos (nI_le l1 (by omega)), ec, Option.bind_some]
    dsimp only
    rw [show eg_pP g6 5 0 k (some (k + 3)) = some g7 from if_pos O6, Option.bind_some, Option.bind_some]
  · show eg_kd g6 k = _
    rw [kd6 k (by omega)]; exact kd4
  · show eg_kd g6 (k + 1) = _
    rw [kd6 _ (by omega)]; exact kd41
  · show eg_kd g6 (k + 2) = _
    rw [kd6 _ (by omega)]; exact kd42
  · rw [P5, if_pos rfl]
  · rw [P5, if_neg (by omega)]
    show eg_P (eg_sP g4 k 2 (some (k + 2))) k 1 = _
    rw [P_sP, if_neg (by omega), (new_at g3 100 5 (by omega)).2.2]
    show eg_P (eg_sP g2 k 1 (some (k + 1))) k 1 = _
    rw [P_sP, if_pos ⟨rfl, rfl⟩]
  · rw [P5, if_neg (by omega)]
    show eg_P (eg_sP g4 k 2 (some (k + 2))) k 2 = _
    rw [P_sP, if_pos ⟨rfl, rfl⟩]
  · show eg_I g6 (k + 3) m = _
    rw [← nc5, I_cp 22 C.length hm (by rw [k22]; show m < 160; omega), (x5.2 22 m (by omega)).1]
    exact l3 m hm
  · show eg_ns (eg_new g5 100 C.length) = _
    rw [eg_ns_new]
    show eg_ns (eg_new g3 100 5) + _ = _
    rw [eg_ns_new]
    show eg_ns (eg_new g1 100 40) + _ + _ = _
    rw [eg_ns_new]
    show eg_ns (eg_new h 5 (eg_nf 5)) + _ + _ + _ = _
    rw [eg_ns_new]
    omega
theorem X_textL (X : XI h σ (bRm B σ)) (hN : sN σ < 4) {w : List Int32 × ((Nat → Int32) → Int32)} (hw : pLaw (tT σ) (σ.1 0) = .inr w) : ∃ h', fX12_text h 16 1 = some (nI (sN σ), h') ∧ XOk h h' (stN σ) (bRm B (stN σ)) := by
  have hs0 := X.2.2.1.1
  obtain ⟨g, a, q, ww, e1, E1, o1⟩ := X_lawRead (Tp_of X)
  rw [hw] at e1 o1
  have O := XOk_low X (eq_tr (cov_sub (S' := [(21, some 2), (22, none), (17, some 2), (17, some 3), (17, some 4)]) (by decide) E1) (cov_sub (by decide) (fin_S g a q ww))) (by decide) (by decide) ⟨rfl, rfl, rfl, rfl, fun _ => ⟨rfl, rfl⟩⟩ (by decide)
  generalize hh1 : fin g a q ww = h1 at e1 O
  have L1 : LR h1 w.1 := by
    rw [← hh1]
    exact o1
  obtain ⟨X1, gc1⟩ := O
  have s1 := X1.2.2.1.1
  have h95 := s1.1
  obtain ⟨g2, e2, x2, Lw2, nc2, ns2⟩ := X_made s1 L1
  have G2 := ext_gr x2 h95
  have s2 : eg_stt g2 := gr_stt G2 s1 (by decide)
  obtain ⟨W, t, C, lb, f, ⟨k1, k2, k3, k4⟩, j⟩ := X1
  have C0 : XC h1 (sU σ) (sP σ) (sE σ) (sL σ) (eg_P h1 36 2) (σ.1 11) (bRm B σ) := C
  have hcl : (nI (sN σ)).toNatClampNeg = sN σ := nI_clamp (by omega)
  have v5 : eg_I h1 16 5 = nI (sN σ) := lb.1
  have v52 : eg_I g2 16 5 = nI (sN σ) := by rw [(x2.2 16 5 (by omega)).1]; exact v5
  let g3 := eg_sP g2 25 (sN σ) (some (eg_nc h1))
  have E3 : eg_eq [(25, none)] g2 g3 := eq_sP eq_rfl rfl
  have s3 : eg_stt g3 := eq_stt E3 s2 (by decide)
  let g4 := eg_sI g3 16 5 (nI (sN σ + 1))
  have s4 : eg_stt g4 := s3
  let g5 := eg_sI g4 17 1 0
  have s5 : eg_stt g5 := s3
  have E5 : eg_eq [(25, none), (16, some 5), (17, some 1)] g2 g5 := eq_sI (eq_sI (cov_sub (by decide) E3) rfl) rfl
  have G5 : eg_gr [(25, none), (16, some 5), (17, some 1)] h1 g5 := gr_tr (gr_mono G2 (fun _ _ _ _ => rfl)) (gr_eq E5 (by decide))
  have v53 : eg_I g3 16 5 = nI (sN σ) := v52
  have v54 : eg_I g4 16 5 = nI (sN σ + 1) := by rw [I_sI, if_pos ⟨rfl, rfl⟩]
  have P25 : ∀ x, eg_P g5 25 x = if x = sN σ then some (eg_nc h1) else eg_P h1 25 x := fun x => by
    show eg_P (eg_sP g2 25 (sN σ) (some (eg_nc h1))) 25 x = _
    rw [P_sP]
    by_cases c : x = sN σ
    · rw [if_pos ⟨rfl, c⟩, if_pos c]
    · rw [if_neg (fun z => c z.2), if_neg c, (x2.2 25 x (by omega)).2.2]
  have p36 : eg_P g5 36 2 = eg_P h1 36 2 := (G5.2.1 36 2 (by omega) rfl).2.2
  have C5 : XC g5 (sU σ) (sP σ) (sE σ) (sL (stN σ)) (eg_P g5 36 2) (σ.1 11) (bRm B (stN σ)) := by
    refine ⟨s5, XV_eq C0.2.1 G5 ⟨rfl, rfl, fun _ => rfl⟩, rfl, ?_, ?_⟩
    · rw [p36, sL_N W]; exact gr_XL G5 C0.2.2.2.1
    · rw [sL_N W]
      refine XK_grow (a := 4) (b := eg_nf 5 + 45 + w.1.length) C0.2.2.2.2 (fun p hp => ?_) (fun p i hp => ?_) ?_ ?_ ?_ ?_
      · rw [eq_kd E5]; exact ext_kd x2 hp
      · have z : p < eg_nc h1 := by omega
        have c : eg_cov [(25, none), (16, some 5), (17, some 1)] p i = false := by
          rcases (by omega : p = 38 ∨ p = 39 ∨ 95 ≤ p) with rfl | rfl | z9
          · rfl
          · rfl
          · exact cov_95 (by decide) p i z9
        exact ⟨(E5.2 p i c).1.trans (x2.2 p i z).1, (E5.2 p i c).2.2.trans (x2.2 p i z).2.2⟩
      · rw [eq_nc E5]; exact nc2
      · rw [eq_ns E5]; exact ns2
      · show B.1 + 4 * sN σ + 2 * sF σ + 4 ≤ B.1 + 4 * (sN σ + 1) + 2 * sF σ
        omega
      · show B.2 + 300 * sN σ + 300 * sF σ + _ ≤ B.2 + 300 * (sN σ + 1) + 300 * sF σ
        have := L1.1
        have : eg_nf 5 ≤ 50 := by decide
        omega
  refine ⟨g5, ?_, XI_in (W_newL W hN hw) ⟨?_, fun i hi => absurd hi (Nat.not_lt_zero i)⟩ C5 ⟨v54, ?_, fun m hm => ?_, ?_⟩ (XBf_g G5 ⟨rfl, fun _ => rfl⟩ f) (Bk_g G5 (by omega) ⟨⟨rfl, rfl⟩, fun _ => rfl⟩ k1) (Bk_g G5 (by omega) ⟨⟨rfl, rfl⟩, fun _ => rfl⟩ k2) (Bk_g G5 (by omega) ⟨⟨rfl, rfl⟩, fun _ => rfl⟩ k3) (Bk_g G5 (by omega) ⟨⟨rfl, rfl⟩, fun _ => rfl⟩ k4) (XBj_g G5 ⟨rfl, fun _ => rfl⟩ j), gc_tr gc1 (gc_g G5 (by decide))⟩
  · unfold fX12_text fX12_takeLaw
    have v50 : eg_I h 16 5 = nI (sN σ) := X.2.2.2.1.1
    have O2 : eg_isO g2 5 (eg_nc h1) := ⟨Lw2.1, Lw2.2.2.1⟩
    have eW : eg_wR g2 5 25 (nI (sN σ)) (eg_nc h1) = some g3 := by
      unfold eg_wR
      rw [if_pos ⟨iA_25 s2 (nI_pos (by omega)) (by rw [hcl]; omega), O2⟩, hcl]
    rw [if_pos (iO_16 hs0), if_neg (by decide), if_pos rfl, if_pos (iO_16 hs0), gI_16 hs0, Option.bind_some, v50, gR_16 hs0, rf_16_4 hs0, Option.bind_some, al_25 hs0, Option.bind_some, if_neg (nI_ge hN (by omega)), gR_16 hs0, rf_16_2 hs0, Option.bind_some, e1, Option.bind_some]
    dsimp only
    rw [if_pos (show lwA (.inr w) = -1 from rfl), gR_16 s1, rf_16_4 s1, Option.bind_some, gI_16 s1, Option.bind_some, v5, gR_16 s1, rf_16_2 s1, Option.bind_some, e2, Option.bind_some]
    dsimp only
    rw [eW, Option.bind_some, gI_16 s3, Option.bind_some, v53, nI_1, pI_16 s3, Option.bind_some]
    show (((eg_gI g4 12 5 16).bind _).bind _) = _
    rw [gI_16 s4, Option.bind_some, v54, nI_m1, Option.bind_some]
    dsimp only
    rw [if_neg (nI_nm1 (by omega)), gR_16 s4, rf_16_0 s4, Option.bind_some]
    unfold fX10_cut
    rw [if_pos (iO_17 s4), pI_17 s4, Option.bind_some, Option.bind_some]
  · show eg_I (eg_sI g4 17 1 0) 17 1 = _
    rw [I_sI, if_pos ⟨rfl, rfl⟩]; rfl
  · rw [(G5.2.1 16 6 (by omega) rfl).1]; exact lb.2.1
  · have hm : m < sN σ + 1 := hm
    rw [P25]
    by_cases c : m = sN σ
    · rw [c, if_pos rfl, laT_N, laN_N W]
      exact ⟨eg_nc h1, w, rfl, h95, hw, (gr_eq E5 (by decide)).2.2.1 _ _ h95 Lw2⟩
    · rw [if_neg c, (laT_o (by omega)).1, (laT_o (by omega)).2]
      obtain ⟨p, w', x1, x2, x3, x4⟩ := lb.2.2.1 m (by omega)
      exact ⟨p, w', x1, x2, x3, G5.2.2.1 p w'.1 x2 x4⟩
  · have h4 := W.2.2.1.2.1
    rw [p36, P25]
    show eg_P h1 36 2 = if σ.1 4 = 0 then none else if σ.1 4 - 1 = sN σ then some (eg_nc h1) else eg_P h1 25 (σ.1 4 - 1)
    rw [lb.2.2.2]
    by_cases c : σ.1 4 = 0
    · rw [if_pos c, if_pos c]
    · rw [if_neg c, if_neg c, if_neg (by omega)]
theorem X_textL_no (X : XI h σ B) (hn : ¬ (sN σ < 4 ∧ lwA (pLaw (tT σ) (σ.1 0)) = -1)) : ∃ h', fX12_text h 16 1 = some (-1, h') ∧ XOk h h' σ B := by
  have hs0 := X.2.2.1.1
  have hN := X.1.2.2.1.1
  have v50 : eg_I h 16 5 = nI (sN σ) := X.2.2.2.1.1
  unfold fX12_text fX12_takeLaw
  rw [if_pos (iO_16 hs0), if_neg (by decide), if_pos rfl, if_pos (iO_16 hs0), gI_16 hs0, Option.bind_some, v50, gR_16 hs0, rf_16_4 hs0, Option.bind_some, al_25 hs0, Option.bind_some]
  by_cases c4 : sN σ < 4
  rotate_left
  · rw [if_pos (nI_le (by omega) (by omega)), Option.bind_some]
    dsimp only
    rw [if_pos rfl]
    exact ⟨h, rfl, XOk_rfl X⟩
  obtain ⟨g, a, q, ww, e1, E1, o1⟩ := X_lawRead (Tp_of X)
  have O := XOk_low X (eq_tr (cov_sub (S' := [(21, some 2), (22, none), (17, some 2), (17, some 3), (17, some 4)]) (by decide) E1) (cov_sub (by decide) (fin_S g a q ww))) (by decide) (by decide) ⟨rfl, rfl, rfl, rfl, fun _ => ⟨rfl, rfl⟩⟩ (by decide)
  rw [if_neg (nI_ge c4 (by omega)), gR_16 hs0, rf_16_2 hs0, Option.bind_some, e1, Option.bind_some]
  dsimp only
  rw [if_neg (fun z => hn ⟨c4, z⟩), Option.bind_some]
  dsimp only
  rw [if_pos rfl]
  exact ⟨_, rfl, O⟩
end XW
