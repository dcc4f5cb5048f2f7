theorem flm_end {t : Nat → Int32} {n : Nat} (h160 : n ≤ 160) (hb : byt n t) (h : flm t n = -1) : n ≤ fp t n (fc t n) ∧ fp t n (fc t n) ≤ n := by
  have hle : fp t n (fc t n) ≤ n := by
    cases hf : fc t n with
    | zero => exact fp_0 t n
    | succ k => exact fp_next (fcF_dg 24 0 k (Nat.zero_le _) (by show k < fc t n; omega))
  refine ⟨?_, hle⟩
  unfold flm at h
  by_cases c : fc t n = 0 ∨ sg t n (fp t n (fc t n)) ≠ 0
  · rw [if_pos c] at h
    exact absurd h (nI_nm1 (by omega))
  · rcases Nat.lt_or_ge (fp t n (fc t n)) n with z | z
    · exfalso
      have c2 : sg t n (fp t n (fc t n)) = 0 := Decidable.not_not.mp (fun z => c (Or.inr z))
      obtain ⟨b, b1, b2, b3⟩ := hb _ z
      unfold sg at c2
      rw [if_pos z, b3] at c2
      exact nI_ne0 (by omega) (by omega) c2
    · exact z
section XY
variable {h h' : eg_H} {σ : eg_S} {B : Nat × Nat} {n : Nat} {t : Nat → Int32}
theorem X_byteA (H : Tp n t h) {i : Nat} (hi : i ≤ 1000) : fX10_byteAt h 17 (nI i) = some (sg t n i, h) := by
  have e := X_byteAt H (a := eg_I h 17 2) (s := eg_I h 17 3) (w := eg_I h 17 4) hi
  rw [fin_id] at e
  exact e
theorem X_fr_L (H : Tp n t h) (hb : byt n t) (hf : flm t n = -1) {k : Nat} (hk : 95 ≤ k) (kd : eg_kd h k = (3, eg_nf 3)) (kd1 : eg_kd h (k + 1) = (100, 24)) (P0 : eg_P h k 0 = some (k + 1)) : ∀ j i c g F, i + j = n → j < F → c ≤ fc t n → skp t n i = fp t n c → g.1 = h.1 → (∀ p x, ¬ p = k + 1 → eg_I g p x = eg_I h p x) → (∀ p x, eg_P g p x = eg_P h p x ∧ eg_L g p x = eg_L h p x) → (∀ m, m < c → eg_I g (k + 1) m = fr t n m) → ∃ g', fX3_init_L16 F g k 17 (nI c) (nI i) = some (k, nI (fc t n), g') ∧ g'.1 = h.1 ∧ (∀ p x, ¬ p = k + 1 → eg_I g' p x = eg_I h p x) ∧ (∀ p x, eg_P g' p x = eg_P h p x ∧ eg_L g' p x = eg_L h p x) ∧ ∀ m, m < fc t n → eg_I g' (k + 1) m = fr t n m := by
  have hn := H.2.1
  have h24 := fc_le t n
  obtain ⟨en1, en2⟩ := flm_end hn hb hf
  intro j
  induction j with
  | zero =>
    intro i c g F hi hF hc hsk g1 gI gP gR
    obtain ⟨F, rfl⟩ : ∃ F', F = F' + 1 := ⟨F - 1, by omega⟩
    obtain rfl : i = n := by omega
    have sgg : eg_stt g := ⟨by unfold eg_nc; rw [g1]; exact H.1.1, fun p hp => by unfold eg_kd; rw [g1]; exact H.1.2.1 p hp, fun z hz => by rw [(gP _ _).1]; exact H.1.2.2 z hz⟩
    have cf : c = fc t i := by
      rcases Nat.lt_or_ge c (fc t i) with z | z
      · exfalso
        have := sg_lt (fcF_dg 24 0 c (Nat.zero_le _) z)
        rw [← hsk] at this
        have := skp_ge t i i
        omega
      · omega
    refine ⟨g, ?_, g1, gI, gP, ?_⟩
    · rw [fX3_init_L16]
      unfold fX10_length
      rw [if_pos (iO_17 sgg), gI_17 sgg, Option.bind_some, Option.bind_some, gI 17 1 (by omega), H.2.2.1]
      dsimp only
      rw [if_pos (nI_le (Nat.le_refl _) (by omega)), cf]
    · rw [← cf]; exact gR
  | succ j ih =>
    intro i c g F hi hF hc hsk g1 gI gP gR
    obtain ⟨F, rfl⟩ : ∃ F', F = F' + 1 := ⟨F - 1, by omega⟩
    have sgg : eg_stt g := ⟨by unfold eg_nc; rw [g1]; exact H.1.1, fun p hp => by unfold eg_kd; rw [g1]; exact H.1.2.1 p hp, fun z hz => by rw [(gP _ _).1]; exact H.1.2.2 z hz⟩
    have Tg : Tp n t g := ⟨sgg, hn, by rw [gI 17 1 (by omega)]; exact H.2.2.1, fun i hi => by rw [gI 18 i (by omega)]; exact H.2.2.2 i hi⟩
    have sgi : sg t n i = t i := if_pos (by omega)
    rw [fX3_init_L16]
    unfold fX10_length
    rw [if_pos (iO_17 sgg), gI_17 sgg, Option.bind_some, Option.bind_some, Tg.2.2.1]
    dsimp only
    rw [if_neg (nI_ge (by omega) (by omega)), X_byteA Tg (by omega), Option.bind_some]
    dsimp only
    rw [sgi]
    by_cases c32 : t i = 32
    · rw [if_pos c32, nI_1]
      have hsk' : skp t n (i + 1) = fp t n c := by
        rw [skp_eq, if_pos ⟨by omega, c32⟩] at hsk
        exact hsk
      exact ih (i + 1) c g F (by omega) (by omega) hc hsk' g1 gI gP gR
    · have e1 : skp t n i = i := by rw [skp_eq, if_neg (fun z => c32 z.2)]
      rw [e1] at hsk
      have hlt : c < fc t n := by
        rcases Nat.lt_or_ge c (fc t n) with z | z
        · exact z
        · exfalso
          have : c = fc t n := by omega
          rw [this] at hsk
          omega
      have hcl : (nI c).toNatClampNeg = c := nI_clamp (by omega)
      have O : eg_isO g 3 k := ⟨by omega, by unfold eg_kd; rw [g1]; exact kd⟩
      have A : eg_isA g 100 (k + 1) (nI c) := ⟨by omega, by unfold eg_kd; rw [g1]; show (eg_kd h (k + 1)).1 = 100; rw [kd1], nI_pos (by omega), by unfold eg_kd; rw [g1, hcl]; show c < (eg_kd h (k + 1)).2; rw [kd1]; show c < 24; omega⟩
      rw [if_neg c32, if_neg (show ¬ (24 : Int32) ≤ nI c from nI_ge (b := 24) (by omega) (by omega)), show eg_gR g 3 0 k = eg_P g k 0 from if_pos O, (gP k 0).1, P0, Option.bind_some, X_byteA Tg (by omega), Option.bind_some]
      dsimp only
      rw [sgi, show eg_wI g 100 (k + 1) (nI c) (t i - 48) = some (eg_sI g (k + 1) (nI c).toNatClampNeg (t i - 48)) from if_pos A, hcl, Option.bind_some, nI_1, nI_1]
      refine ih (i + 1) (c + 1) (eg_sI g (k + 1) c (t i - 48)) F (by omega) (by omega) (by omega) ?_ g1 (fun p x hp => ?_) gP (fun m hm => ?_)
      · show _ = skp t n (fp t n c + 1)
        rw [← hsk]
      · rw [I_sI, if_neg (fun z => hp z.1)]; exact gI p x hp
      · rw [I_sI]
        by_cases cm : m = c
        · subst cm
          rw [if_pos ⟨rfl, rfl⟩]
          unfold fr
          rw [← hsk, sgi]
        · rw [if_neg (fun z => cm z.2)]; exact gR m (by omega)
theorem X_film3 (H : Tp n t h) (hb : byt n t) (hf : flm t n = -1) : ∃ h', fX3_init (eg_new h 3 (eg_nf 3)) (eg_nc h) 17 = some h' ∧ eg_ext h h' ∧ (∃ f, Fl h' (eg_nc h) (fc t n) f ∧ ∀ k, k < fc t n → f k = fr t n k) ∧ eg_nc h' = eg_nc h + 2 ∧ eg_ns h' = eg_ns h + (eg_nf 3 + 24) := by
  have hs := H.1
  have h9 := hs.1
  generalize hk : eg_nc h = k at *
  let g1 := eg_new h 3 (eg_nf 3)
  let g2 := eg_new g1 100 24
  let g3 := eg_sP g2 k 0 (some (k + 1))
  have nc1 : eg_nc g1 = k + 1 := by show eg_nc (eg_new h 3 _) = _; rw [eg_nc_new, hk]
  have nc2 : eg_nc g2 = k + 2 := by show eg_nc (eg_new g1 100 24) = _; rw [eg_nc_new, nc1]
  have x1 : eg_ext h g1 := ext_new h _ _
  have x2 : eg_ext h g2 := ext_tr x1 (ext_new g1 _ _)
  have x3 : eg_ext h g3 := ext_sP x2 (by omega)
  have st3 : eg_stt g3 := gr_stt (ext_gr x3 (by omega)) hs (by decide)
  have kd1 : eg_kd g1 k = (3, eg_nf 3) := by rw [← hk]; exact eg_kd_new h _ _
  have kd2 : eg_kd g2 k = (3, eg_nf 3) := by
    show eg_kd (eg_new g1 100 24) k = _
    rw [eg_kd_new_old (by omega)]; exact kd1
  have kd21 : eg_kd g2 (k + 1) = (100, 24) := by
    show eg_kd (eg_new g1 100 24) (k + 1) = _
    rw [← nc1]; exact eg_kd_new g1 _ _
  have O2 : eg_isO g2 3 k := ⟨by omega, kd2⟩
  have P3 : eg_P g3 k 0 = some (k + 1) := by
    show eg_P (eg_sP g2 k 0 (some (k + 1))) k 0 = _
    rw [P_sP, if_pos ⟨rfl, rfl⟩]
  have T3 : Tp n t g3 := ⟨st3, H.2.1, by rw [(x3.2 17 1 (by omega)).1]; exact H.2.2.1, fun i hi => by rw [(x3.2 18 i (by omega)).1]; exact H.2.2.2 i hi⟩
  have hn := H.2.1
  obtain ⟨g4, e4, q1, q2, q3, q4⟩ := X_fr_L T3 hb hf h9 kd2 kd21 P3 n 0 0 g3 eg_F (by omega) (by rw [eg_F_eq]; omega) (Nat.zero_le _) rfl rfl (fun _ _ _ => rfl) (fun _ _ => ⟨rfl, rfl⟩) (fun m hm => by omega)
  have e4' : fX3_init_L16 eg_F g3 k 17 0 0 = some (k, nI (fc t n), g4) := e4
  let g5 := eg_sI g4 k 1 (nI (fc t n))
  have kd4 : ∀ r, eg_kd g4 r = eg_kd g2 r := fun r => by unfold eg_kd; rw [q1]; rfl
  have O4 : eg_isO g4 3 k := ⟨by omega, by rw [kd4]; exact kd2⟩
  have x4 : eg_ext h g4 := ⟨by rw [q1]; exact x3.1, fun p i hp => by
    refine ⟨?_, ?_, ?_⟩
    · rw [q2 p i (by omega)]; exact (x3.2 p i (by omega)).1
    · rw [(q3 p i).2]; exact (x3.2 p i (by omega)).2.1
    · rw [(q3 p i).1]; exact (x3.2 p i (by omega)).2.2⟩
  refine ⟨g5, ?_, ext_sI x4 (by omega), ⟨fun m => eg_I g5 (k + 1) m, ⟨?_, ?_, ?_, ?_, fun _ _ => rfl⟩, fun m hm => ?_⟩, ?_, ?_⟩
  · unfold fX3_init
    have na1 : eg_na g1 100 24 = some g2 := if_pos (by decide)
    show ((eg_na g1 100 24).bind _) = _
    rw [na1, Option.bind_some, Option.bind_some, nc1, show eg_pP g2 3 0 k (some (k + 1)) = some g3 from if_pos O2, Option.bind_some, e4', Option.bind_some]
    dsimp only
    rw [show eg_pI g4 3 1 k (nI (fc t n)) = some g5 from if_pos O4, Option.bind_some]
  · show eg_kd g4 k = _
    rw [kd4]; exact kd2
  · show eg_kd g4 (k + 1) = _
    rw [kd4]; exact kd21
  · show eg_P g4 k 0 = _
    rw [(q3 k 0).1]; exact P3
  · show eg_I (eg_sI g4 k 1 (nI (fc t n))) k 1 = _
    rw [I_sI, if_pos ⟨rfl, rfl⟩]
  · show eg_I (eg_sI g4 k 1 (nI (fc t n))) (k + 1) m = _
    rw [I_sI, if_neg (by omega)]; exact q4 m hm
  · show eg_nc g4 = _
    unfold eg_nc
    rw [q1]
    exact nc2
  · show eg_ns g4 = _
    rw [show eg_ns g4 = eg_ns g2 by unfold eg_ns; rw [q1]; rfl]
    show eg_ns (eg_new g1 100 24) = _
    rw [eg_ns_new]
    show eg_ns (eg_new h 3 (eg_nf 3)) + _ = _
    rw [eg_ns_new]
    omega
theorem X_frO (X : XI h σ B) : ∃ h1, fX10_readFrames h 17 = some (flm (tT σ) (σ.1 0), h1) ∧ XOk h h1 σ B := by
  obtain ⟨a', s', e1, _⟩ := X_frames (Tp_of X) (a := eg_I h 17 2) (s := eg_I h 17 3) (w := eg_I h 17 4)
  have eid : fin h (eg_I h 17 2) (eg_I h 17 3) (eg_I h 17 4) = h := fin_id h
  rw [eid] at e1
  exact ⟨_, e1, XOk_low X (fin_S h a' s' (flm (tT σ) (σ.1 0))) (by decide) (by decide) ⟨rfl, rfl, rfl, rfl, fun _ => ⟨rfl, rfl⟩⟩ (by decide)⟩
theorem X_textF (X : XI h σ (bRm B σ)) (hN : sF σ < 4) (hw : flm (tT σ) (σ.1 0) = -1) : ∃ h', fX12_text h 16 2 = some (nI (sF σ), h') ∧ XOk h h' (stF σ) (bRm B (stF σ)) := by
  have hs0 := X.2.2.1.1
  obtain ⟨h1, e1, X1, gc1⟩ := X_frO X
  have s1 := X1.2.2.1.1
  have h95 := s1.1
  obtain ⟨g2, e2, x2, ⟨fF, Fl2, Fe⟩, nc2, ns2⟩ := X_film3 (Tp_of X1) (byt_T X1.1.1) hw
  have G2 := ext_gr x2 h95
  have s2 : eg_stt g2 := gr_stt G2 s1 (by decide)
  obtain ⟨W, t, C, lb, f, ⟨k1, k2, k3, k4⟩, j⟩ := X1
  have C0 : XC h1 (sU σ) (sP σ) (sE σ) (sL σ) (eg_P h1 36 2) (σ.1 11) (bRm B σ) := C
  have hcl : (nI (sF σ)).toNatClampNeg = sF σ := nI_clamp (by omega)
  have v5 : eg_I h1 16 8 = nI (sF σ) := f.1
  have v52 : eg_I g2 16 8 = nI (sF σ) := by rw [(x2.2 16 8 (by omega)).1]; exact v5
  let g3 := eg_sP g2 26 (sF σ) (some (eg_nc h1))
  have E3 : eg_eq [(26, none)] g2 g3 := eq_sP eq_rfl rfl
  have s3 : eg_stt g3 := eq_stt E3 s2 (by decide)
  let g4 := eg_sI g3 16 8 (nI (sF σ + 1))
  have s4 : eg_stt g4 := s3
  let g5 := eg_sI g4 17 1 0
  have s5 : eg_stt g5 := s3
  have E5 : eg_eq [(26, none), (16, some 8), (17, some 1)] g2 g5 := eq_sI (eq_sI (cov_sub (by decide) E3) rfl) rfl
  have G5 : eg_gr [(26, none), (16, some 8), (17, some 1)] h1 g5 := gr_tr (gr_mono G2 (fun _ _ _ _ => rfl)) (gr_eq E5 (by decide))
  have v53 : eg_I g3 16 8 = nI (sF σ) := v52
  have v54 : eg_I g4 16 8 = nI (sF σ + 1) := by rw [I_sI, if_pos ⟨rfl, rfl⟩]
  have P25 : ∀ x, eg_P g5 26 x = if x = sF σ then some (eg_nc h1) else eg_P h1 26 x := fun x => by
    show eg_P (eg_sP g2 26 (sF σ) (some (eg_nc h1))) 26 x = _
    rw [P_sP]
    by_cases c : x = sF σ
    · rw [if_pos ⟨rfl, c⟩, if_pos c]
    · rw [if_neg (fun z => c z.2), if_neg c, (x2.2 26 x (by omega)).2.2]
  have p36 : eg_P g5 36 2 = eg_P h1 36 2 := (G5.2.1 36 2 (by omega) rfl).2.2
  have C5 : XC g5 (sU σ) (sP σ) (sE σ) (sL σ) (eg_P g5 36 2) (σ.1 11) (bRm B (stF σ)) := by
    refine ⟨s5, XV_eq C0.2.1 G5 ⟨rfl, rfl, fun _ => rfl⟩, rfl, ?_, ?_⟩
    · rw [p36]; exact gr_XL G5 C0.2.2.2.1
    · refine XK_grow (a := 2) (b := eg_nf 3 + 24) C0.2.2.2.2 (fun p hp => ?_) (fun p i hp => ?_) ?_ ?_ ?_ ?_
      · rw [eq_kd E5]; exact ext_kd x2 hp
      · have z : p < eg_nc h1 := by omega
        have c : eg_cov [(26, none), (16, some 8), (17, some 1)] p i = false := by
          rcases (by omega : p = 38 ∨ p = 39 ∨ 95 ≤ p) with rfl | rfl | z9
          · rfl
          · rfl
          · exact cov_95 (by decide) p i z9
        exact ⟨(E5.2 p i c).1.trans (x2.2 p i z).1, (E5.2 p i c).2.2.trans (x2.2 p i z).2.2⟩
      · rw [eq_nc E5]; exact nc2
      · rw [eq_ns E5]; exact ns2
      · show B.1 + 4 * sN σ + 2 * sF σ + 2 ≤ B.1 + 4 * sN σ + 2 * (sF σ + 1)
        omega
      · show B.2 + 300 * sN σ + 300 * sF σ + _ ≤ B.2 + 300 * sN σ + 300 * (sF σ + 1)
        have : eg_nf 3 ≤ 50 := by decide
        omega
  refine ⟨g5, ?_, XI_in (W_newF W hN) ⟨?_, fun i hi => absurd hi (Nat.not_lt_zero i)⟩ C5 (XBl_g G5 ⟨⟨rfl, rfl, rfl⟩, fun _ => rfl⟩ lb) ⟨v54, fun m hm => ?_⟩ (Bk_g G5 (by omega) ⟨⟨rfl, rfl⟩, fun _ => rfl⟩ k1) (Bk_g G5 (by omega) ⟨⟨rfl, rfl⟩, fun _ => rfl⟩ k2) (Bk_g G5 (by omega) ⟨⟨rfl, rfl⟩, fun _ => rfl⟩ k3) (Bk_g G5 (by omega) ⟨⟨rfl, rfl⟩, fun _ => rfl⟩ k4) (XBj_g G5 ⟨rfl, fun _ => rfl⟩ j), gc_tr gc1 (gc_g G5 (by decide))⟩
  · unfold fX12_text fX12_takeFilm
    have v50 : eg_I h 16 8 = nI (sF σ) := X.2.2.2.2.1.1
    have O2 : eg_isO g2 3 (eg_nc h1) := ⟨by omega, Fl2.1⟩
    have eW : eg_wR g2 3 26 (nI (sF σ)) (eg_nc h1) = some g3 := by
      unfold eg_wR
      rw [if_pos ⟨iA_26 s2 (nI_pos (by omega)) (by rw [hcl]; omega), O2⟩, hcl]
    have sn : eg_stt (eg_new h1 3 (eg_nf 3)) := gr_stt (ext_gr (ext_new h1 _ _) h95) s1 (by decide)
    rw [if_pos (iO_16 hs0), if_neg (by decide), if_neg (by decide), if_pos rfl, if_pos (iO_16 hs0), gI_16 hs0, Option.bind_some, v50, gR_16 hs0, rf_16_7 hs0, Option.bind_some, al_26 hs0, Option.bind_some, if_neg (nI_ge hN (by omega)), gR_16 hs0, rf_16_0 hs0, Option.bind_some, e1, Option.bind_some]
    dsimp only
    rw [if_pos hw, gR_16 s1, rf_16_7 s1, Option.bind_some, gI_16 s1, Option.bind_some, v5, Option.bind_some]
    dsimp only
    rw [gR_16 sn, rf_16_0 sn, Option.bind_some, e2, Option.bind_some, eW, Option.bind_some, gI_16 s3, Option.bind_some, v53, nI_1, pI_16 s3, Option.bind_some]
    show (((eg_gI g4 12 8 16).bind _).bind _) = _
    rw [gI_16 s4, Option.bind_some, v54, nI_m1, Option.bind_some]
    dsimp only
    rw [if_neg (nI_nm1 (by omega)), gR_16 s4, rf_16_0 s4, Option.bind_some]
    unfold fX10_cut
    rw [if_pos (iO_17 s4), pI_17 s4, Option.bind_some, Option.bind_some]
  · show eg_I (eg_sI g4 17 1 0) 17 1 = _
    rw [I_sI, if_pos ⟨rfl, rfl⟩]; rfl
  · have hm : m < sF σ + 1 := hm
    have h24 := fc_le (tT σ) (σ.1 0)
    rw [P25]
    by_cases c : m = sF σ
    · rw [c, if_pos rfl, fl_N.1]
      exact ⟨eg_nc h1, fF, rfl, h95, (gr_eq E5 (by decide)).2.2.2 _ _ _ h95 Fl2, fun k hk => by rw [fl_N.2 k (by omega)]; exact Fe k hk⟩
    · have z3 := (W.2.2.2.1.2 m (by omega)).1
      rw [if_neg c, (fl_o (by omega)).1]
      obtain ⟨p, w', x1, x2, x3, x4⟩ := f.2 m (by omega)
      exact ⟨p, w', x1, x2, G5.2.2.2 p _ w' x2 x3, fun k hk => by rw [(fl_o (by omega)).2 k (by omega)]; exact x4 k hk⟩
theorem X_textF_no (X : XI h σ B) (hn : ¬ (sF σ < 4 ∧ flm (tT σ) (σ.1 0) = -1)) : ∃ h', fX12_text h 16 2 = some (-1, h') ∧ XOk h h' σ B := by
  have hs0 := X.2.2.1.1
  have hN := X.1.2.2.2.1.1
  have v50 : eg_I h 16 8 = nI (sF σ) := X.2.2.2.2.1.1
  unfold fX12_text fX12_takeFilm
  rw [if_pos (iO_16 hs0), if_neg (by decide), if_neg (by decide), if_pos rfl, if_pos (iO_16 hs0), gI_16 hs0, Option.bind_some, v50, gR_16 hs0, rf_16_7 hs0, Option.bind_some, al_26 hs0, Option.bind_some]
  by_cases c4 : sF σ < 4
  rotate_left
  · rw [if_pos (nI_le (by omega) (by omega)), Option.bind_some]
    dsimp only
    rw [if_pos rfl]
    exact ⟨h, rfl, XOk_rfl X⟩
  obtain ⟨h1, e1, O⟩ := X_frO X
  rw [if_neg (nI_ge c4 (by omega)), gR_16 hs0, rf_16_0 hs0, Option.bind_some, e1, Option.bind_some]
  dsimp only
  rw [if_neg (fun z => hn ⟨c4, z⟩), Option.bind_some]
  dsimp only
  rw [if_pos rfl]
  exact ⟨_, rfl, O⟩
theorem X_text (X : XI h σ (bRm B σ)) (s : Int32) (he : σ.1 11 + 1 < 2 ^ 30) : ∃ h', fX12_text h 16 s = some (aText σ s, h') ∧ XOk h h' (sText σ s) (bRm B (sText σ s)) := by
  have hs0 := X.2.2.1.1
  unfold aText sText
  by_cases c0 : s = 0
  · subst c0
    rw [if_pos rfl, if_pos rfl]
    cases hr : rMd σ with
    | inl e => exact X_textM_no X hr
    | inr q => exact X_textM X he hr
  rw [if_neg c0, if_neg c0]
  by_cases c1 : s = 1
  · subst c1
    rw [if_pos rfl, if_pos rfl]
    by_cases gg : sN σ < 4 ∧ lwA (pLaw (tT σ) (σ.1 0)) = -1
    · rw [if_pos gg, if_pos gg]
      cases hr : pLaw (tT σ) (σ.1 0) with
      | inl e => exact absurd gg.2 (lwA_no X.1.1.1 hr)
      | inr w => exact X_textL X gg.1 hr
    · rw [if_neg gg, if_neg gg]; exact X_textL_no X gg
  rw [if_neg c1, if_neg c1]
  by_cases c2 : s = 2
  · subst c2
    rw [if_pos rfl, if_pos rfl]
    by_cases gg : sF σ < 4 ∧ flm (tT σ) (σ.1 0) = -1
    · rw [if_pos gg, if_pos gg]; exact X_textF X gg.1 gg.2
    · rw [if_neg gg, if_neg gg]; exact X_textF_no X gg
  rw [if_neg c2, if_neg c2]
  refine ⟨h, ?_, XOk_rfl X⟩
  unfold fX12_text
  rw [if_pos (iO_16 hs0), if_neg c0, if_neg c1, if_neg c2, if_pos rfl]
end XY
