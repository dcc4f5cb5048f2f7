def eg_ext (h h' : eg_H) : Prop := (∃ k, h'.1 = h.1 ++ k) ∧ ∀ p i, p < eg_nc h → eg_I h' p i = eg_I h p i ∧ eg_L h' p i = eg_L h p i ∧ eg_P h' p i = eg_P h p i
theorem ext_kd {h h' : eg_H} (a : eg_ext h h') {p : Nat} (hp : p < eg_nc h) : eg_kd h' p = eg_kd h p := by
  obtain ⟨⟨k, e⟩, _⟩ := a
  have hp : p < h.1.length := hp
  unfold eg_kd
  rw [e]
  simp [List.getElem?_append_left hp]
theorem ext_gr {h h' : eg_H} (a : eg_ext h h') (h9 : 95 ≤ eg_nc h) : eg_gr [] h h' := by
  refine ⟨a.1, fun p i hp _ => a.2 p i (by omega), fun p C hp L => ?_, fun p n f hp F => ?_⟩
  · have L0 := L
    obtain ⟨m0, m1, m2, m3, m4, m5, m6, m7, m8, m9⟩ := L
    have h3 : p + 3 < eg_nc h := eg_kd_lt m5 (by omega)
    exact Lw_of L0 (fun r _ _ => ext_kd a (by omega)) (fun i => (a.2 p i (by omega)).2.2) (fun k => (a.2 (p + 3) k h3).1)
  · have F0 := F
    obtain ⟨m2, m3, m6, m7, m9⟩ := F
    have h1 : p + 1 < eg_nc h := eg_kd_lt m3 (by omega)
    exact Fl_of F0 (fun r _ _ => ext_kd a (by omega)) (fun i => (a.2 p i (by omega)).2.2) (fun i => (a.2 p i (by omega)).1) (fun k => (a.2 (p + 1) k h1).1)
theorem new_at (h : eg_H) (k n : Nat) {p i : Nat} (hp : p < eg_nc h) : eg_I (eg_new h k n) p i = eg_I h p i ∧ eg_L (eg_new h k n) p i = eg_L h p i ∧ eg_P (eg_new h k n) p i = eg_P h p i := by
  have hne : ¬ p = h.1.length := by unfold eg_nc at hp; omega
  refine ⟨?_, ?_, ?_⟩
  · show (if p = h.1.length then (fun _ => 0) else h.2.1 p) i = _
    rw [if_neg hne]; rfl
  · show (if p = h.1.length then (fun _ => 0) else h.2.2.1 p) i = _
    rw [if_neg hne]; rfl
  · show (if p = h.1.length then (fun _ => none) else h.2.2.2 p) i = _
    rw [if_neg hne]; rfl
theorem new_0 (h : eg_H) (k n i : Nat) : eg_I (eg_new h k n) (eg_nc h) i = 0 := by
  show (if eg_nc h = h.1.length then (fun _ => (0 : Int32)) else h.2.1 (eg_nc h)) i = 0
  rw [if_pos (show eg_nc h = h.1.length from rfl)]
theorem ext_new (h : eg_H) (k n : Nat) : eg_ext h (eg_new h k n) := ⟨⟨[(k, n)], rfl⟩, fun _ _ hp => new_at h k n hp⟩
theorem ext_tr {h h1 h2 : eg_H} (a : eg_ext h h1) (b : eg_ext h1 h2) : eg_ext h h2 := by
  obtain ⟨⟨k1, a1⟩, a2⟩ := a
  obtain ⟨⟨k2, b1⟩, b2⟩ := b
  refine ⟨⟨k1 ++ k2, by rw [b1, a1, List.append_assoc]⟩, fun p i hp => ?_⟩
  have hp1 : p < eg_nc h1 := by unfold eg_nc at hp ⊢; rw [a1, List.length_append]; omega
  exact ⟨(b2 p i hp1).1.trans (a2 p i hp).1, (b2 p i hp1).2.1.trans (a2 p i hp).2.1, (b2 p i hp1).2.2.trans (a2 p i hp).2.2⟩
theorem ext_sI {h h1 : eg_H} (a : eg_ext h h1) {p i : Nat} {x : Int32} (hp : eg_nc h ≤ p) : eg_ext h (eg_sI h1 p i x) := ⟨a.1, fun r j hr => ⟨by rw [I_sI, if_neg (by omega)]; exact (a.2 r j hr).1, (a.2 r j hr).2⟩⟩
theorem ext_sP {h h1 : eg_H} (a : eg_ext h h1) {p i : Nat} {x : Option Nat} (hp : eg_nc h ≤ p) : eg_ext h (eg_sP h1 p i x) := ⟨a.1, fun r j hr => ⟨(a.2 r j hr).1, (a.2 r j hr).2.1, by rw [P_sP, if_neg (by omega)]; exact (a.2 r j hr).2.2⟩⟩
theorem sm_upd {f g : Nat → Nat} {s : Nat} (h1 : g s + 1 = f s) (h2 : ∀ i, ¬ i = s → g i = f i) : ∀ n, s < n → sm g n + 1 = sm f n := by
  intro n
  induction n with
  | zero => intro h; omega
  | succ n ih =>
    intro hs
    show sm g n + g n + 1 = sm f n + f n
    by_cases c : s = n
    · subst c
      have : sm g s = sm f s := sm_cg (fun i hi => h2 i (by omega))
      omega
    · have := ih (by omega)
      rw [h2 n (fun z => c z.symm)]
      omega
def XC (h : eg_H) (U : Nat → Nat) (P E : Nat) (lw : eg_LW) (q : Option Nat) (era : Nat) (B : Nat × Nat) : Prop := eg_stt h ∧ XV h U P E ∧ eg_P h 36 2 = q ∧ XL h q lw ∧ XK h U lw era B
def slt (p r e d : Nat) : Nat := ((p * 6 + r) * 6 + e) * 2 + d
theorem slt_in {p r e d : Nat} (hp : p < 6) (hr : r < 6) (he : e < 6) (hd : d ≤ 1) : slt p r e d < 432 ∧ slt p r e d / 72 = p ∧ slt p r e d / 12 % 6 = r ∧ slt p r e d / 2 % 6 = e ∧ slt p r e d % 2 = d := by
  unfold slt
  omega
theorem gr_XL {S : List (Nat × Option Nat)} {h h' : eg_H} {q : Option Nat} {lw : eg_LW} (G : eg_gr S h h') (L : XL h q lw) : XL h' q lw := by
  cases q with
  | none =>
    cases lw with
    | none => trivial
    | some f => exact L.elim
  | some p =>
    cases lw with
    | none => exact L.elim
    | some f =>
      obtain ⟨p9, t, n, w, h1, h2, l⟩ := L
      exact ⟨p9, t, n, w, h1, h2, G.2.2.1 p w.1 p9 l⟩
section XF
variable {U : Nat → Nat} {P E : Nat} {lw : eg_LW} {q : Option Nat} {era : Nat} {B : Nat × Nat}
def S39 : List (Nat × Option Nat) := [(39, none)]
theorem X_rowOf {h : eg_H} (C : XC h U P E lw q era B) {p r e d : Nat} (hp : p < 6) (hr : r < 6) (he : e < 6) (hd : d ≤ 1) : ∃ h' k, fX0_rowOf h 38 (nI (10 * p + r)) (nI (10 * e + d)) = some (some (k + 1), h') ∧ eg_gr S39 h h' ∧ XC h' U P E lw q era B ∧ eg_P h' 39 (slt p r e d) = some k ∧ eg_I h' k 1 = nI era := by
  obtain ⟨hs, V, h36, L, K⟩ := C
  have K0 := K
  obtain ⟨a1, a2, a3, a4, a5, a6⟩ := K
  obtain ⟨s1, s2, s3, s4, s5⟩ := slt_in hp hr he hd
  have gC : ∀ h', eg_gr S39 h h' → XK h' U lw era B → XC h' U P E lw q era B := fun h' G K' => ⟨gr_stt G hs (by decide), XV_eq V G ⟨rfl, rfl, fun _ => rfl⟩, by rw [(G.2.1 36 2 (by omega) rfl).2.2]; exact h36, gr_XL G L, K'⟩
  have hidx : (((nI p * 6 + nI r) * 6 + nI e) * 2 + nI d : Int32) = nI (slt p r e d) := by
    unfold slt
    rw [← iI_n, ← iI_n, ← iI_n, ← iI_n, ← iI_n, show (6 : Int32) = iI 6 from rfl, show (2 : Int32) = iI 2 from rfl, iI_mul, iI_add, iI_mul, iI_add, iI_mul, iI_add]
    congr 1
  unfold fX0_rowOf
  rw [if_pos (iO_38 hs), (i10 p r (by omega) (by omega)).1, (i10 p r (by omega) (by omega)).2, (i10 e d (by omega) (by omega)).1, (i10 e d (by omega) (by omega)).2, hidx, Option.bind_some]
  generalize slt p r e d = s at *
  have hcl : (nI s).toNatClampNeg = s := nI_clamp (by omega)
  have hA : ∀ g, eg_stt g → eg_isA g 114 39 (nI s) := fun g hg => ⟨by omega, by rw [kd_39 hg], nI_pos (by omega), by rw [kd_39 hg, hcl]; exact s1⟩
  rw [if_neg (nI_pos (by omega)), gR_38 hs, rf_38_2 hs, Option.bind_some, al_39 hs, Option.bind_some, if_pos (nI_lt s1 (by omega)), Option.bind_some]
  unfold eg_aQ
  rw [if_pos (hA h hs), hcl, Option.bind_some]
  cases hq : eg_P h 39 s with
  | some k =>
    obtain ⟨h', e1, G1, Q1, K1, P1, I1⟩ := X_bestsIn K0 s1 hq
    refine ⟨h', k, ?_, gr_mono G1 (fun _ _ _ _ => rfl), gC h' (gr_mono G1 (fun _ _ _ _ => rfl)) K1, P1, I1⟩
    rw [if_neg (by simp), gI_38 hs, Option.bind_some, Option.bind_some, a1, e1, Option.bind_some]
  | none =>
    have h9 := hs.1
    generalize hk : eg_nc h = k at *
    let g1 := eg_new h 4 (eg_nf 4)
    let g2 := eg_new g1 100 61
    let g3 := eg_sP g2 k 0 (some (k + 1))
    let g4 := eg_sI g3 k 1 (nI era)
    let g5 := eg_sP g4 39 s (some k)
    have nc1 : eg_nc g1 = k + 1 := by show eg_nc (eg_new h 4 _) = _; rw [eg_nc_new, hk]
    have nc2 : eg_nc g2 = k + 2 := by show eg_nc (eg_new g1 100 61) = _; rw [eg_nc_new, nc1]
    have x1 : eg_ext h g1 := ext_new h _ _
    have x2 : eg_ext h g2 := ext_tr x1 (ext_new g1 _ _)
    have x3 : eg_ext h g3 := ext_sP x2 (by omega)
    have x4 : eg_ext h g4 := ext_sI x3 (by omega)
    have kd1 : eg_kd g1 k = (4, eg_nf 4) := by rw [← hk]; exact eg_kd_new h _ _
    have kd2 : eg_kd g2 k = (4, eg_nf 4) := by
      show eg_kd (eg_new g1 100 61) k = _
      rw [eg_kd_new_old (by omega)]; exact kd1
    have kd2' : eg_kd g2 (k + 1) = (100, 61) := by
      show eg_kd (eg_new g1 100 61) (k + 1) = _
      rw [← nc1]; exact eg_kd_new g1 _ _
    have O2 : eg_isO g2 4 k := ⟨by omega, kd2⟩
    have O3 : eg_isO g3 4 k := O2
    have G4 : eg_gr [] h g4 := ext_gr x4 (by omega)
    have st1 : eg_stt g1 := gr_stt (ext_gr x1 (by omega)) hs (by decide)
    have st4 : eg_stt g4 := gr_stt G4 hs (by decide)
    have G5 : eg_gr S39 h g5 := gr_tr (gr_mono G4 (fun _ _ _ _ => rfl)) (gr_eq (S := S39) (eq_sP eq_rfl (by simp [S39, eg_cov])) (by decide))
    have st5 : eg_stt g5 := gr_stt G5 hs (by decide)
    have era1 : eg_I g1 38 3 = nI era := by rw [(x1.2 38 3 (by omega)).1]; exact a1
    have era5 : eg_I g5 38 3 = nI era := by rw [(G5.2.1 38 3 (by omega) rfl).1]; exact a1
    have P5 : eg_P g5 39 s = some k := by show eg_P (eg_sP g4 39 s (some k)) 39 s = _; rw [P_sP, if_pos ⟨rfl, rfl⟩]
    have P5o : ∀ s', ¬ s' = s → eg_P g5 39 s' = eg_P h 39 s' := fun s' hn => by
      show eg_P (eg_sP g4 39 s (some k)) 39 s' = _
      rw [P_sP, if_neg (fun z => hn z.2), (x4.2 39 s' (by omega)).2.2]
    have kk : ∀ s', s' < 432 → ∀ k', eg_P h 39 s' = some k' → k' + 1 < k := fun s' hs' k' hk' => by
      have := (a3 s' hs' k' hk').1.2.2.1
      have := eg_kd_lt this (by omega)
      omega
    have KS5 : KS g5 U lw era s k := by
      refine ⟨⟨by omega, kd2, kd2', ?_⟩, era, ?_, Nat.le_refl _, fun _ y hy => Or.inl ?_⟩
      · show eg_P (eg_sP g4 39 s (some k)) k 0 = _
        rw [P_sP, if_neg (by omega)]
        show eg_P (eg_sP g2 k 0 (some (k + 1))) k 0 = _
        rw [P_sP, if_pos ⟨rfl, rfl⟩]
      · show eg_I (eg_sI g3 k 1 (nI era)) k 1 = _
        rw [I_sI, if_pos ⟨rfl, rfl⟩]
      · show eg_I (eg_sI g3 k 1 (nI era)) (k + 1) y = 0
        rw [I_sI, if_neg (by omega)]
        show eg_I (eg_new g1 100 61) (k + 1) y = 0
        rw [← nc1]; exact new_0 g1 _ _ _
    have K5 : XK g5 U lw era B := by
      have hsm : sm (fre g5) 432 + 1 = sm (fre h) 432 := sm_upd (s := s) (by
        unfold fre
        rw [P5, hq]
        rfl) (fun i hi => by unfold fre; rw [P5o i hi]) 432 s1
      refine ⟨era5, a2, fun s' hs' k' hk' => ?_, fun s1' s2' k' hs1 hs2 hk1 hk2 => ?_, ?_, ?_⟩
      · by_cases c : s' = s
        · subst c
          rw [P5] at hk'
          cases hk'
          exact KS5
        · rw [P5o s' c] at hk'
          have hlt := kk s' hs' k' hk'
          refine KS_of (a3 s' hs' k' hk') ⟨?_, ?_⟩ ?_ ?_ (fun y => ?_)
          · show eg_kd g4 k' = _; exact ext_kd x4 (by omega)
          · show eg_kd g4 (k' + 1) = _; exact ext_kd x4 (by omega)
          · show eg_P (eg_sP g4 39 s (some k)) k' 0 = _
            have := (a3 s' hs' k' hk').1.1
            rw [P_sP, if_neg (by omega)]; exact (x4.2 k' 0 (by omega)).2.2
          · exact (x4.2 k' 1 (by omega)).1
          · exact (x4.2 (k' + 1) y (by omega)).1
      · by_cases c1 : s1' = s
        · by_cases c2 : s2' = s
          · rw [c1, c2]
          · rw [c1, P5] at hk1
            rw [P5o s2' c2] at hk2
            cases hk1
            have := kk s2' hs2 k hk2
            omega
        · by_cases c2 : s2' = s
          · rw [c2, P5] at hk2
            rw [P5o s1' c1] at hk1
            cases hk2
            have := kk s1' hs1 k hk1
            omega
          · exact a4 s1' s2' k' hs1 hs2 (by rw [← P5o s1' c1]; exact hk1) (by rw [← P5o s2' c2]; exact hk2)
      · have : eg_nc g5 = k + 2 := nc2
        omega
      · have n1 : eg_ns g5 = eg_ns h + eg_nf 4 + 61 := by
          show eg_ns (eg_new (eg_new h 4 (eg_nf 4)) 100 61) = _
          rw [eg_ns_new, eg_ns_new]
        have : eg_nf 4 = 2 := rfl
        omega
    obtain ⟨h', e1, G1, Q1, K1, P1, I1⟩ := X_bestsIn K5 s1 P5
    have G' : eg_gr S39 h h' := gr_tr G5 (gr_mono G1 (fun _ _ _ _ => rfl))
    refine ⟨h', k, ?_, G', gC h' G' K1, P1, I1⟩
    rw [if_pos rfl, Option.bind_some]
    show ((eg_gI g1 0 3 38).bind _) = _
    rw [gI_38 st1, Option.bind_some, era1]
    have ei : fX4_init g1 k (nI era) = some g4 := by
      unfold fX4_init eg_na eg_pP eg_pI
      rw [if_pos ⟨by decide, by decide⟩, Option.bind_some, Option.bind_some]
      show ((if eg_isO g2 4 k then some (eg_sP g2 k 0 (some (eg_nc g1))) else none).bind _) = _
      rw [if_pos O2, Option.bind_some, nc1]
      show ((if eg_isO g3 4 k then some (eg_sI g3 k 1 (nI era)) else none).bind _) = _
      rw [if_pos O3, Option.bind_some]
    rw [ei, Option.bind_some, gR_38 st4, rf_38_2 st4, Option.bind_some]
    unfold eg_wR
    rw [if_pos ⟨hA g4 st4, show eg_isO g4 4 k from O2⟩, hcl, Option.bind_some]
    show ((eg_gI g5 0 3 38).bind _) = _
    rw [gI_38 st5, Option.bind_some, era5, e1, Option.bind_some]
end XF
