def XV (h : eg_H) (U : Nat → Nat) (P E : Nat) : Prop := eg_I h 23 1 = nI P ∧ eg_I h 23 2 = nI E ∧ ∀ x, tol P E x → eg_I h 24 x = nI (U x)
def Fl (h : eg_H) (p n : Nat) (f : Nat → Int32) : Prop := eg_kd h p = (3, eg_nf 3) ∧ eg_kd h (p + 1) = (100, 24) ∧ eg_P h p 0 = some (p + 1) ∧ eg_I h p 1 = nI n ∧ ∀ k, k < 24 → eg_I h (p + 1) k = f k
def eg_gr (S : List (Nat × Option Nat)) (h h' : eg_H) : Prop := (∃ k, h'.1 = h.1 ++ k) ∧ (∀ p i, p < 95 → eg_cov S p i = false → eg_I h' p i = eg_I h p i ∧ eg_L h' p i = eg_L h p i ∧ eg_P h' p i = eg_P h p i) ∧ (∀ p C, 95 ≤ p → Lw h p C → Lw h' p C) ∧ ∀ p n f, 95 ≤ p → Fl h p n f → Fl h' p n f
theorem gr_rfl {S : List (Nat × Option Nat)} {h : eg_H} : eg_gr S h h := ⟨⟨[], by simp⟩, fun _ _ _ _ => ⟨rfl, rfl, rfl⟩, fun _ _ _ h => h, fun _ _ _ _ h => h⟩
theorem gr_tr {S : List (Nat × Option Nat)} {h h1 h2 : eg_H} (a : eg_gr S h h1) (b : eg_gr S h1 h2) : eg_gr S h h2 := by
  obtain ⟨⟨k1, a1⟩, a2, a3, a4⟩ := a
  obtain ⟨⟨k2, b1⟩, b2, b3, b4⟩ := b
  exact ⟨⟨k1 ++ k2, by rw [b1, a1, List.append_assoc]⟩, fun p i hp hc => ⟨(b2 p i hp hc).1.trans (a2 p i hp hc).1, (b2 p i hp hc).2.1.trans (a2 p i hp hc).2.1, (b2 p i hp hc).2.2.trans (a2 p i hp hc).2.2⟩, fun p C hp L => b3 p C hp (a3 p C hp L), fun p n f hp F => b4 p n f hp (a4 p n f hp F)⟩
theorem gr_mono {S S' : List (Nat × Option Nat)} {h h' : eg_H} (a : eg_gr S h h') (hs : ∀ p i, p < 95 → eg_cov S' p i = false → eg_cov S p i = false) : eg_gr S' h h' := ⟨a.1, fun p i hp hc => a.2.1 p i hp (hs p i hp hc), a.2.2⟩
theorem gr_kd {S : List (Nat × Option Nat)} {h h' : eg_H} (a : eg_gr S h h') {p : Nat} (hp : p < eg_nc h) : eg_kd h' p = eg_kd h p := by
  obtain ⟨⟨k, e⟩, _⟩ := a
  have hp : p < h.1.length := hp
  unfold eg_kd
  rw [e]
  simp [List.getElem?_append_left hp]
theorem gr_nc {S : List (Nat × Option Nat)} {h h' : eg_H} (a : eg_gr S h h') : eg_nc h ≤ eg_nc h' := by
  obtain ⟨⟨k, e⟩, _⟩ := a
  unfold eg_nc
  rw [e, List.length_append]
  omega
theorem gr_stt {S : List (Nat × Option Nat)} {h h' : eg_H} (a : eg_gr S h h') (hs : eg_stt h) (hd : eg_P0.all (fun t => !(eg_cov S t.1 t.2.1)) = true) : eg_stt h' := by
  have h9 := hs.1
  refine ⟨Nat.le_trans hs.1 (gr_nc a), fun p hp => by rw [gr_kd a (by omega)]; exact hs.2.1 p hp, fun t ht => ?_⟩
  have h1 := List.all_eq_true.mp hd t ht
  have h95 : t.1 < 95 := by
    have : ∀ t ∈ eg_P0, t.1 < 95 := by decide
    exact this t ht
  rw [(a.2.1 t.1 t.2.1 h95 (by simpa using h1)).2.2]
  exact hs.2.2 t ht
theorem Lw_of {h h' : eg_H} {p : Nat} {C : List Int32} (L : Lw h p C) (hk : ∀ r, p ≤ r → r ≤ p + 3 → eg_kd h' r = eg_kd h r) (hP : ∀ i, eg_P h' p i = eg_P h p i) (hI : ∀ k, eg_I h' (p + 3) k = eg_I h (p + 3) k) : Lw h' p C := by
  obtain ⟨l0, l1, l2, l3, l4, l5, l6, l7, l8, l9⟩ := L
  exact ⟨l0, l1, by rw [hk p (by omega) (by omega)]; exact l2, by rw [hk (p + 1) (by omega) (by omega)]; exact l3, by rw [hk (p + 2) (by omega) (by omega)]; exact l4, by rw [hk (p + 3) (by omega) (by omega)]; exact l5, by rw [hP]; exact l6, by rw [hP]; exact l7, by rw [hP]; exact l8, fun k hk' => by rw [hI]; exact l9 k hk'⟩
theorem Fl_of {h h' : eg_H} {p n : Nat} {f : Nat → Int32} (F : Fl h p n f) (hk : ∀ r, p ≤ r → r ≤ p + 1 → eg_kd h' r = eg_kd h r) (hP : ∀ i, eg_P h' p i = eg_P h p i) (h1 : ∀ i, eg_I h' p i = eg_I h p i) (hI : ∀ k, eg_I h' (p + 1) k = eg_I h (p + 1) k) : Fl h' p n f := by
  obtain ⟨l2, l3, l6, l7, l9⟩ := F
  exact ⟨by rw [hk p (by omega) (by omega)]; exact l2, by rw [hk (p + 1) (by omega) (by omega)]; exact l3, by rw [hP]; exact l6, by rw [h1]; exact l7, fun k hk' => by rw [hI]; exact l9 k hk'⟩
theorem gr_eq {S : List (Nat × Option Nat)} {h h' : eg_H} (E : eg_eq S h h') (hS : S.all (fun t => t.1 < 95) = true) : eg_gr S h h' := by
  have hc : ∀ p i, 95 ≤ p → eg_cov S p i = false := by
    intro p i hp
    unfold eg_cov
    rw [List.any_eq_false]
    intro t ht
    have := List.all_eq_true.mp hS t ht
    have h1 : t.1 < 95 := by simpa using this
    have : (t.1 == p) = false := by simp; omega
    rw [this]
    simp
  refine ⟨⟨[], by rw [E.1]; simp⟩, fun p i _ h => E.2 p i h, fun p C hp L => Lw_of L (fun r _ _ => eq_kd E r) (fun i => (E.2 p i (hc p i hp)).2.2) (fun k => (E.2 (p + 3) k (hc _ _ (by omega))).1), fun p n f hp F => Fl_of F (fun r _ _ => eq_kd E r) (fun i => (E.2 p i (hc p i hp)).2.2) (fun i => (E.2 p i (hc p i hp)).1) (fun k => (E.2 (p + 1) k (hc _ _ (by omega))).1)⟩
theorem gr_Sq {h h' : eg_H} {q : Option Nat} {lw : eg_LW} (L : XL h q lw) (E : eg_eq (Sq q) h h') : eg_gr [] h h' := by
  cases q with
  | none => exact gr_eq E rfl
  | some p =>
    cases lw with
    | none => exact L.elim
    | some f =>
      obtain ⟨p9, t, n, w, h1, h2, l0, l1, l2, l3, l4, l5, l6, l7, l8, l9⟩ := L
      have hc : ∀ r i, ¬ r = p + 1 → ¬ r = p + 2 → eg_cov (Sq (some p)) r i = false := fun r i a b => cov_Sq (fun p' hp' => by cases hp'; exact ⟨a, b⟩)
      refine ⟨⟨[], by rw [E.1]; simp⟩, fun r i hr _ => E.2 r i (hc r i (by omega) (by omega)), fun r C hr L => ?_, fun r n f hr F => ?_⟩
      · have L0 := L
        obtain ⟨m0, m1, m2, m3, m4, m5, m6, m7, m8, m9⟩ := L
        have n1 : ¬ r = p + 1 := fun z => by subst z; rw [l3] at m2; cases m2
        have n2 : ¬ r = p + 2 := fun z => by subst z; rw [l4] at m2; cases m2
        have n3 : ¬ r + 3 = p + 1 := fun z => by
          have : r + 2 = p := by omega
          rw [this, l2] at m4; cases m4
        have n4 : ¬ r + 3 = p + 2 := fun z => by
          have : r + 1 = p := by omega
          rw [this, l2] at m3; cases m3
        exact Lw_of L0 (fun r _ _ => eq_kd E r) (fun i => (E.2 r i (hc r i n1 n2)).2.2) (fun k => (E.2 (r + 3) k (hc _ _ n3 n4)).1)
      · have F0 := F
        obtain ⟨m2, m3, m6, m7, m9⟩ := F
        have n1 : ¬ r = p + 1 := fun z => by subst z; rw [l3] at m2; cases m2
        have n2 : ¬ r = p + 2 := fun z => by subst z; rw [l4] at m2; cases m2
        have n3 : ¬ r + 1 = p + 1 := fun z => by
          have : r = p := by omega
          rw [this, l2] at m2; cases m2
        have n4 : ¬ r + 1 = p + 2 := fun z => by
          have : r = p + 1 := by omega
          rw [this, l3] at m2; cases m2
        exact Fl_of F0 (fun r _ _ => eq_kd E r) (fun i => (E.2 r i (hc r i n1 n2)).2.2) (fun i => (E.2 r i (hc r i n1 n2)).1) (fun k => (E.2 (r + 1) k (hc _ _ n3 n4)).1)
section XM
variable {h : eg_H} {U : Nat → Nat} {P E : Nat}
theorem XV_at (hs : eg_stt h) (V : XV h U P E) {x : Nat} (hx : tol P E x) (h4 : x < 40) : eg_aI h 100 24 (nI x) = some (nI (U x)) := by
  have hcl : (nI x).toNatClampNeg = x := nI_clamp (by omega)
  rw [aI_24 hs (nI_pos (by omega)) (by rw [hcl]; exact h4), hcl, V.2.2 x hx]
theorem X_ofPerson (hs : eg_stt h) (V : XV h U P E) (hU : Uok U P E) {p j : Nat} (hp : p < P) (hj : j < 4) : fX7_ofPerson h 23 (nI p) (nI j) = some (nI (U (4 + 4 * p + j)), h) := by
  have hP := hU.1.1
  unfold fX7_ofPerson
  rw [if_pos (iO_23 hs), Option.bind_some, show (4 : Int32) + 4 * nI p + nI j = nI (4 + 4 * p + j) by rw [nI_k4, show (4 : Int32) = nI 4 from rfl, nI_add, nI_add], if_neg (nI_pos (by omega)), gR_23 hs, rf_23_0 hs, Option.bind_some, al_24 hs, Option.bind_some, if_pos (nI_lt (by omega) (by omega)), Option.bind_some, XV_at hs V (by unfold tol; omega) (by omega), Option.bind_some]
theorem X_ofEgg (hs : eg_stt h) (V : XV h U P E) (hU : Uok U P E) {p j : Nat} (hp : p < E) (hj : j < 2) : fX7_ofEgg h 23 (nI p) (nI j) = some (nI (U (28 + 2 * p + j)), h) := by
  have hP := hU.1.2.1
  unfold fX7_ofEgg
  rw [if_pos (iO_23 hs), Option.bind_some, show (28 : Int32) + 2 * nI p + nI j = nI (28 + 2 * p + j) by rw [nI_k2, show (28 : Int32) = nI 28 from rfl, nI_add, nI_add], if_neg (nI_pos (by omega)), gR_23 hs, rf_23_0 hs, Option.bind_some, al_24 hs, Option.bind_some, if_pos (nI_lt (by omega) (by omega)), Option.bind_some, XV_at hs V (by unfold tol; omega) (by omega), Option.bind_some]
theorem nI_half {n : Nat} (hn : n < 2 ^ 31) : nI n / 2 = nI (n / 2) := by
  have h1 : ((n : Nat) : Int).tdiv 2 = ((n / 2 : Nat) : Int) := by rw [Int.tdiv_eq_ediv_of_nonneg (by omega)]; omega
  rw [← iI_n, ← iI_n, show (2 : Int32) = iI 2 from rfl, iI_div (by unfold i3; omega) (by unfold i3; omega) (by rw [h1]; unfold i3; omega), h1]
theorem X_limit (hs : eg_stt h) (V : XV h U P E) (hU : Uok U P E) {e : Nat} (he : e < E) : fX7_limit h 23 (nI e) = some (nI (limU U e), h) := by
  have hb := hU.2.2 e he
  have e1 : fX7_ofEgg h 23 (nI e) 1 = some (nI (U (28 + 2 * e + 1)), h) := X_ofEgg hs V hU he (j := 1) (by omega)
  have e0 : fX7_ofEgg h 23 (nI e) 0 = some (nI (U (28 + 2 * e)), h) := X_ofEgg hs V hU he (j := 0) (by omega)
  unfold fX7_limit limU
  rw [if_pos (iO_23 hs), e1, Option.bind_some, show 28 + 2 * e + 1 = 29 + 2 * e by omega]
  show (if nI (U (29 + 2 * e)) = 1 then _ else _) = _
  by_cases c : U (29 + 2 * e) = 1
  · rw [if_pos (show nI (U (29 + 2 * e)) = 1 by rw [c]; rfl), if_pos c, e0, Option.bind_some]
    show some (nI (U (28 + 2 * e)) / 2, h) = _
    rw [nI_half (by omega)]
  · rw [if_neg (fun w : nI (U (29 + 2 * e)) = 1 => c ((nI_eq (b := 1) (by omega) (by omega)).mp w)), if_neg c, e0, Option.bind_some]
theorem X_blows (hs : eg_stt h) (V : XV h U P E) (hU : Uok U P E) {d wd : Nat} (hd : d ≤ 9) : fX7_blows h 23 (nI d) (nI wd) = some (iI (blw U wd d), h) := by
  have h1 := hU.1.2.2.2.1
  have e1 : eg_aI h 100 24 1 = some (nI (U 1)) := XV_at hs V (x := 1) (by unfold tol; omega) (by omega)
  unfold fX7_blows blw
  rw [if_pos (iO_23 hs), gR_23 hs, rf_23_0 hs, Option.bind_some, e1, Option.bind_some]
  by_cases c : d = U 1
  · rw [if_pos (by rw [c]), if_pos c, iI_n]
  · rw [if_neg (fun w => c ((nI_eq (by omega) (by omega)).mp w)), if_neg c, ← iI_n wd, iI_neg]
theorem X_told (hs : eg_stt h) (V : XV h U P E) {x : Nat} (hx : x < 4) : fX7_told h 23 (nI x) = some (nI (U x), h) := by
  unfold fX7_told
  rw [if_pos (iO_23 hs), if_neg (nI_pos (by omega)), if_pos (show nI x < (4 : Int32) from nI_lt (b := 4) hx (by decide)), gR_23 hs, rf_23_0 hs, Option.bind_some, XV_at hs V (by unfold tol; omega) (by omega), Option.bind_some]
theorem X_slips (hs : eg_stt h) (V : XV h U P E) (hU : Uok U P E) {p : Nat} (hp : p < P) : fX7_slips h 23 (nI p) = some (nI (2 * U (4 + 4 * p) + 1), h) := by
  have hb := hU.2.1 p hp
  have e0 : fX7_ofPerson h 23 (nI p) 0 = some (nI (U (4 + 4 * p)), h) := X_ofPerson hs V hU hp (j := 0) (by omega)
  unfold fX7_slips
  rw [if_pos (iO_23 hs), e0, Option.bind_some]
  show (if nI (U (4 + 4 * p)) ≤ 0 then _ else _) = _
  by_cases c : U (4 + 4 * p) = 0
  · rw [c]; rfl
  · rw [if_neg (show ¬ nI (U (4 + 4 * p)) ≤ 0 from nI_ge (b := U (4 + 4 * p)) (a := 0) (by omega) (by omega)), nI_k2, nI_1]
theorem X_yards (hs : eg_stt h) (V : XV h U P E) {k s : Nat} (hk : 1 ≤ k) : fX7_yardsOf h 23 (nI k) (nI s) = some (nI (U 3 + (k - 1) * s), h) := by
  have e3 : eg_aI h 100 24 3 = some (nI (U 3)) := XV_at hs V (x := 3) (by unfold tol; omega) (by omega)
  unfold fX7_yardsOf
  rw [if_pos (iO_23 hs), gR_23 hs, rf_23_0 hs, Option.bind_some, e3, Option.bind_some]
  obtain ⟨k, rfl⟩ : ∃ k', k = k' + 1 := ⟨k - 1, by omega⟩
  rw [nI_m1, show k + 1 - 1 = k by omega, ← iI_n, ← iI_n, ← iI_n, ← iI_n, iI_mul, iI_add]
  congr 2
def S36 : List (Nat × Option Nat) := [(36, some 3), (36, some 4), (36, some 5), (36, some 6), (36, some 7), (36, some 8)]
theorem XV_eq {S : List (Nat × Option Nat)} {h' : eg_H} (V : XV h U P E) (G : eg_gr S h h') (c : eg_cov S 23 1 = false ∧ eg_cov S 23 2 = false ∧ ∀ i, eg_cov S 24 i = false) : XV h' U P E := ⟨by rw [(G.2.1 23 1 (by omega) c.1).1]; exact V.1, by rw [(G.2.1 23 2 (by omega) c.2.1).1]; exact V.2.1, fun x hx => by rw [(G.2.1 24 x (by omega) (c.2.2 x)).1]; exact V.2.2 x hx⟩
theorem X_take (hs : eg_stt h) (V : XV h U P E) (hU : Uok U P E) {p r e d wd : Nat} (hp : p < P) (hr : r < P) (he : e < E) (hd : d ≤ 1) : ∃ h', fX11_take h 36 (nI (10 * p + r)) (nI (10 * e + d)) (nI wd) = some h' ∧ eg_eq S36 h h' ∧ XT h' (tOf U wd p r e d) := by
  have hP := hU.1.1
  have hE := hU.1.2.1
  let g1 := eg_sI h 36 3 (nI (U (4 + 4 * p)))
  let g2 := eg_sI g1 36 4 (nI (U (7 + 4 * p)))
  let g3 := eg_sI g2 36 5 (nI (U (5 + 4 * r)))
  let g4 := eg_sI g3 36 6 (nI (U (6 + 4 * r)))
  let g5 := eg_sI g4 36 7 (iI (blw U wd d))
  let g6 := eg_sI g5 36 8 (nI (limU U e))
  have E1 : eg_eq S36 h g1 := eq_sI eq_rfl rfl
  have E2 : eg_eq S36 h g2 := eq_sI E1 rfl
  have E3 : eg_eq S36 h g3 := eq_sI E2 rfl
  have E4 : eg_eq S36 h g4 := eq_sI E3 rfl
  have E5 : eg_eq S36 h g5 := eq_sI E4 rfl
  have E6 : eg_eq S36 h g6 := eq_sI E5 rfl
  have V_ : ∀ g, eg_eq S36 h g → XV g U P E := fun g E => XV_eq V (gr_eq E (by decide)) ⟨rfl, rfl, fun _ => rfl⟩
  have a1 : fX7_ofPerson h 23 (nI p) 0 = some (nI (U (4 + 4 * p)), h) := X_ofPerson hs V hU hp (j := 0) (by omega)
  have a2 : fX7_ofPerson g1 23 (nI p) 3 = some (nI (U (7 + 4 * p)), g1) := by
    have := X_ofPerson (show eg_stt g1 from hs) (V_ g1 E1) hU hp (j := 3) (by omega)
    rw [show 4 + 4 * p + 3 = 7 + 4 * p by omega] at this; exact this
  have a3 : fX7_ofPerson g2 23 (nI r) 1 = some (nI (U (5 + 4 * r)), g2) := by
    have := X_ofPerson (show eg_stt g2 from hs) (V_ g2 E2) hU hr (j := 1) (by omega)
    rw [show 4 + 4 * r + 1 = 5 + 4 * r by omega] at this; exact this
  have a4 : fX7_ofPerson g3 23 (nI r) 2 = some (nI (U (6 + 4 * r)), g3) := by
    have := X_ofPerson (show eg_stt g3 from hs) (V_ g3 E3) hU hr (j := 2) (by omega)
    rw [show 4 + 4 * r + 2 = 6 + 4 * r by omega] at this; exact this
  have a5 := X_blows (show eg_stt g4 from hs) (V_ g4 E4) hU (d := d) (wd := wd) (by omega)
  have a6 := X_limit (show eg_stt g5 from hs) (V_ g5 E5) hU he
  refine ⟨g6, ?_, E6, ?_⟩
  · unfold fX11_take
    rw [if_pos (iO_36 hs), (i10 p r (by omega) (by omega)).1, (i10 p r (by omega) (by omega)).2, (i10 e d (by omega) (by omega)).1, (i10 e d (by omega) (by omega)).2, Option.bind_some, Option.bind_some, gR_36 hs, rf_36_0 hs, Option.bind_some, a1, Option.bind_some]
    show ((eg_pI h 11 3 36 _).bind _) = _
    rw [pI_36 hs, Option.bind_some]
    show ((eg_gR g1 11 0 36).bind _) = _
    rw [gR_36 (show eg_stt g1 from hs), rf_36_0 (show eg_stt g1 from hs), Option.bind_some, a2, Option.bind_some]
    show ((eg_pI g1 11 4 36 _).bind _) = _
    rw [pI_36 (show eg_stt g1 from hs), Option.bind_some]
    show ((eg_gR g2 11 0 36).bind _) = _
    rw [gR_36 (show eg_stt g2 from hs), rf_36_0 (show eg_stt g2 from hs), Option.bind_some, a3, Option.bind_some]
    show ((eg_pI g2 11 5 36 _).bind _) = _
    rw [pI_36 (show eg_stt g2 from hs), Option.bind_some]
    show ((eg_gR g3 11 0 36).bind _) = _
    rw [gR_36 (show eg_stt g3 from hs), rf_36_0 (show eg_stt g3 from hs), Option.bind_some, a4, Option.bind_some]
    show ((eg_pI g3 11 6 36 _).bind _) = _
    rw [pI_36 (show eg_stt g3 from hs), Option.bind_some]
    show ((eg_gR g4 11 0 36).bind _) = _
    rw [gR_36 (show eg_stt g4 from hs), rf_36_0 (show eg_stt g4 from hs), Option.bind_some, a5, Option.bind_some]
    show ((eg_pI g4 11 7 36 _).bind _) = _
    rw [pI_36 (show eg_stt g4 from hs), Option.bind_some]
    show ((eg_gR g5 11 0 36).bind _) = _
    rw [gR_36 (show eg_stt g5 from hs), rf_36_0 (show eg_stt g5 from hs), Option.bind_some, a6, Option.bind_some]
    show ((eg_pI g5 11 8 36 _).bind _) = _
    rw [pI_36 (show eg_stt g5 from hs), Option.bind_some]
  · refine ⟨rfl, rfl, rfl, rfl, rfl, rfl⟩
end XM
