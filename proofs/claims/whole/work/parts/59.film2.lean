theorem M_isIn (h : eg_H) (x a b : Int64) : fX13_isIn h x a b = some (if x < a ∨ b < x then 0 else 1, h) := by
  unfold fX13_isIn
  by_cases h1 : x < a
  · rw [if_pos h1, if_pos (Or.inl h1)]
  · by_cases h2 : b < x
    · rw [if_neg h1, if_pos h2, if_pos (Or.inr h2)]
    · rw [if_neg h1, if_neg h2, if_neg (by intro z; rcases z with z | z; exact h1 z; exact h2 z)]
theorem i64_lt (x y : Int32) : x.toInt64 < y.toInt64 ↔ x < y := by
  rw [Int64.lt_iff_toInt_lt, Int32.lt_iff_toInt_lt, Int32.toInt_toInt64, Int32.toInt_toInt64]
theorem M_in (h : eg_H) (x a b : Int32) : fX13_isIn h x.toInt64 a.toInt64 b.toInt64 = some (if x < a ∨ b < x then 0 else 1, h) := by
  rw [M_isIn]
  congr 2
  by_cases hc : x < a ∨ b < x
  · rw [if_pos hc, if_pos (by rw [i64_lt, i64_lt]; exact hc)]
  · rw [if_neg hc, if_neg (by rw [i64_lt, i64_lt]; exact hc)]
def Tt (n : Nat) (t : Nat → Int32) (h : eg_H) : Prop := eg_stt h ∧ n ≤ 160 ∧ eg_I h 54 6 = nI n ∧ byt n t ∧ ∀ i, i < n → eg_I h 55 i = (t i).toInt8.toInt32
def SM_rd : List (Nat × Option Nat) := [(54, some 5), (54, some 8), (54, some 9), (54, some 10), (54, some 11), (54, some 33), (66, none)]
theorem Tt_open {n : Nat} {t : Nat → Int32} {h : eg_H} (H : Tt n t h) : Tm 55 0 n t (eg_sI (eg_sI (eg_sP h 54 5 (some 55)) 54 8 0) 54 9 (nI n)) := by
  obtain ⟨h1, h2, h3, h4, h5⟩ := H
  refine ⟨stt_sP (x := some 55) h1 (by decide), Or.inl ⟨rfl, by omega⟩, ?_, ?_, ?_, h4, fun i hi => ?_⟩
  · show eg_P (eg_sP h 54 5 (some 55)) 54 5 = _
    rw [P_sP, if_pos ⟨rfl, rfl⟩]
  · rw [I_sI, if_neg (by decide), I_sI, if_pos ⟨rfl, rfl⟩]; rfl
  · rw [I_sI, if_pos ⟨rfl, rfl⟩]
  · rw [I_sI, if_neg (by omega), I_sI, if_neg (by omega), I_sP, Nat.zero_add]
    exact h5 i hi
theorem mfi_eq {S : List (Nat × Option Nat)} {h g : eg_H} (a f : Int32) (E : eg_eq S h g) (c1 : eg_cov S 54 10 = true) (c2 : eg_cov S 54 11 = true) : eg_eq S h (mfi g a f) := by
  rw [← mfi_11 g a 0 f, ← mfi_10 g 0 0 a]
  have e : mfi g 0 0 = eg_sI (eg_sI g 54 10 0) 54 11 0 := by
    conv => rhs; rw [← mfi_id g]
    rw [mfi_10, mfi_11]
  rw [e]
  exact eq_sI (eq_sI (eq_sI (eq_sI E c1) c2) c1) c2
theorem byt_sg {n : Nat} {t : Nat → Int32} (hb : byt n t) (i : Nat) : sg t n i = 0 ↔ n ≤ i := by
  unfold sg
  by_cases hi : i < n
  · rw [if_pos hi]
    obtain ⟨c, c1, c2, c3⟩ := hb i hi
    rw [c3]
    constructor
    · intro z; exact absurd z (nI_ne0 (by omega) (by omega))
    · intro z; omega
  · rw [if_neg hi]
    constructor
    · intro _; omega
    · intro _; rfl
theorem byt_lk {n : Nat} {t : Nat → Int32} (hb : byt n t) (i : Nat) : lk t n i = -1 ↔ n ≤ i := by
  unfold lk
  by_cases hi : i < n
  · rw [if_pos hi]
    obtain ⟨c, c1, c2, c3⟩ := hb i hi
    rw [c3]
    constructor
    · intro z
      have : (nI c).toInt = (-1 : Int32).toInt := by rw [z]
      rw [nI_toInt (by omega)] at this
      have e : (-1 : Int32).toInt = -1 := rfl
      omega
    · intro z; omega
  · rw [if_neg hi]
    constructor
    · intro _; omega
    · intro _; rfl
theorem M_film {n : Nat} {t : Nat → Int32} {h : eg_H} (H : Tt n t h) : ∃ g a, fX13_readFilm h 54 = some (mfi g a (flm t n)) ∧ Fm n t (fc t n) g ∧ eg_eq SM_rd h (mfi g a (flm t n)) := by
  have hs := H.1
  have hn := H.2.1
  have hb := H.2.2.2.1
  have To := Tt_open H
  have so := To.1
  generalize hg0 : eg_sI (eg_sI (eg_sP h 54 5 (some 55)) 54 8 0) 54 9 (nI n) = g0 at To so
  have E0 : eg_eq SM_rd h g0 := by
    rw [← hg0]
    exact eq_sI (eq_sI (eq_sP eq_rfl rfl) rfl) rfl
  have T1 : Tm 55 0 n t (eg_sI g0 54 33 0) := by
    obtain ⟨a1, a2, a3, a4, a5, a6, a7⟩ := To
    refine ⟨a1, a2, a3, ?_, ?_, a6, fun i hi => ?_⟩
    · rw [I_sI, if_neg (by decide)]; exact a4
    · rw [I_sI, if_neg (by decide)]; exact a5
    · rw [I_sI, if_neg (by omega)]; exact a7 i hi
  have F0 : Fm n t 0 (eg_sI g0 54 33 0) := ⟨T1, by rw [I_sI, if_pos ⟨rfl, rfl⟩]; rfl, fun i hi => by omega⟩
  have hop : fX13_opens h 54 55 0 (nI n) = some (mfi g0 0 (-1)) := by rw [M_opens (a := 0) (f := 0) hs, hg0]
  obtain ⟨g1, f1, E1, e1⟩ := M_film_L 24 0 eg_F _ rfl (by rw [eg_F_eq]; omega) (fp_0 t n) F0
  change Fm n t (fc t n) g1 at f1
  change fX13_readFilm_L23 eg_F (mfi (eg_sI g0 54 33 0) (nI (skp t n 0)) (-1)) 54 = some (if dg (sg t n (fp t n (fc t n))) then .inr (54, mfi g1 (nI (fp t n (fc t n))) (-1)) else .inl (54, mfi g1 (nI (fp t n (fc t n))) (-1))) at e1
  have E2 : eg_eq SM_rd h g1 := eq_tr (eq_sI E0 rfl) (eq_mono E1 (fun p i hc => by
    have hc2 : eg_cov SM_film p i = false := by
      simp only [eg_cov, SM_rd, SM_film, List.any_cons, List.any_nil, Bool.or_eq_false_iff] at hc ⊢
      exact ⟨hc.2.2.2.2.2.1, hc.2.2.2.2.2.2.1, trivial⟩
    exact hc2))
  have hK := fc_le t n
  have s1 : ∀ a c, eg_stt (mfi g1 a c) := fun _ _ => f1.1.1
  have sm : ∀ a c, eg_stt (mfi g0 a c) := fun _ _ => so
  have hfp : fp t n (fc t n) ≤ n ∨ fp t n (fc t n) ≤ 1000 := by
    rcases Nat.eq_zero_or_pos (fc t n) with z | z
    · rw [z]; exact Or.inl (fp_0 t n)
    · right
      obtain ⟨m, hm⟩ : ∃ m, fc t n = m + 1 := ⟨fc t n - 1, by omega⟩
      rw [hm]
      have key : ∀ k, fp t n k ≤ n + k := by
        intro k
        induction k with
        | zero => have := fp_0 t n; omega
        | succ k ih =>
          show skp t n (fp t n k + 1) ≤ n + (k + 1)
          rcases skp_le1 t n (fp t n k + 1) with q | q <;> omega
      have := key (m + 1)
      omega
  have hfp2 : fp t n (fc t n) ≤ 1000 := by omega
  have hl0 := M_look T1 (f := -1) (i := 0) (by omega)
  rw [nI_0] at hl0
  unfold fX13_readFilm
  rw [if_pos (iO_54 hs), gR_54 hs, rf_54_1 hs, Option.bind_some, gI_54 hs, Option.bind_some, H.2.2.1, hop, Option.bind_some, pI_54 (sm _ _), Option.bind_some, mfi_sI _ _ _ _ (by decide), hl0, Option.bind_some]
  show ∃ g a, ((fX13_readFilm_L23 eg_F (mfi (eg_sI g0 54 33 0) (nI (skp t n 0)) (-1)) 54).bind _) = _ ∧ _ ∧ _
  rw [e1]
  by_cases hd : dg (sg t n (fp t n (fc t n)))
  · have hne : sg t n (fp t n (fc t n)) ≠ 0 := fun z => by rw [z] at hd; exact dg_0 hd
    have hfl : flm t n = nI (fp t n (fc t n)) := by unfold flm; rw [if_pos (Or.inr hne)]
    refine ⟨g1, nI (fp t n (fc t n)), ?_, f1, mfi_eq _ _ E2 rfl rfl⟩
    rw [if_pos hd, Option.bind_some]
    show (fX13_fails (mfi g1 (nI (fp t n (fc t n))) (-1)) 54).bind _ = _
    rw [M_fails f1.1.1, Option.bind_some, if_pos rfl, hfl]
  · rw [if_neg hd, Option.bind_some]
    show ∃ g a, ((eg_gI (mfi g1 (nI (fp t n (fc t n))) (-1)) 13 33 54).bind _) = _ ∧ _ ∧ _
    rw [gI_54 (s1 _ _), Option.bind_some, mfi_i _ _ _ (by decide), f1.2.1]
    by_cases h0 : fc t n = 0
    · have hfl : flm t n = nI (fp t n (fc t n)) := by unfold flm; rw [if_pos (Or.inl h0)]
      refine ⟨g1, nI (fp t n (fc t n)), ?_, f1, mfi_eq _ _ E2 rfl rfl⟩
      rw [if_pos (by rw [h0]; rfl), M_fails f1.1.1, Option.bind_some, if_pos rfl, hfl]
    · rw [if_neg (nI_ne0 (by omega) (by omega)), M_look f1.1 (by omega), Option.bind_some, fp_skp]
      show ∃ g a, (if lk t n (fp t n (fc t n)) = -1 then _ else _) = _ ∧ _ ∧ _
      by_cases hz : sg t n (fp t n (fc t n)) = 0
      · have hfl : flm t n = -1 := by unfold flm; rw [if_neg (by intro q; rcases q with q | q; exact h0 q; exact q hz)]
        refine ⟨g1, nI (fp t n (fc t n)), ?_, f1, mfi_eq _ _ E2 rfl rfl⟩
        rw [if_pos ((byt_lk hb _).mpr ((byt_sg hb _).mp hz)), hfl]
      · have hfl : flm t n = nI (fp t n (fc t n)) := by unfold flm; rw [if_pos (Or.inr hz)]
        refine ⟨g1, nI (fp t n (fc t n)), ?_, f1, mfi_eq _ _ E2 rfl rfl⟩
        rw [if_neg (fun z => hz ((byt_sg hb _).mpr ((byt_lk hb _).mp z))), M_fails f1.1.1, Option.bind_some, if_pos rfl, hfl]
