def Rx : List (Nat × Option Nat) := [(54, some 0), (54, some 5), (54, some 8), (54, some 9), (54, some 10), (54, some 11), (54, some 12), (54, some 13), (54, some 14), (54, some 17), (54, some 25), (54, some 27), (54, some 28), (54, some 33), (54, some 36), (54, some 37), (54, some 38), (54, some 40), (54, some 41), (54, some 44), (54, some 45), (54, some 54), (54, some 55), (54, some 59), (54, some 60), (54, some 67), (54, some 68), (58, none), (60, none), (62, none), (64, none), (66, none), (68, none), (69, none), (70, none), (71, none), (75, none), (76, none), (77, none), (78, none), (79, none), (80, none), (81, none), (86, none)]
theorem Rx_lo : ∀ p i, p < 54 ∨ 94 ≤ p → eg_cov Rx p i = false := by
  intro p i hp
  have hh : ∀ t ∈ Rx, 54 ≤ t.1 ∧ t.1 < 94 := by decide
  unfold eg_cov
  rw [List.any_eq_false]
  intro t ht
  have := hh t ht
  have : (t.1 == p) = false := by simp; omega
  rw [this]
  simp
theorem eq_rf {h h' : eg_H} (Q : eg_eq Rx h h') : eg_rf h h' := ⟨Q.1, fun p i hp => Q.2 p i (Rx_lo p i hp)⟩
theorem RI_scr {h h' : eg_H} {σ : eg_S} (R : RI h σ) (Q : eg_eq Rx h h') : RI h' σ := by
  obtain ⟨hs, W, ⟨t1, t2⟩, ⟨v1, v2, v3, v4, v5⟩, ⟨b1, b2, b3⟩, ⟨c1, c2⟩, ⟨d1, d2⟩, ⟨e1, e2⟩, ⟨f1, f2⟩, ⟨g1, g2⟩, i1, i2⟩ := R
  have g : ∀ p i, eg_cov Rx p i = false → eg_I h' p i = eg_I h p i := fun p i a => (Q.2 p i a).1
  refine ⟨eq_stt Q hs (by decide), W, ⟨?_, fun i hi => ?_⟩, ⟨fun x hx => ?_, fun x hx => ?_, fun x hx => ?_, ?_, ?_⟩, ⟨?_, ?_, fun j hj => ⟨?_, fun i hi => ?_⟩⟩, ⟨?_, fun f hf => ⟨?_, fun k hk => ?_⟩⟩, ⟨?_, fun i hi => ⟨?_, ?_, ?_⟩⟩, ⟨?_, fun i hi => ⟨?_, ?_, ?_, ?_⟩⟩, ⟨?_, fun i hi => ⟨?_, ?_, ?_⟩⟩, ⟨?_, fun i hi => ⟨?_, ?_, ?_⟩⟩, ?_, fun i hi hh => ?_⟩
  · rw [g 54 6 rfl]; exact t1
  · rw [g 55 i rfl]; exact t2 i hi
  · rw [g 59 x rfl]; exact v1 x hx
  · rw [g 61 x rfl]; exact v2 x hx
  · rw [g 63 x rfl]; exact v3 x hx
  · rw [g 54 24 rfl]; exact v4
  · rw [g 54 26 rfl]; exact v5
  · rw [g 54 7 rfl]; exact b1
  · rw [g 54 34 rfl]; exact b2
  · rw [g 57 j rfl]; exact (b3 j hj).1
  · rw [g 56 _ rfl]; exact (b3 j hj).2 i hi
  · rw [g 54 32 rfl]; exact c1
  · rw [g 67 f rfl]; exact (c2 f hf).1
  · rw [g 65 _ rfl]; exact (c2 f hf).2 k hk
  · rw [g 54 49 rfl]; exact d1
  · rw [g 72 i rfl]; exact (d2 i hi).1
  · rw [g 73 i rfl]; exact (d2 i hi).2.1
  · rw [g 74 i rfl]; exact (d2 i hi).2.2
  · rw [g 54 65 rfl]; exact e1
  · rw [g 82 i rfl]; exact (e2 i hi).1
  · rw [g 83 i rfl]; exact (e2 i hi).2.1
  · rw [g 84 i rfl]; exact (e2 i hi).2.2.1
  · rw [g 85 i rfl]; exact (e2 i hi).2.2.2
  · rw [g 54 72 rfl]; exact f1
  · rw [g 87 i rfl]; exact (f2 i hi).1
  · rw [g 88 i rfl]; exact (f2 i hi).2.1
  · rw [g 89 i rfl]; exact (f2 i hi).2.2
  · rw [g 54 77 rfl]; exact g1
  · rw [g 91 i rfl]; exact (g2 i hi).1
  · rw [g 92 i rfl]; exact (g2 i hi).2.1
  · rw [g 93 i rfl]; exact (g2 i hi).2.2
  · rw [g 54 78 rfl]; exact i1
  · rw [g 90 i rfl]; exact i2 i hi hh
def dA (x : Int32) : Nat := dN x / 10
def dB (x : Int32) : Nat := dN x % 10
theorem dN_n {n : Nat} (h : n < 2 ^ 31) : dN (nI n) = n := by
  unfold dN
  rw [← iI_n, iI_t (by unfold i3; omega)]
  omega
theorem dAB {a b : Nat} (ha : a ≤ 100000) (hb : b ≤ 9) : dA (nI (10 * a + b)) = a ∧ dB (nI (10 * a + b)) = b := by
  unfold dA dB
  rw [dN_n (by omega)]
  omega
theorem pos_n {x : Int32} (h : ¬ x < 0) : ∃ n, n < 2 ^ 31 ∧ x = nI n := by
  have h1 : ¬ x.toInt < 0 := fun w => h (Int32.lt_iff_toInt_lt.mpr w)
  have h2 := (i3_t x).2
  refine ⟨x.toInt.toNat, by omega, ?_⟩
  rw [← iI_n, ← iI_o x]
  congr 1
  rw [iI_o]
  omega
abbrev G1 (P : Nat) (x : Int32) : Prop := ¬ x < 0 ∧ ¬ nI P ≤ x
abbrev G2 (P : Nat) (x : Int32) : Prop := ¬ x < 0 ∧ ¬ nI P ≤ x / 10 ∧ ¬ nI P ≤ x % 10 ∧ ¬ x / 10 = x % 10
abbrev GE (E : Nat) (x : Int32) : Prop := ¬ x < 0 ∧ ¬ nI E ≤ x / 10 ∧ ¬ (1 : Int32) < x % 10
abbrev GI (lo hi x : Int32) : Prop := ¬ x < lo ∧ ¬ hi < x
theorem G1_n {P : Nat} {x : Int32} (hP : P < 2 ^ 31) (h : G1 P x) : ∃ n, n < P ∧ x = nI n := by
  obtain ⟨n, hn, rfl⟩ := pos_n h.1
  refine ⟨n, ?_, rfl⟩
  rcases Nat.lt_or_ge n P with z | z
  · exact z
  · exact absurd (nI_le z hn) h.2
theorem n10 {n : Nat} (hn : n < 2 ^ 31) : nI n / 10 = nI (n / 10) ∧ nI n % 10 = nI (n % 10) := by
  have h1 : ((n : Nat) : Int).tdiv 10 = ((n / 10 : Nat) : Int) := by rw [Int.tdiv_eq_ediv_of_nonneg (by omega)]; omega
  have h2 : ((n : Nat) : Int).tmod 10 = ((n % 10 : Nat) : Int) := by rw [Int.tmod_eq_emod_of_nonneg (by omega)]; omega
  constructor
  · rw [← iI_n, ← iI_n, show (10 : Int32) = iI 10 from rfl, iI_div (by unfold i3; omega) (by unfold i3; omega) (by rw [h1]; unfold i3; omega), h1]
  · rw [← iI_n, ← iI_n, show (10 : Int32) = iI 10 from rfl, iI_mod (by unfold i3; omega) (by unfold i3; omega), h2]
theorem G2_n {P : Nat} {x : Int32} (hP : P ≤ 6) (h : G2 P x) : ∃ a b, a < P ∧ b < P ∧ ¬ a = b ∧ x = nI (10 * a + b) := by
  obtain ⟨h1, h2, h3, h4⟩ := h
  obtain ⟨n, hn, rfl⟩ := pos_n h1
  rw [(n10 hn).1] at h2 h4
  rw [(n10 hn).2] at h3 h4
  refine ⟨n / 10, n % 10, ?_, ?_, fun z => h4 (by rw [z]), by rw [show 10 * (n / 10) + n % 10 = n by omega]⟩
  · rcases Nat.lt_or_ge (n / 10) P with z | z
    · exact z
    · exact absurd (nI_le z (by omega)) h2
  · rcases Nat.lt_or_ge (n % 10) P with z | z
    · exact z
    · exact absurd (nI_le z (by omega)) h3
theorem GE_n {E : Nat} {x : Int32} (hE : E ≤ 6) (h : GE E x) : ∃ e d, e < E ∧ d ≤ 1 ∧ x = nI (10 * e + d) := by
  obtain ⟨h1, h2, h3⟩ := h
  obtain ⟨n, hn, rfl⟩ := pos_n h1
  rw [(n10 hn).1] at h2
  rw [(n10 hn).2] at h3
  refine ⟨n / 10, n % 10, ?_, ?_, by rw [show 10 * (n / 10) + n % 10 = n by omega]⟩
  · rcases Nat.lt_or_ge (n / 10) E with z | z
    · exact z
    · exact absurd (nI_le z (by omega)) h2
  · rcases Nat.lt_or_ge (n % 10) 2 with z | z
    · omega
    · exact absurd (show (1 : Int32) < nI (n % 10) from nI_lt (a := 1) (by omega) (by omega)) h3
theorem GI_n {lo hi : Nat} {x : Int32} (hl : lo < 2 ^ 31) (hh : hi < 2 ^ 31) (h : GI (nI lo) (nI hi) x) : ∃ n, lo ≤ n ∧ n ≤ hi ∧ x = nI n := by
  have h0 : ¬ x < 0 := by
    intro w
    refine h.1 ?_
    rw [Int32.lt_iff_toInt_lt] at w ⊢
    rw [← iI_n, iI_t (by unfold i3; omega)]
    have : (0 : Int32).toInt = 0 := by decide
    omega
  obtain ⟨n, hn, rfl⟩ := pos_n h0
  refine ⟨n, ?_, ?_, rfl⟩
  · rcases Nat.lt_or_ge n lo with z | z
    · exact absurd (nI_lt z hl) h.1
    · exact z
  · rcases Nat.lt_or_ge hi n with z | z
    · exact absurd (nI_lt z hn) h.2
    · exact z
section XQ
variable {h : eg_H} {U : Nat → Nat} {P E : Nat}
theorem X_isPerson (hs : eg_stt h) (V : XV h U P E) (x : Int32) : fX7_isPerson h 23 x = some (if G1 P x then 1 else 0, h) := by
  unfold fX7_isPerson
  rw [if_pos (iO_23 hs)]
  by_cases c1 : x < 0
  · rw [if_pos c1, if_neg (fun w => w.1 c1)]
  · rw [if_neg c1, gI_23 hs, Option.bind_some, V.1]
    by_cases c2 : nI P ≤ x
    · rw [if_pos c2, if_neg (fun w => w.2 c2)]
    · rw [if_neg c2, if_pos ⟨c1, c2⟩]
theorem X_isEgg (hs : eg_stt h) (V : XV h U P E) (x : Int32) : fX7_isEgg h 23 x = some (if G1 E x then 1 else 0, h) := by
  unfold fX7_isEgg
  rw [if_pos (iO_23 hs)]
  by_cases c1 : x < 0
  · rw [if_pos c1, if_neg (fun w => w.1 c1)]
  · rw [if_neg c1, gI_23 hs, Option.bind_some, V.2.1]
    by_cases c2 : nI E ≤ x
    · rw [if_pos c2, if_neg (fun w => w.2 c2)]
    · rw [if_neg c2, if_pos ⟨c1, c2⟩]
theorem X_isPair (hs : eg_stt h) (V : XV h U P E) (x : Int32) : fX7_isPair h 23 x = some (if G2 P x then 1 else 0, h) := by
  unfold fX7_isPair
  rw [if_pos (iO_23 hs)]
  by_cases c1 : x < 0
  · rw [if_pos c1, if_neg (fun w => w.1 c1)]
  · rw [if_neg c1, gI_23 hs, Option.bind_some, V.1]
    by_cases c2 : nI P ≤ x / 10
    · rw [if_pos c2, if_neg (fun w => w.2.1 c2)]
    · rw [if_neg c2, Option.bind_some]
      by_cases c3 : nI P ≤ x % 10
      · rw [if_pos c3, if_neg (fun w => w.2.2.1 c3)]
      · rw [if_neg c3]
        by_cases c4 : x / 10 = x % 10
        · rw [if_pos c4, if_neg (fun w => w.2.2.2 c4)]
        · rw [if_neg c4, if_pos ⟨c1, c2, c3, c4⟩]
theorem X_isEggEnd (hs : eg_stt h) (V : XV h U P E) (x : Int32) : fX7_isEggEnd h 23 x = some (if GE E x then 1 else 0, h) := by
  unfold fX7_isEggEnd
  rw [if_pos (iO_23 hs)]
  by_cases c1 : x < 0
  · rw [if_pos c1, if_neg (fun w => w.1 c1)]
  · rw [if_neg c1, gI_23 hs, Option.bind_some, V.2.1]
    by_cases c2 : nI E ≤ x / 10
    · rw [if_pos c2, if_neg (fun w => w.2.1 c2)]
    · rw [if_neg c2]
      by_cases c3 : (1 : Int32) < x % 10
      · rw [if_pos c3, if_neg (fun w => w.2.2 c3)]
      · rw [if_neg c3, if_pos ⟨c1, c2, c3⟩]
theorem X_isYards (h : eg_H) (x : Int32) : fX12_isYards h x = some (if GI (nI 1) (nI 60) x then 1 else 0, h) := by
  unfold fX12_isYards
  by_cases c1 : x < (1 : Int32)
  · rw [if_pos c1, if_neg (fun w => w.1 c1)]
  · rw [if_neg c1]
    by_cases c2 : (60 : Int32) < x
    · rw [if_pos c2, if_neg (fun w => w.2 c2)]
    · rw [if_neg c2, if_pos ⟨c1, c2⟩]
theorem lt_1 {x : Int32} (h0 : ¬ x < 0) (h1 : ¬ (1 : Int32) < x) : x = 0 ∨ x = 1 := by
  obtain ⟨n, hn, rfl⟩ := pos_n h0
  have : n ≤ 1 := by
    rcases Nat.lt_or_ge 1 n with z | z
    · exact absurd (show (1 : Int32) < nI n from nI_lt (a := 1) z hn) h1
    · exact z
  rcases (by omega : n = 0 ∨ n = 1) with rfl | rfl
  · exact Or.inl rfl
  · exact Or.inr rfl
theorem X_isEnd (h : eg_H) (x : Int32) : fX12_isEnd h x = some (if GI (nI 0) (nI 1) x then 1 else 0, h) := by
  unfold fX12_isEnd
  by_cases c1 : x = 0
  · subst c1
    rw [if_pos rfl, if_pos ⟨by decide, by decide⟩]
  · rw [if_neg c1]
    by_cases c2 : x = 1
    · subst c2
      rw [if_pos rfl, if_pos ⟨by decide, by decide⟩]
    · rw [if_neg c2, if_neg (fun w => (lt_1 w.1 w.2).elim c1 c2)]
theorem X_isEither (h : eg_H) (x : Int32) : fX12_isEither h x = some (if GI (nI 0) (nI 1) x then 1 else 0, h) := X_isEnd h x
theorem X_isCourse (hs : eg_stt h) (V : XV h U P E) (x c : Int32) : fX12_isCourse h 16 x c = some (if G2 P x ∧ GE E c then 1 else 0, h) := by
  unfold fX12_isCourse
  rw [if_pos (iO_16 hs), gR_16 hs, rf_16_3 hs, Option.bind_some, X_isPair hs V x, Option.bind_some]
  show (if (if G2 P x then (1 : Int32) else 0) = 0 then _ else _) = _
  by_cases c1 : G2 P x
  · rw [if_pos c1, if_neg (by decide), gR_16 hs, rf_16_3 hs, Option.bind_some, X_isEggEnd hs V c, Option.bind_some]
    show (if (if GE E c then (1 : Int32) else 0) = 0 then _ else _) = _
    by_cases c2 : GE E c
    · rw [if_pos c2, if_neg (by decide), if_pos ⟨c1, c2⟩]
    · rw [if_neg c2, if_pos rfl, if_neg (fun w => c2 w.2)]
  · rw [if_neg c1, if_pos rfl, if_neg (fun w => c1 w.1)]
theorem X_isThrow (hs : eg_stt h) (V : XV h U P E) (x c y : Int32) : fX12_isThrow h 16 x c y = some (if (G2 P x ∧ GE E c) ∧ GI (nI 1) (nI 60) y then 1 else 0, h) := by
  unfold fX12_isThrow
  rw [if_pos (iO_16 hs), X_isCourse hs V x c, Option.bind_some]
  show (if (if G2 P x ∧ GE E c then (1 : Int32) else 0) = 0 then _ else _) = _
  by_cases c1 : G2 P x ∧ GE E c
  · rw [if_pos c1, if_neg (by decide), X_isYards h y, Option.bind_some]
    show (if (if GI (nI 1) (nI 60) y then (1 : Int32) else 0) = 0 then _ else _) = _
    by_cases c2 : GI (nI 1) (nI 60) y
    · rw [if_pos c2, if_neg (by decide), if_pos ⟨c1, c2⟩]
    · rw [if_neg c2, if_pos rfl, if_neg (fun w => c2 w.2)]
  · rw [if_neg c1, if_pos rfl, if_neg (fun w => c1 w.1)]
end XQ
section MQ
variable {h : eg_H} {U : Nat → Nat} {P E : Nat}
theorem M_isPerson (hs : eg_stt h) (V : RV h U P E) (x : Int32) : fX13_isPerson h 54 x = some (if G1 P x then 1 else 0, h) := by
  unfold fX13_isPerson
  rw [if_pos (iO_54 hs)]
  by_cases c1 : x < 0
  · rw [if_pos c1, if_neg (fun w => w.1 c1)]
  · rw [if_neg c1, gI_54 hs, Option.bind_some, V.2.2.2.1]
    by_cases c2 : nI P ≤ x
    · rw [if_pos c2, if_neg (fun w => w.2 c2)]
    · rw [if_neg c2, if_pos ⟨c1, c2⟩]
theorem M_isEgg (hs : eg_stt h) (V : RV h U P E) (x : Int32) : fX13_isEgg h 54 x = some (if G1 E x then 1 else 0, h) := by
  unfold fX13_isEgg
  rw [if_pos (iO_54 hs)]
  by_cases c1 : x < 0
  · rw [if_pos c1, if_neg (fun w => w.1 c1)]
  · rw [if_neg c1, gI_54 hs, Option.bind_some, V.2.2.2.2]
    by_cases c2 : nI E ≤ x
    · rw [if_pos c2, if_neg (fun w => w.2 c2)]
    · rw [if_neg c2, if_pos ⟨c1, c2⟩]
theorem p10 {x : Int32} (h : ¬ x < 0) : ¬ x / 10 < 0 ∧ ¬ x % 10 < 0 := by
  obtain ⟨n, hn, rfl⟩ := pos_n h
  rw [(n10 hn).1, (n10 hn).2]
  exact ⟨nI_pos (by omega), nI_pos (by omega)⟩
theorem M_isTwo (hs : eg_stt h) (V : RV h U P E) (x : Int32) : fX13_isTwo h 54 x = some (if G2 P x then 1 else 0, h) := by
  unfold fX13_isTwo
  rw [if_pos (iO_54 hs)]
  by_cases c1 : x < 0
  · rw [if_pos c1, if_neg (fun w => w.1 c1)]
  · rw [if_neg c1, M_isPerson hs V _, Option.bind_some]
    show (if (if G1 P (x / 10) then (1 : Int32) else 0) = 0 then _ else _) = _
    by_cases c2 : G1 P (x / 10)
    · rw [if_pos c2, if_neg (by decide), M_isPerson hs V _, Option.bind_some]
      show (if (if G1 P (x % 10) then (1 : Int32) else 0) = 0 then _ else _) = _
      by_cases c3 : G1 P (x % 10)
      · rw [if_pos c3, if_neg (by decide)]
        by_cases c4 : x / 10 = x % 10
        · rw [if_pos c4, if_neg (fun w => w.2.2.2 c4)]
        · rw [if_neg c4, if_pos ⟨c1, c2.2, c3.2, c4⟩]
      · rw [if_neg c3, if_pos rfl, if_neg (fun w => c3 ⟨(p10 c1).2, w.2.2.1⟩)]
    · rw [if_neg c2, if_pos rfl, if_neg (fun w => c2 ⟨(p10 c1).1, w.2.1⟩)]
theorem le2 {x : Int32} : ((2 : Int32) ≤ x) ↔ (1 : Int32) < x := by
  rw [Int32.le_iff_toInt_le, Int32.lt_iff_toInt_lt]
  have h1 : (2 : Int32).toInt = 2 := by decide
  have h2 : (1 : Int32).toInt = 1 := by decide
  omega
theorem M_isFrom (hs : eg_stt h) (V : RV h U P E) (x : Int32) : fX13_isFrom h 54 x = some (if GE E x then 1 else 0, h) := by
  unfold fX13_isFrom
  rw [if_pos (iO_54 hs)]
  by_cases c1 : x < 0
  · rw [if_pos c1, if_neg (fun w => w.1 c1)]
  · rw [if_neg c1, M_isEgg hs V _, Option.bind_some]
    show (if (if G1 E (x / 10) then (1 : Int32) else 0) = 0 then _ else _) = _
    by_cases c2 : G1 E (x / 10)
    · rw [if_pos c2, if_neg (by decide)]
      by_cases c3 : (1 : Int32) < x % 10
      · rw [if_pos (le2.mpr c3), if_neg (fun w => w.2.2 c3)]
      · rw [if_neg (fun w => c3 (le2.mp w)), if_pos ⟨c1, c2.2, c3⟩]
    · rw [if_neg c2, if_pos rfl, if_neg (fun w => c2 ⟨(p10 c1).1, w.2.1⟩)]
theorem M_GI (h : eg_H) (x : Int32) {lo hi : Nat} (hl : lo < 2 ^ 31) (hh : hi < 2 ^ 31) (a b : Int64) (ha : a = jI lo) (hb : b = jI hi) : fX13_isIn h x.toInt64 a b = some (if GI (nI lo) (nI hi) x then 1 else 0, h) := by
  have ea : a = (nI lo).toInt64 := by rw [ha, ← iI_n, iI_w (by unfold i3; omega)]
  have eb : b = (nI hi).toInt64 := by rw [hb, ← iI_n, iI_w (by unfold i3; omega)]
  rw [ea, eb, M_in]
  by_cases c : GI (nI lo) (nI hi) x
  · rw [if_pos c, if_neg (fun w => w.elim c.1 c.2)]
  · rw [if_neg c, if_pos]
    by_cases c1 : x < nI lo
    · exact Or.inl c1
    · by_cases c2 : nI hi < x
      · exact Or.inr c2
      · exact absurd ⟨c1, c2⟩ c
end MQ
