def lk (t : Nat → Int32) (n i : Nat) : Int32 := if i < n then t i else -1
section FM
variable {q b n : Nat} {t : Nat → Int32} {h : eg_H}
theorem Tm_n (H : Tm q b n t h) : n ≤ 640 ∧ b ≤ 640 := by
  rcases H.2.1 with z | z <;> omega
theorem M_32 (H : Tm q b n t h) {i : Nat} (hi : i < n) : ((t i).toInt8.toInt32 = 32) = (t i = 32) := by
  obtain ⟨c, hc1, hc2, hc⟩ := H.2.2.2.2.2.1 i hi
  rw [hc]
  have e1 := by8_eq c hc2 32 (by decide)
  have e2 : (nI c = 32) ↔ c = 32 := nI_eq (b := 32) (by omega) (by decide)
  exact propext (e1.trans e2.symm)
theorem M_255 (H : Tm q b n t h) {i : Nat} (hi : i < n) : (t i).toInt8.toInt32 &&& (255 : Int32) = t i := by
  obtain ⟨c, hc1, hc2, hc⟩ := H.2.2.2.2.2.1 i hi
  rw [hc]
  exact sc_k8 c hc2
theorem M_look_L (H : Tm q b n t h) {f : Int32} : ∀ k m i, n - i ≤ k → k < m → i ≤ 100000 → fX13_look_L0 m (mfi h (nI i) f) 54 = some (54, mfi h (nI (sk t n k i)) f) := by
  have H0 := H
  have hn := Tm_n H
  obtain ⟨hs, h2, h3, h4, h5, h6, h7⟩ := H
  intro k
  induction k with
  | zero =>
    intro m i hk hm hi
    obtain ⟨m, rfl⟩ : ∃ m', m = m' + 1 := ⟨m - 1, by omega⟩
    have hs' : eg_stt (mfi h (nI i) f) := hs
    rw [fX13_look_L0, gI_54 hs', Option.bind_some, gI_54 hs', Option.bind_some, mfi_i10, mfi_i _ _ _ (by decide), h5, if_pos (nI_le (by omega) (by omega))]
    rfl
  | succ k ih =>
    intro m i hk hm hi
    obtain ⟨m, rfl⟩ : ∃ m', m = m' + 1 := ⟨m - 1, by omega⟩
    have hs' : eg_stt (mfi h (nI i) f) := hs
    rw [fX13_look_L0, gI_54 hs', Option.bind_some, gI_54 hs', Option.bind_some, mfi_i10, mfi_i _ _ _ (by decide), h5]
    by_cases hin : i < n
    · have ea := M_at (Tm_mfi (nI i) f H0) hin
      have hP : eg_P (mfi h (nI i) f) 54 5 = some q := h3
      rw [if_neg (nI_ge hin (by omega)), gR_54 hs', hP]
      simp only [Option.bind_some, gI_54 hs', mfi_i10]
      rw [mfi_i _ _ _ (by decide), h4, ea, Option.bind_some]
      unfold sk
      by_cases h32 : t i = 32
      · rw [if_pos (Eq.mpr (M_32 H0 hin) h32), pI_54 hs', Option.bind_some, mfi_10, nI_1, if_pos ⟨hin, h32⟩]
        exact ih m (i + 1) (by omega) (by omega) (by omega)
      · rw [if_neg (fun z => h32 (Eq.mp (M_32 H0 hin) z)), if_neg (fun z => h32 z.2)]
    · rw [if_pos (nI_le (by omega) (by omega))]
      unfold sk
      rw [if_neg (fun z => hin z.1)]
theorem M_look (H : Tm q b n t h) {f : Int32} {i : Nat} (hi : i ≤ 4000) : fX13_look (mfi h (nI i) f) 54 = some (lk t n (skp t n i), mfi h (nI (skp t n i)) f) := by
  have H0 := H
  have hn := Tm_n H
  obtain ⟨hs, h2, h3, h4, h5, h6, h7⟩ := H
  have hs' : ∀ a c, eg_stt (mfi h a c) := fun _ _ => hs
  unfold fX13_look
  rw [if_pos (iO_54 (hs' _ _)), M_look_L H0 (n - i) eg_F i (Nat.le_refl _) (by rw [eg_F_eq]; omega) (by omega), Option.bind_some]
  show fX13_look_j43 (mfi h (nI (skp t n i)) f) 54 = _
  generalize hj : skp t n i = j
  have hj2 : j ≤ 4000 := by
    rcases skp_le1 t n i with z | z <;> omega
  unfold fX13_look_j43
  rw [gI_54 (hs' _ _), Option.bind_some, gI_54 (hs' _ _), Option.bind_some, mfi_i10, mfi_i _ _ _ (by decide), h5]
  unfold lk
  by_cases hin : j < n
  · have ea := M_at (Tm_mfi (nI j) f H0) hin
    have hP : eg_P (mfi h (nI j) f) 54 5 = some q := h3
    rw [if_neg (nI_ge hin (by omega)), gR_54 (hs' _ _), hP, Option.bind_some, gI_54 (hs' _ _), Option.bind_some, Option.bind_some, mfi_i _ _ _ (by decide), h4, ea, Option.bind_some, M_255 H0 hin, if_pos hin]
  · rw [if_pos (nI_le (by omega) (by omega)), if_neg hin]
theorem M_here (H : Tm q b n t h) {f : Int32} {i : Nat} (hi : i ≤ 4000) : fX13_here (mfi h (nI i) f) 54 = some (lk t n i, mfi h (nI i) f) := by
  have H0 := H
  have hn := Tm_n H
  obtain ⟨hs, h2, h3, h4, h5, h6, h7⟩ := H
  have hs' : ∀ a c, eg_stt (mfi h a c) := fun _ _ => hs
  unfold fX13_here
  rw [if_pos (iO_54 (hs' _ _)), gI_54 (hs' _ _), Option.bind_some, gI_54 (hs' _ _), Option.bind_some, mfi_i10, mfi_i _ _ _ (by decide), h5]
  unfold lk
  by_cases hin : i < n
  · have ea := M_at (Tm_mfi (nI i) f H0) hin
    have hP : eg_P (mfi h (nI i) f) 54 5 = some q := h3
    rw [if_neg (nI_ge hin (by omega)), gR_54 (hs' _ _), hP, Option.bind_some, gI_54 (hs' _ _), Option.bind_some, Option.bind_some, mfi_i _ _ _ (by decide), h4, ea, Option.bind_some, M_255 H0 hin, if_pos hin]
  · rw [if_pos (nI_le (by omega) (by omega)), if_neg hin]
theorem M_fails (hs : eg_stt h) {a f : Int32} : fX13_fails (mfi h a f) 54 = some (0, mfi h a (if f = -1 then a else f)) := by
  have hs' : ∀ a c, eg_stt (mfi h a c) := fun _ _ => hs
  unfold fX13_fails
  rw [if_pos (iO_54 (hs' _ _)), gI_54 (hs' _ _), Option.bind_some, mfi_i11]
  by_cases hf : f = -1
  · rw [if_pos hf, if_pos hf, gI_54 (hs' _ _), Option.bind_some, mfi_i10, pI_54 (hs' _ _), Option.bind_some, mfi_11]
  · rw [if_neg hf, if_neg hf]
theorem dg_nI (c : Nat) (hc : c < 256) : dg (nI c) ↔ 48 ≤ c ∧ c ≤ 57 := by
  have e1 : nI c < 48 ↔ c < 48 := nI_ltI (b := 48) (by omega) (by decide)
  have e2 : (57 : Int32) < nI c ↔ 57 < c := nI_ltI (a := 57) (by decide) (by omega)
  unfold dg
  rw [e1, e2]
  omega
theorem M_isDigit (H : Tm q b n t h) {f : Int32} {i : Nat} (hi : i ≤ 4000) : fX13_isDigit (mfi h (nI i) f) 54 = some (if i < n ∧ dg (t i) then 1 else 0, mfi h (nI i) f) := by
  have H0 := H
  have hn := Tm_n H
  obtain ⟨hs, h2, h3, h4, h5, h6, h7⟩ := H
  have hs' : ∀ a c, eg_stt (mfi h a c) := fun _ _ => hs
  unfold fX13_isDigit
  rw [if_pos (iO_54 (hs' _ _)), gI_54 (hs' _ _), Option.bind_some, gI_54 (hs' _ _), Option.bind_some, mfi_i10, mfi_i _ _ _ (by decide), h5]
  by_cases hin : i < n
  · have ea := M_at (Tm_mfi (nI i) f H0) hin
    have hP : eg_P (mfi h (nI i) f) 54 5 = some q := h3
    obtain ⟨c, hc1, hc2, hc⟩ := h6 i hin
    have e1 := by8_lo c hc2
    have e2 := dg_nI c hc2
    rw [if_neg (nI_ge hin (by omega)), gR_54 (hs' _ _), hP, Option.bind_some, gI_54 (hs' _ _), Option.bind_some, Option.bind_some, mfi_i _ _ _ (by decide), h4]
    simp only [ea, Option.bind_some]
    rw [hc]
    by_cases a1 : (nI c).toInt8.toInt32 < 48
    · rw [if_pos a1, if_neg (fun z => by have := e1.mp (Or.inl a1); have := e2.mp z.2; omega)]
    · by_cases a2 : 57 < (nI c).toInt8.toInt32
      · rw [if_neg a1, if_pos a2, if_neg (fun z => by have := e1.mp (Or.inr a2); have := e2.mp z.2; omega)]
      · rw [if_neg a1, if_neg a2, if_pos ⟨hin, e2.mpr (by
          have : ¬ (c < 48 ∨ 57 < c) := fun z => (e1.mpr z).elim a1 a2
          omega)⟩]
  · rw [if_pos (nI_le (by omega) (by omega)), if_neg (fun z => hin z.1)]
theorem M_takes (H : Tm q b n t h) {f c : Int32} {i : Nat} (hi : i ≤ 3999) : fX13_takes (mfi h (nI i) f) 54 c = some (if f = -1 then (if lk t n (skp t n i) = c then (1, mfi h (nI (skp t n i + 1)) f) else (0, mfi h (nI (skp t n i)) (nI (skp t n i)))) else (0, mfi h (nI i) f)) := by
  have hs' : ∀ a c, eg_stt (mfi h a c) := fun _ _ => H.1
  unfold fX13_takes
  rw [if_pos (iO_54 (hs' _ _)), gI_54 (hs' _ _), Option.bind_some, mfi_i11]
  by_cases hf : f = -1
  · rw [if_pos hf, if_pos hf, M_look H (by omega), Option.bind_some]
    show (if lk t n (skp t n i) = c then _ else _) = _
    by_cases hc : lk t n (skp t n i) = c
    · rw [if_pos hc, if_pos hc, gI_54 (hs' _ _), Option.bind_some, mfi_i10, pI_54 (hs' _ _), Option.bind_some, mfi_10, nI_1]
    · rw [if_neg hc, if_neg hc, M_fails H.1, Option.bind_some, if_pos hf]
      rfl
  · rw [if_neg hf, if_neg hf, M_fails H.1, Option.bind_some, if_neg hf]
    rfl
theorem M_opens {p : Nat} {v w a f : Int32} (hs : eg_stt h) : fX13_opens h 54 p v w = some (mfi (eg_sI (eg_sI (eg_sP h 54 5 (some p)) 54 8 v) 54 9 w) 0 (-1)) := by
  have hs0 : eg_stt (eg_sP h 54 5 (some p)) := stt_sP hs (by decide)
  have hs1 : eg_stt (eg_sI (eg_sP h 54 5 (some p)) 54 8 v) := hs0
  have hs2 : eg_stt (eg_sI (eg_sI (eg_sP h 54 5 (some p)) 54 8 v) 54 9 w) := hs0
  have hs3 : eg_stt (eg_sI (eg_sI (eg_sI (eg_sP h 54 5 (some p)) 54 8 v) 54 9 w) 54 10 0) := hs0
  unfold fX13_opens
  rw [if_pos (iO_54 hs), pP_54 hs, Option.bind_some, pI_54 hs0, Option.bind_some, pI_54 hs1, Option.bind_some, pI_54 hs2, Option.bind_some, pI_54 hs3, Option.bind_some]
  congr 1
  generalize eg_sI (eg_sI (eg_sP h 54 5 (some p)) 54 8 v) 54 9 w = g
  conv => lhs; rw [← mfi_id g]
  rw [mfi_10, mfi_11]
end FM
