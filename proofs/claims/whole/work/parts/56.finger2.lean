section FX
variable {n : Nat} {t : Nat → Int32} {h : eg_H}
theorem X_rewind (H : Tp n t h) {a s w : Int32} : fX10_rewind (fin h a s w) 17 = some (fin h (nI (skp t n 0)) (sg t n (skp t n 0)) (-1)) := by
  have hs' : ∀ a b c, eg_stt (fin h a b c) := fun _ _ _ => H.1
  unfold fX10_rewind
  rw [if_pos (iO_17 (hs' _ _ _)), pI_17 (hs' _ _ _), Option.bind_some, fin_2, pI_17 (hs' _ _ _), Option.bind_some, fin_4, ← nI_0, X_settle H (by omega)]
  rfl
theorem X_step (H : Tp n t h) {s w : Int32} {i : Nat} (hi : i ≤ 999) : fX10_step (fin h (nI i) s w) 17 = some (fin h (nI (skp t n (i + 1))) (sg t n (skp t n (i + 1))) w) := by
  have hs' : ∀ a b c, eg_stt (fin h a b c) := fun _ _ _ => H.1
  unfold fX10_step
  rw [if_pos (iO_17 (hs' _ _ _)), gI_17 (hs' _ _ _), Option.bind_some, fin_i2, pI_17 (hs' _ _ _), Option.bind_some, fin_2, nI_1, X_settle H (by omega)]
  rfl
theorem X_mark (H : Tp n t h) {a s w x : Int32} : fX10_markWrong (fin h a s w) 17 x = some (fin h (nI n) 0 (if w = -1 then x else w)) := by
  have hs' : ∀ a b c, eg_stt (fin h a b c) := fun _ _ _ => H.1
  unfold fX10_markWrong
  rw [if_pos (iO_17 (hs' _ _ _)), gI_17 (hs' _ _ _), Option.bind_some, fin_i4]
  by_cases hw : w = -1
  · rw [if_pos hw, if_pos hw, pI_17 (hs' _ _ _), Option.bind_some, fin_4, gI_17 (hs' _ _ _), Option.bind_some, fin_i1, H.2.2.1, pI_17 (hs' _ _ _), Option.bind_some, fin_2, pI_17 (hs' _ _ _), Option.bind_some, fin_3]
  · rw [if_neg hw, if_neg hw, gI_17 (hs' _ _ _), Option.bind_some, fin_i1, H.2.2.1, pI_17 (hs' _ _ _), Option.bind_some, fin_2, pI_17 (hs' _ _ _), Option.bind_some, fin_3]
theorem X_markH (H : Tp n t h) {a s w : Int32} : fX10_markWrongHere (fin h a s w) 17 = some (fin h (nI n) 0 (if w = -1 then a else w)) := by
  have hs' : ∀ a b c, eg_stt (fin h a b c) := fun _ _ _ => H.1
  unfold fX10_markWrongHere
  rw [if_pos (iO_17 (hs' _ _ _)), gI_17 (hs' _ _ _), Option.bind_some, fin_i2, X_mark H]
  rfl
abbrev dg (s : Int32) : Prop := ¬ s < 48 ∧ ¬ 57 < s
theorem X_isDigit (H : Tp n t h) {a s w : Int32} : fX10_isDigit (fin h a s w) 17 = some (if dg s then 1 else 0, fin h a s w) := by
  have hs' : ∀ a b c, eg_stt (fin h a b c) := fun _ _ _ => H.1
  unfold fX10_isDigit
  rw [if_pos (iO_17 (hs' _ _ _)), gI_17 (hs' _ _ _), Option.bind_some, fin_i3]
  by_cases h1 : s < 48
  · rw [if_pos h1, if_neg (fun z => z.1 h1)]
  · rw [if_neg h1, Option.bind_some]
    by_cases h2 : 57 < s
    · rw [if_pos h2, if_neg (fun z => z.2 h2)]
    · rw [if_neg h2, if_pos ⟨h1, h2⟩]
theorem X_sign (H : Tp n t h) {a s w : Int32} : fX10_sign (fin h a s w) 17 = some (s, fin h a s w) := by
  have hs' : ∀ a b c, eg_stt (fin h a b c) := fun _ _ _ => H.1
  unfold fX10_sign
  rw [if_pos (iO_17 (hs' _ _ _)), gI_17 (hs' _ _ _), Option.bind_some, fin_i3]
theorem X_wrongAt (H : Tp n t h) {a s w : Int32} : fX10_wrongAt (fin h a s w) 17 = some (w, fin h a s w) := by
  have hs' : ∀ a b c, eg_stt (fin h a b c) := fun _ _ _ => H.1
  unfold fX10_wrongAt
  rw [if_pos (iO_17 (hs' _ _ _)), gI_17 (hs' _ _ _), Option.bind_some, fin_i4]
theorem X_takes (H : Tp n t h) {s w c : Int32} {i : Nat} (hi : i ≤ 999) : fX10_takes (fin h (nI i) s w) 17 c = some (if s = c then (1, fin h (nI (skp t n (i + 1))) (sg t n (skp t n (i + 1))) w) else (0, fin h (nI i) s w)) := by
  have hs' : ∀ a b c, eg_stt (fin h a b c) := fun _ _ _ => H.1
  unfold fX10_takes
  rw [if_pos (iO_17 (hs' _ _ _)), gI_17 (hs' _ _ _), Option.bind_some, fin_i3]
  by_cases hc : s = c
  · rw [if_pos hc, if_pos hc, gI_17 (hs' _ _ _), Option.bind_some, fin_i2, pI_17 (hs' _ _ _), Option.bind_some, fin_2, nI_1, X_settle H (by omega)]
    rfl
  · rw [if_neg hc, if_neg hc]
theorem X_need (H : Tp n t h) {s w c : Int32} {i : Nat} (hi : i ≤ 999) : fX10_need (fin h (nI i) s w) 17 c = some (if s = c then fin h (nI (skp t n (i + 1))) (sg t n (skp t n (i + 1))) w else fin h (nI n) 0 (if w = -1 then nI i else w)) := by
  have hs' : ∀ a b c, eg_stt (fin h a b c) := fun _ _ _ => H.1
  unfold fX10_need
  rw [if_pos (iO_17 (hs' _ _ _)), gI_17 (hs' _ _ _), Option.bind_some, fin_i3]
  by_cases hc : s = c
  · rw [if_pos hc, if_pos hc, gI_17 (hs' _ _ _), Option.bind_some, fin_i2, pI_17 (hs' _ _ _), Option.bind_some, fin_2, nI_1, X_settle H (by omega)]
    rfl
  · rw [if_neg hc, if_neg hc, gI_17 (hs' _ _ _), Option.bind_some, fin_i2, X_mark H]
    rfl
theorem X_byteAt (H : Tp n t h) {a s w : Int32} {i : Nat} (hi : i ≤ 1000) : fX10_byteAt (fin h a s w) 17 (nI i) = some (sg t n i, fin h a s w) := by
  have hs' : ∀ a b c, eg_stt (fin h a b c) := fun _ _ _ => H.1
  have hn := H.2.1
  unfold fX10_byteAt
  rw [if_pos (iO_17 (hs' _ _ _)), if_neg (nI_pos (by omega)), gI_17 (hs' _ _ _), Option.bind_some, fin_i1, H.2.2.1]
  unfold sg
  by_cases hin : i < n
  · have hcl : (nI i).toNatClampNeg = i := nI_clamp (by omega)
    have ea : eg_aI (fin h a s w) 100 18 (nI i) = some (t i) := by
      rw [aI_18 (hs' _ _ _) (nI_pos (by omega)) (by rw [hcl]; omega), hcl, fin_i _ _ _ _ (by decide), H.2.2.2 i hin]
    rw [if_neg (nI_ge hin (by omega)), gR_17 (hs' _ _ _), rf_17_0 (hs' _ _ _), Option.bind_some, al_18 (hs' _ _ _), Option.bind_some, if_pos (nI_lt (by omega) (by decide)), Option.bind_some, ea, if_pos hin]
    rfl
  · rw [if_pos (nI_le (by omega) (by omega)), if_neg hin]
end FX
def mfi (h : eg_H) (a f : Int32) : eg_H := (h.1, (fun q j => if q = 54 ∧ j = 10 then a else if q = 54 ∧ j = 11 then f else h.2.1 q j), h.2.2.1, h.2.2.2)
theorem mfi_id (h : eg_H) : mfi h (eg_I h 54 10) (eg_I h 54 11) = h := by
  refine fin_ext rfl (fun q j => ?_) rfl
  show (if q = 54 ∧ j = 10 then eg_I h 54 10 else if q = 54 ∧ j = 11 then eg_I h 54 11 else eg_I h q j) = eg_I h q j
  split
  · next z => rw [z.1, z.2]
  · split
    · next z => rw [z.1, z.2]
    · rfl
theorem mfi_10 (h : eg_H) (a f x : Int32) : eg_sI (mfi h a f) 54 10 x = mfi h x f := by
  refine fin_ext rfl (fun q j => ?_) rfl
  show (if q = 54 ∧ j = 10 then x else if q = 54 ∧ j = 10 then a else _) = (if q = 54 ∧ j = 10 then x else _)
  split <;> rfl
theorem mfi_11 (h : eg_H) (a f x : Int32) : eg_sI (mfi h a f) 54 11 x = mfi h a x := by
  refine fin_ext rfl (fun q j => ?_) rfl
  show (if q = 54 ∧ j = 11 then x else if q = 54 ∧ j = 10 then a else if q = 54 ∧ j = 11 then f else _) = (if q = 54 ∧ j = 10 then a else if q = 54 ∧ j = 11 then x else _)
  by_cases h2 : q = 54 ∧ j = 10
  · rw [if_neg (by omega), if_pos h2, if_pos h2]
  · by_cases h3 : q = 54 ∧ j = 11
    · rw [if_pos h3, if_neg h2, if_pos h3]
    · rw [if_neg h3, if_neg h2, if_neg h3, if_neg h2, if_neg h3]
theorem mfi_i10 (h : eg_H) (a f : Int32) : eg_I (mfi h a f) 54 10 = a := rfl
theorem mfi_i11 (h : eg_H) (a f : Int32) : eg_I (mfi h a f) 54 11 = f := rfl
theorem mfi_i (h : eg_H) (a f : Int32) {q j : Nat} (hq : ¬ (q = 54 ∧ j = 10) ∧ ¬ (q = 54 ∧ j = 11)) : eg_I (mfi h a f) q j = eg_I h q j := by
  show (if q = 54 ∧ j = 10 then a else if q = 54 ∧ j = 11 then f else eg_I h q j) = eg_I h q j
  rw [if_neg hq.1, if_neg hq.2]
theorem mfi_stt (h : eg_H) (a f : Int32) : eg_stt (mfi h a f) = eg_stt h := rfl
def byt (n : Nat) (t : Nat → Int32) : Prop := ∀ i, i < n → ∃ b, 1 ≤ b ∧ b < 256 ∧ t i = nI b
def Tm (q b n : Nat) (t : Nat → Int32) (h : eg_H) : Prop := eg_stt h ∧ ((q = 55 ∧ b + n ≤ 160) ∨ (q = 56 ∧ b + n ≤ 640)) ∧ eg_P h 54 5 = some q ∧ eg_I h 54 8 = nI b ∧ eg_I h 54 9 = nI n ∧ byt n t ∧ ∀ i, i < n → eg_I h q (b + i) = (t i).toInt8.toInt32
theorem Tm_mfi {q b n : Nat} {t : Nat → Int32} {h : eg_H} (a f : Int32) (H : Tm q b n t h) : Tm q b n t (mfi h a f) := by
  obtain ⟨h1, h2, h3, h4, h5, h6, h7⟩ := H
  refine ⟨h1, h2, h3, h4, h5, h6, fun i hi => ?_⟩
  rw [mfi_i _ _ _ (by omega)]
  exact h7 i hi
theorem by8_eq : ∀ b, b < 256 → ∀ c, c < 128 → ((nI b).toInt8.toInt32 = nI c ↔ b = c) := by decide +kernel
theorem by8_lo : ∀ b, b < 256 → ((nI b).toInt8.toInt32 < 48 ∨ 57 < (nI b).toInt8.toInt32 ↔ b < 48 ∨ 57 < b) := by decide +kernel
theorem M_at {q b n : Nat} {t : Nat → Int32} {h : eg_H} (H : Tm q b n t h) {i : Nat} (hi : i < n) : eg_aI h 102 q (nI b + nI i) = some ((t i).toInt8.toInt32) := by
  obtain ⟨h1, h2, h3, h4, h5, h6, h7⟩ := H
  rw [nI_add]
  have hcl : (nI (b + i)).toNatClampNeg = b + i := nI_clamp (by omega)
  rcases h2 with ⟨rfl, h2⟩ | ⟨rfl, h2⟩
  · rw [aI_55 h1 (nI_pos (by omega)) (by rw [hcl]; omega), hcl, h7 i hi]
  · rw [aI_56 h1 (nI_pos (by omega)) (by rw [hcl]; omega), hcl, h7 i hi]
