def ndF (t : Nat → Int32) (n : Nat) : Nat → Nat → Nat
  | 0, _ => 0
  | m + 1, i => if dg (sg t n i) then ndF t n m (i + 1) + 1 else 0
def nvF (t : Nat → Int32) (n : Nat) : Nat → Nat → Int32 → Int32
  | 0, _, v => v
  | m + 1, i, v => if dg (sg t n i) then nvF t n m (i + 1) (10 * v + sg t n i - 48) else v
theorem ndF_le (t : Nat → Int32) (n : Nat) : ∀ m i, ndF t n m i ≤ m := by
  intro m
  induction m with
  | zero => intro i; exact Nat.le_refl _
  | succ m ih =>
    intro i
    unfold ndF
    split
    · have := ih (i + 1); omega
    · omega
theorem ndF_n (t : Nat → Int32) (n : Nat) : ∀ m i, i ≤ n → i + ndF t n m i ≤ n := by
  intro m
  induction m with
  | zero => intro i hi; exact hi
  | succ m ih =>
    intro i hi
    unfold ndF
    by_cases hd : dg (sg t n i)
    · rw [if_pos hd]
      have := ih (i + 1) (sg_lt hd)
      omega
    · rw [if_neg hd]; exact hi
def numE (t : Nat → Int32) (n m i : Nat) (lo hi : Int32) : Option Nat :=
  if ndF t n m i = 0 then some i else if dg (sg t n (i + ndF t n m i)) then some (i + ndF t n m i) else if nvF t n m i 0 < lo ∨ hi < nvF t n m i 0 then some (i + ndF t n m i - 1) else none
section FN
variable {n : Nat} {t : Nat → Int32} {h : eg_H}
theorem X_number_L (H : Tp n t h) {s w lo hi : Int32} {M : Nat} (hM : M ≤ 100) : ∀ j k m i v, k + j = M → j < m → i + j ≤ 600 → fX10_number_L16 m (fin h (nI i) s w) 17 (nI M) lo hi v (nI k) (sg t n i) = some (17, lo, hi, nvF t n j i v, nI (k + ndF t n j i), sg t n (i + ndF t n j i), fin h (nI (i + ndF t n j i)) s w) := by
  have hs' : ∀ a b c, eg_stt (fin h a b c) := fun _ _ _ => H.1
  intro j
  induction j with
  | zero =>
    intro k m i v hk hm hi9
    obtain ⟨m, rfl⟩ : ∃ m', m = m' + 1 := ⟨m - 1, by omega⟩
    rw [fX10_number_L16, if_pos (nI_le (by omega) (by omega))]
    rfl
  | succ j ih =>
    intro k m i v hk hm hi9
    obtain ⟨m, rfl⟩ : ∃ m', m = m' + 1 := ⟨m - 1, by omega⟩
    rw [fX10_number_L16, if_neg (nI_ge (by omega) (by omega))]
    unfold ndF nvF
    by_cases h1 : sg t n i < 48
    · have hd : ¬ dg (sg t n i) := fun z => z.1 h1
      rw [if_pos h1, if_neg hd, if_neg hd]
      rfl
    · by_cases h2 : 57 < sg t n i
      · have hd : ¬ dg (sg t n i) := fun z => z.2 h2
        rw [if_neg h1, if_pos h2, if_neg hd, if_neg hd]
        rfl
      · have hd : dg (sg t n i) := ⟨h1, h2⟩
        rw [if_neg h1, if_neg h2, if_pos hd, if_pos hd, Option.bind_some, gI_17 (hs' _ _ _), Option.bind_some, fin_i2, pI_17 (hs' _ _ _), Option.bind_some, fin_2, nI_1, gI_17 (hs' _ _ _), Option.bind_some, fin_i2, X_byteAt H (by omega), Option.bind_some]
        show fX10_number_L16 m (fin h (nI (i + 1)) s w) 17 (nI M) lo hi _ (nI k + 1) (sg t n (i + 1)) = _
        rw [nI_1, ih (k + 1) m (i + 1) _ (by omega) (by omega) (by omega), show k + 1 + ndF t n j (i + 1) = k + (ndF t n j (i + 1) + 1) by omega, show i + 1 + ndF t n j (i + 1) = i + (ndF t n j (i + 1) + 1) by omega]
theorem X_number (H : Tp n t h) {s lo hi : Int32} {M i : Nat} (hM : M ≤ 100) (hi5 : i ≤ 300) : fX10_number (fin h (nI i) s (-1)) 17 (nI M) lo hi = some (nvF t n M i 0, match numE t n M i lo hi with
    | some p => fin h (nI n) 0 (nI p)
    | none => fin h (nI (skp t n (i + ndF t n M i))) (sg t n (skp t n (i + ndF t n M i))) (-1)) := by
  have hs' : ∀ a b c, eg_stt (fin h a b c) := fun _ _ _ => H.1
  have e := X_number_L H (s := s) (w := -1) (lo := lo) (hi := hi) hM M 0 eg_F i 0 (by omega) (by rw [eg_F_eq]; omega) (by omega)
  rw [nI_0, Nat.zero_add] at e
  have hle := ndF_le t n M i
  unfold fX10_number
  rw [if_pos (iO_17 (hs' _ _ _)), gI_17 (hs' _ _ _), Option.bind_some, fin_i2, X_byteAt H (by omega), Option.bind_some]
  show ((fX10_number_L16 eg_F (fin h (nI i) s (-1)) 17 (nI M) lo hi 0 0 (sg t n i)).bind _) = _
  rw [e, Option.bind_some]
  show fX10_number_j75 (fin h (nI (i + ndF t n M i)) s (-1)) 17 lo hi (nvF t n M i 0) (nI (ndF t n M i)) (sg t n (i + ndF t n M i)) = _
  unfold numE
  generalize hnd : ndF t n M i = d at hle
  unfold fX10_number_j75
  by_cases h0 : d = 0
  · subst h0
    rw [if_pos nI_0, if_pos rfl, gI_17 (hs' _ _ _), Option.bind_some, fin_i2, X_mark H, Option.bind_some, if_pos rfl]
    rfl
  · rw [if_neg (nI_ne0 (by omega) (by omega)), if_neg h0]
    have j105 : fX10_number_j105 (fin h (nI (i + d)) s (-1)) 17 lo hi (nvF t n M i 0) = some (nvF t n M i 0, match (if nvF t n M i 0 < lo ∨ hi < nvF t n M i 0 then some (i + d - 1) else none : Option Nat) with
        | some p => fin h (nI n) 0 (nI p)
        | none => fin h (nI (skp t n (i + d))) (sg t n (skp t n (i + d))) (-1)) := by
      have em : nI (i + d) - 1 = nI (i + d - 1) := by
        rw [show i + d = (i + d - 1) + 1 by omega, nI_pred]
        rfl
      unfold fX10_number_j105
      by_cases a1 : nvF t n M i 0 < lo
      · rw [if_pos a1, if_pos (Or.inl a1), gI_17 (hs' _ _ _), Option.bind_some, fin_i2, X_mark H, Option.bind_some, if_pos rfl, em]
      · by_cases a2 : nvF t n M i 0 ≤ hi
        · have a3 : ¬ (nvF t n M i 0 < lo ∨ hi < nvF t n M i 0) := fun z => z.elim a1 (fun z => absurd a2 (Int32.not_le.mpr z))
          rw [if_neg a1, if_pos a2, if_neg a3, X_settle H (by omega), Option.bind_some]
        · rw [if_neg a1, if_neg a2, if_pos (Or.inr (Int32.not_le.mp a2)), gI_17 (hs' _ _ _), Option.bind_some, fin_i2, X_mark H, Option.bind_some, if_pos rfl, em]
    by_cases h1 : sg t n (i + d) < 48
    · rw [if_pos h1, if_neg (fun z => z.1 h1)]
      exact j105
    · by_cases h2 : 57 < sg t n (i + d)
      · rw [if_neg h1, if_pos h2, if_neg (fun z => z.2 h2)]
        exact j105
      · rw [if_neg h1, if_neg h2, if_pos ⟨h1, h2⟩, gI_17 (hs' _ _ _), Option.bind_some, fin_i2, X_mark H, Option.bind_some, if_pos rfl]
end FN
