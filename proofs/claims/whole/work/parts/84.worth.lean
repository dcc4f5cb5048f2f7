def Lw (h : eg_H) (p : Nat) (C : List Int32) : Prop := 16 ≤ p ∧ C.length ≤ 160 ∧ eg_kd h p = (5, eg_nf 5) ∧ eg_kd h (p + 1) = (100, 40) ∧ eg_kd h (p + 2) = (100, 5) ∧ eg_kd h (p + 3) = (100, C.length) ∧ eg_P h p 0 = some (p + 3) ∧ eg_P h p 1 = some (p + 1) ∧ eg_P h p 2 = some (p + 2) ∧ ∀ k, k < C.length → eg_I h (p + 3) k = C.getD k 0
def Sw (p : Nat) : List (Nat × Option Nat) := [(p + 1, none)]
def Wr (F : Nat) (h : eg_H) (p k i : Nat) : Option ((eg_H) ⊕ (eg_H) ⊕ (eg_H) ⊕ (Nat × Int32 × eg_H) ⊕ (eg_H)) := fX5_worth_L15 F h p (p + 3) (p + 1) (nI k) (nI i)
theorem cov_Sw (p q i : Nat) : eg_cov (Sw p) q i = decide (q = p + 1) := by
  unfold Sw eg_cov
  simp only [List.any_cons, List.any_nil, Bool.and_true, Bool.or_false]
  by_cases h : q = p + 1
  · subst h; simp
  · have : ¬ p + 1 = q := fun e => h e.symm
    simp [h, this]
theorem Sw_w {h : eg_H} {p k : Nat} {x : Int32} : eg_eq (Sw p) h (eg_sI h (p + 1) k x) := eq_sI eq_rfl (by rw [cov_Sw]; simp)
theorem Lw_eq {h h' : eg_H} {p : Nat} {C : List Int32} (L : Lw h p C) (E : eg_eq (Sw p) h h') : Lw h' p C := by
  obtain ⟨l0, l1, l2, l3, l4, l5, l6, l7, l8, l9⟩ := L
  have hc : ∀ q i, ¬ q = p + 1 → eg_cov (Sw p) q i = false := fun q i hq => by rw [cov_Sw]; simp [hq]
  refine ⟨l0, l1, by rw [eq_kd E]; exact l2, by rw [eq_kd E]; exact l3, by rw [eq_kd E]; exact l4, by rw [eq_kd E]; exact l5, ?_, ?_, ?_, fun k hk => ?_⟩
  · rw [(E.2 p 0 (hc _ _ (by omega))).2.2]; exact l6
  · rw [(E.2 p 1 (hc _ _ (by omega))).2.2]; exact l7
  · rw [(E.2 p 2 (hc _ _ (by omega))).2.2]; exact l8
  · rw [(E.2 (p + 3) k (hc _ _ (by omega))).1]; exact l9 k hk
section WO
variable {h : eg_H} {p : Nat} {C : List Int32}
theorem Lw_o (L : Lw h p C) : eg_isO h 5 p := ⟨L.1, L.2.2.1⟩
theorem Lw_al (L : Lw h p C) : eg_al h (p + 3) = some (nI C.length) := by
  unfold eg_al
  rw [L.2.2.2.2.2.1, if_pos ⟨by have := L.1; omega, show eg_arr 100 by decide⟩]
theorem Lw_as (L : Lw h p C) : eg_al h (p + 1) = some (nI 40) := by
  unfold eg_al
  rw [L.2.2.2.1, if_pos ⟨by have := L.1; omega, by decide⟩]
theorem Lw_c (L : Lw h p C) {i : Nat} (hi : i < C.length) : eg_aI h 100 (p + 3) (nI i) = some (C.getD i 0) := by
  have hn := L.2.1
  have hcl : (nI i).toNatClampNeg = i := nI_clamp (by omega)
  unfold eg_aI
  rw [if_pos ⟨by have := L.1; omega, by rw [L.2.2.2.2.2.1], nI_pos (by omega), by rw [L.2.2.2.2.2.1, hcl]; exact hi⟩, hcl, L.2.2.2.2.2.2.2.2.2 i hi]
theorem Lw_s (L : Lw h p C) {k : Nat} (hk : k < 40) : eg_aI h 100 (p + 1) (nI k) = some (eg_I h (p + 1) k) := by
  have hcl : (nI k).toNatClampNeg = k := nI_clamp (by omega)
  unfold eg_aI
  rw [if_pos ⟨by have := L.1; omega, by rw [L.2.2.2.1], nI_pos (by omega), by rw [L.2.2.2.1, hcl]; exact hk⟩, hcl]
theorem Lw_w (L : Lw h p C) {k : Nat} (hk : k < 40) (x : Int32) : eg_wI h 100 (p + 1) (nI k) x = some (eg_sI h (p + 1) k x) := by
  have hcl : (nI k).toNatClampNeg = k := nI_clamp (by omega)
  unfold eg_wI
  rw [if_pos ⟨by have := L.1; omega, by rw [L.2.2.2.1], nI_pos (by omega), by rw [L.2.2.2.1, hcl]; exact hk⟩, hcl]
theorem Lw_l (L : Lw h p C) {l : Nat} (hl : l < 5) : eg_aI h 100 (p + 2) (nI l) = some (eg_I h (p + 2) l) := by
  have hcl : (nI l).toNatClampNeg = l := nI_clamp (by omega)
  unfold eg_aI
  rw [if_pos ⟨by have := L.1; omega, by rw [L.2.2.2.2.1], nI_pos (by omega), by rw [L.2.2.2.2.1, hcl]; exact hl⟩, hcl]
theorem nI_p1 (k : Nat) : nI (k + 1) + (-1 : Int32) = nI k := by
  rw [← iI_n, ← iI_n, show (-1 : Int32) = iI (-1) from rfl, iI_add]
  congr 1
  omega
theorem W_num (L : Lw h p C) {i k F : Nat} {x : Int32} (hi : i < C.length) (hx : C.getD i 0 = x) (h5 : ¬ x < -5) (h0 : ¬ x < 0) (hk : k < 40) : Wr (F + 1) h p k i = Wr F (eg_sI h (p + 1) k x) p (k + 1) (i + 1) := by
  have hn := L.2.1
  unfold Wr
  rw [fX5_worth_L15, Lw_al L, Option.bind_some, if_neg (nI_ge hi (by omega)), Lw_c L hi, hx, Option.bind_some, if_neg h5, Lw_as L, Option.bind_some, if_pos (nI_lt hk (by decide)), if_neg h0, Lw_w L hk, Option.bind_some, nI_1, nI_1]
theorem W_let (L : Lw h p C) {i k F l : Nat} (hi : i < C.length) (hl : l < 5) (hx : C.getD i 0 = -1 - nI l) (hk : k < 40) : Wr (F + 1) h p k i = Wr F (eg_sI h (p + 1) k (eg_I h (p + 2) l)) p (k + 1) (i + 1) := by
  have hn := L.2.1
  have hd : ∀ l, l < 5 → ¬ (-1 - nI l : Int32) < -5 ∧ (-1 - nI l : Int32) < 0 ∧ (-1 : Int32) - (-1 - nI l) = nI l := by decide
  obtain ⟨d1, d2, d3⟩ := hd l hl
  unfold Wr
  rw [fX5_worth_L15, Lw_al L, Option.bind_some, if_neg (nI_ge hi (by omega)), Lw_c L hi, hx, Option.bind_some, if_neg d1, Lw_as L, Option.bind_some, if_pos (nI_lt hk (by decide)), if_pos d2]
  unfold eg_gR
  rw [if_pos (Lw_o L), L.2.2.2.2.2.2.2.2.1, Option.bind_some, d3, Lw_l L hl, Option.bind_some, Lw_w L hk, Option.bind_some, nI_1, nI_1]
theorem W_333 (L : Lw h p C) {i k F : Nat} (hk : k < 40) (x : Int64) : fX5_worth_j333 (fX5_worth_L15 F) h p (p + 3) (p + 1) (nI (k + 1)) (nI i) x = Wr F (eg_sI h (p + 1) k (cl6 x)) p (k + 1) (i + 1) := by
  unfold fX5_worth_j333 Wr cl6
  by_cases c1 : x ≤ 1000000
  · rw [if_pos c1, if_neg (Int64.not_lt.mpr c1)]
    by_cases c2 : -1000000 ≤ x
    · rw [if_pos c2, if_pos c2, nI_m1, Lw_w L hk, Option.bind_some, nI_1]
    · rw [if_neg c2, if_neg c2, nI_m1, Lw_w L hk, Option.bind_some, nI_1]
  · rw [if_neg c1, if_pos (Int64.not_le.mp c1), nI_m1, Lw_w L hk, Option.bind_some, nI_1]
def oB : List Int32 := [-6, -7, -8, -9, -10, -11, -12, -13, -14]
theorem cl6_01 : cl6 0 = 0 ∧ cl6 1 = 1 := by decide
theorem W_bin (L : Lw h p C) {i k F : Nat} {o : Int32} (ho : o ∈ oB) (hi : i < C.length) (hx : C.getD i 0 = o) (hk : k + 2 ≤ 40) : Wr (F + 1) h p (k + 2) i = Wr F (eg_sI h (p + 1) k (opV o (eg_I h (p + 1) k) (eg_I h (p + 1) (k + 1)))) p (k + 1) (i + 1) := by
  have hn := L.2.1
  have hb : ∀ o ∈ oB, o < -5 ∧ ¬ o = -17 ∧ ¬ o = -15 ∧ ¬ o = -16 := by decide
  obtain ⟨d1, d2, d3, d4⟩ := hb o ho
  have e0 : Wr (F + 1) h p (k + 2) i = (if o = (-13 : Int32) then
      (fX5_worth_j242 (fX5_worth_L15 F) h p (p + 3) (p + 1) (nI (k + 1)) (nI i) (eg_I h (p + 1) k) (eg_I h (p + 1) (k + 1)))
    else if o = (-12 : Int32) then
      (if (eg_I h (p + 1) k) ≤ (eg_I h (p + 1) (k + 1)) then
        (fX5_worth_j320 (fX5_worth_L15 F) h p (p + 3) (p + 1) (nI (k + 1)) (nI i) (0 : Int64))
      else
        fX5_worth_j320 (fX5_worth_L15 F) h p (p + 3) (p + 1) (nI (k + 1)) (nI i) (1 : Int64))
    else if o = (-11 : Int32) then
      (if (eg_I h (p + 1) (k + 1)) ≤ (eg_I h (p + 1) k) then
        (fX5_worth_j303 (fX5_worth_L15 F) h p (p + 3) (p + 1) (nI (k + 1)) (nI i) (0 : Int64))
      else
        fX5_worth_j303 (fX5_worth_L15 F) h p (p + 3) (p + 1) (nI (k + 1)) (nI i) (1 : Int64))
    else if o = (-10 : Int32) then
      (if (eg_I h (p + 1) k) = (eg_I h (p + 1) (k + 1)) then
        (fX5_worth_j286 (fX5_worth_L15 F) h p (p + 3) (p + 1) (nI (k + 1)) (nI i) (1 : Int64))
      else
        fX5_worth_j286 (fX5_worth_L15 F) h p (p + 3) (p + 1) (nI (k + 1)) (nI i) (0 : Int64))
    else if o = (-9 : Int32) then
      (if (eg_I h (p + 1) (k + 1)) = 0 then
        (fX5_worth_j269 (fX5_worth_L15 F) h p (p + 3) (p + 1) (nI (k + 1)) (nI i) (0 : Int64))
      else if (eg_I h (p + 1) (k + 1)) = 0 then none else
        fX5_worth_j269 (fX5_worth_L15 F) h p (p + 3) (p + 1) (nI (k + 1)) (nI i) ((eg_I h (p + 1) k / eg_I h (p + 1) (k + 1)).toInt64))
    else if o = (-8 : Int32) then
      (fX5_worth_j242 (fX5_worth_L15 F) h p (p + 3) (p + 1) (nI (k + 1)) (nI i) (eg_I h (p + 1) k) (eg_I h (p + 1) (k + 1)))
    else if o = (-7 : Int32) then
      (fX5_worth_j333 (fX5_worth_L15 F) h p (p + 3) (p + 1) (nI (k + 1)) (nI i) (eg_I h (p + 1) k - eg_I h (p + 1) (k + 1)).toInt64)
    else if o = (-6 : Int32) then
      (fX5_worth_j333 (fX5_worth_L15 F) h p (p + 3) (p + 1) (nI (k + 1)) (nI i) (eg_I h (p + 1) k + eg_I h (p + 1) (k + 1)).toInt64)
    else fX5_worth_j333 (fX5_worth_L15 F) h p (p + 3) (p + 1) (nI (k + 1)) (nI i) (eg_I h (p + 1) k ||| eg_I h (p + 1) (k + 1)).toInt64) := by
    unfold Wr
    rw [fX5_worth_L15, Lw_al L, Option.bind_some, if_neg (nI_ge hi (by omega)), Lw_c L hi, hx, Option.bind_some, if_pos d1, if_pos (show (1 : Int32) ≤ nI (k + 2) from nI_le (a := 1) (by omega) (by omega)), if_neg d2, if_neg d3, if_neg d4, if_pos (show (2 : Int32) ≤ nI (k + 2) from nI_le (a := 2) (by omega) (by omega)), nI_p1, nI_m1, Lw_s L (by omega), Option.bind_some, Lw_s L (by omega), Option.bind_some]
    simp only [Option.bind_some]
  rw [e0]
  generalize eg_I h (p + 1) k = x
  generalize eg_I h (p + 1) (k + 1) = y
  have W := fun z : Int64 => W_333 L (i := i) (k := k) (F := F) (by omega) z
  have W2 : ∀ a b : Int32, fX5_worth_j242 (fX5_worth_L15 F) h p (p + 3) (p + 1) (nI (k + 1)) (nI i) a b = Wr F (eg_sI h (p + 1) k (cl6 (a.toInt64 * b.toInt64))) p (k + 1) (i + 1) := fun a b => by
    unfold fX5_worth_j242
    rw [Option.bind_some, W]
  unfold fX5_worth_j320 fX5_worth_j303 fX5_worth_j286 fX5_worth_j269
  simp only [W, W2, cl6_01.1, cl6_01.2]
  unfold opV
  unfold oB at ho
  simp only [List.mem_cons, List.not_mem_nil, or_false] at ho
  rcases ho with rfl | rfl | rfl | rfl | rfl | rfl | rfl | rfl | rfl
  · rw [if_neg (show ¬ (-6 : Int32) = -13 by decide), if_neg (show ¬ (-6 : Int32) = -12 by decide), if_neg (show ¬ (-6 : Int32) = -11 by decide), if_neg (show ¬ (-6 : Int32) = -10 by decide), if_neg (show ¬ (-6 : Int32) = -9 by decide), if_neg (show ¬ (-6 : Int32) = -8 by decide), if_neg (show ¬ (-6 : Int32) = -7 by decide), if_pos rfl, if_pos rfl]
  · rw [if_neg (show ¬ (-7 : Int32) = -13 by decide), if_neg (show ¬ (-7 : Int32) = -12 by decide), if_neg (show ¬ (-7 : Int32) = -11 by decide), if_neg (show ¬ (-7 : Int32) = -10 by decide), if_neg (show ¬ (-7 : Int32) = -9 by decide), if_neg (show ¬ (-7 : Int32) = -8 by decide), if_pos rfl, if_neg (show ¬ (-7 : Int32) = -6 by decide), if_pos rfl]
  · rw [if_neg (show ¬ (-8 : Int32) = -13 by decide), if_neg (show ¬ (-8 : Int32) = -12 by decide), if_neg (show ¬ (-8 : Int32) = -11 by decide), if_neg (show ¬ (-8 : Int32) = -10 by decide), if_neg (show ¬ (-8 : Int32) = -9 by decide), if_pos rfl, if_neg (show ¬ (-8 : Int32) = -6 by decide), if_neg (show ¬ (-8 : Int32) = -7 by decide), if_pos (Or.inl rfl)]
  · rw [if_neg (show ¬ (-9 : Int32) = -13 by decide), if_neg (show ¬ (-9 : Int32) = -12 by decide), if_neg (show ¬ (-9 : Int32) = -11 by decide), if_neg (show ¬ (-9 : Int32) = -10 by decide), if_pos rfl, if_neg (show ¬ (-9 : Int32) = -6 by decide), if_neg (show ¬ (-9 : Int32) = -7 by decide), if_neg (show ¬ ((-9 : Int32) = -8 ∨ (-9 : Int32) = -13) by decide), if_pos rfl]
    by_cases c : y = 0
    · rw [if_pos c, if_pos c]
    · rw [if_neg c, if_neg c, if_neg c]
  · rw [if_neg (show ¬ (-10 : Int32) = -13 by decide), if_neg (show ¬ (-10 : Int32) = -12 by decide), if_neg (show ¬ (-10 : Int32) = -11 by decide), if_pos rfl, if_neg (show ¬ (-10 : Int32) = -6 by decide), if_neg (show ¬ (-10 : Int32) = -7 by decide), if_neg (show ¬ ((-10 : Int32) = -8 ∨ (-10 : Int32) = -13) by decide), if_neg (show ¬ (-10 : Int32) = -9 by decide), if_pos rfl]
    by_cases c : x = y
    · rw [if_pos c, if_pos c]
    · rw [if_neg c, if_neg c]
  · rw [if_neg (show ¬ (-11 : Int32) = -13 by decide), if_neg (show ¬ (-11 : Int32) = -12 by decide), if_pos rfl, if_neg (show ¬ (-11 : Int32) = -6 by decide), if_neg (show ¬ (-11 : Int32) = -7 by decide), if_neg (show ¬ ((-11 : Int32) = -8 ∨ (-11 : Int32) = -13) by decide), if_neg (show ¬ (-11 : Int32) = -9 by decide), if_neg (show ¬ (-11 : Int32) = -10 by decide), if_pos rfl]
    by_cases c : y ≤ x
    · rw [if_pos c, if_neg (Int32.not_lt.mpr c)]
    · rw [if_neg c, if_pos (Int32.not_le.mp c)]
  · rw [if_neg (show ¬ (-12 : Int32) = -13 by decide), if_pos rfl, if_neg (show ¬ (-12 : Int32) = -6 by decide), if_neg (show ¬ (-12 : Int32) = -7 by decide), if_neg (show ¬ ((-12 : Int32) = -8 ∨ (-12 : Int32) = -13) by decide), if_neg (show ¬ (-12 : Int32) = -9 by decide), if_neg (show ¬ (-12 : Int32) = -10 by decide), if_neg (show ¬ (-12 : Int32) = -11 by decide), if_pos rfl]
    by_cases c : x ≤ y
    · rw [if_pos c, if_neg (Int32.not_lt.mpr c)]
    · rw [if_neg c, if_pos (Int32.not_le.mp c)]
  · rw [if_pos rfl, if_neg (show ¬ (-13 : Int32) = -6 by decide), if_neg (show ¬ (-13 : Int32) = -7 by decide), if_pos (Or.inr rfl)]
  · rw [if_neg (show ¬ (-14 : Int32) = -13 by decide), if_neg (show ¬ (-14 : Int32) = -12 by decide), if_neg (show ¬ (-14 : Int32) = -11 by decide), if_neg (show ¬ (-14 : Int32) = -10 by decide), if_neg (show ¬ (-14 : Int32) = -9 by decide), if_neg (show ¬ (-14 : Int32) = -8 by decide), if_neg (show ¬ (-14 : Int32) = -7 by decide), if_neg (show ¬ (-14 : Int32) = -6 by decide), if_neg (show ¬ (-14 : Int32) = -6 by decide), if_neg (show ¬ (-14 : Int32) = -7 by decide), if_neg (show ¬ ((-14 : Int32) = -8 ∨ (-14 : Int32) = -13) by decide), if_neg (show ¬ (-14 : Int32) = -9 by decide), if_neg (show ¬ (-14 : Int32) = -10 by decide), if_neg (show ¬ (-14 : Int32) = -11 by decide), if_neg (show ¬ (-14 : Int32) = -12 by decide)]
theorem W_not (L : Lw h p C) {i k F : Nat} (hi : i < C.length) (hx : C.getD i 0 = -15) (hk : k < 40) : Wr (F + 1) h p (k + 1) i = Wr F (eg_sI h (p + 1) k (1 - eg_I h (p + 1) k)) p (k + 1) (i + 1) := by
  have hn := L.2.1
  unfold Wr
  rw [fX5_worth_L15, Lw_al L, Option.bind_some, if_neg (nI_ge hi (by omega)), Lw_c L hi, hx, Option.bind_some, if_pos (by decide), if_pos (show (1 : Int32) ≤ nI (k + 1) from nI_le (a := 1) (by omega) (by omega)), if_neg (by decide), if_pos rfl, nI_m1, Lw_s L hk, Option.bind_some, Lw_w L hk, Option.bind_some, nI_1]
theorem W_end (L : Lw h p C) {i k F : Nat} (hi : i < C.length) (hx : C.getD i 0 = -17) (hk : k < 40) : Wr (F + 1) h p (k + 1) i = some (.inr (.inr (.inr (.inl (p + 1, nI (k + 1), h))))) := by
  have hn := L.2.1
  unfold Wr
  rw [fX5_worth_L15, Lw_al L, Option.bind_some, if_neg (nI_ge hi (by omega)), Lw_c L hi, hx, Option.bind_some, if_pos (by decide), if_pos (show (1 : Int32) ≤ nI (k + 1) from nI_le (a := 1) (by omega) (by omega)), if_pos rfl]
theorem W_past (L : Lw h p C) {k F : Nat} : Wr (F + 1) h p k C.length = some (.inl h) := by
  have hn := L.2.1
  unfold Wr
  rw [fX5_worth_L15, Lw_al L, Option.bind_some, if_pos (nI_le (by omega) (by omega))]
end WO
