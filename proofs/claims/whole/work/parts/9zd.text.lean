theorem items_j {t : Nat → Int32} {n k b : Nat} : ∀ j i m (V : Nat → Int32) e, i ≤ n + 1 → (itemsF t n k b j i m V).1 = .inr e → k < 3 → e ≤ n + 1 := by
  intro j
  induction j with
  | zero => intro i m V e hi he _; cases he; exact hi
  | succ j ih =>
    intro i m V e hi he hk
    unfold itemsF at he
    cases hit : itm k (sg t n i) with
    | none => rw [hit] at he; cases he; exact hi
    | some w =>
      rw [hit] at he
      dsimp only at he
      have hlt : i < n := by
        rcases Nat.lt_or_ge i n with z | z
        · exact z
        · have : sg t n i = 0 := if_neg (by omega)
          rw [this, (itm_0 k hk).1] at hit
          cases hit
      have hj : skp t n (i + 1) ≤ n := skp_le t n _ hlt
      split at he
      · cases he; exact hi
      · split at he
        · cases he
        · exact ih _ _ _ e (by have := skp_le t n _ (ndF_n t n 2 _ hj); omega) he hk
theorem items_i {t : Nat → Int32} {n k b i e : Nat} {V : Nat → Int32} (hk : k < 3) (he : (itemsA t n k b i V).1 = .inl e) (hi : i ≤ n) : e ≤ n := by
  unfold itemsA at he
  by_cases hlt : i < n
  · exact items_e _ _ _ _ e (skp_le t n _ hlt) he hk
  · have h1 : skp t n (i + 1) = i + 1 := by rw [skp_eq, if_neg (by omega)]
    rw [h1] at he
    have h0 : sg t n (i + 1) = 0 := if_neg (by omega)
    have h4 : kC k = 4 ∨ kC k = 2 := by unfold kC; split <;> omega
    rcases h4 with h4 | h4 <;> (rw [h4] at he; unfold itemsF at he; rw [h0, (itm_0 k hk).1] at he; cases he)
theorem md_e {t : Nat → Int32} {n : Nat} : ∀ f i M P E V e, i ≤ n → mdF t n f i M P E V = .inl e → e ≤ n + 1 := by
  intro f
  induction f with
  | zero => intro i M P E V e hi h; cases h; omega
  | succ f ih =>
    intro i M P E V e hi h
    unfold mdF at h
    cases hk : clK (sg t n i) M P E with
    | none => rw [hk] at h; cases h; omega
    | some k =>
      rw [hk] at h
      obtain ⟨k1, k2, k3'⟩ := clK_lt hk
      dsimp only at h
      cases hr : (itemsA t n k (clB k P E) i V).1 with
      | inl a =>
        rw [hr] at h
        cases h
        have := items_i k1 hr hi
        omega
      | inr j =>
        have hj : j ≤ n + 1 := by
          unfold itemsA at hr
          refine items_j _ _ _ _ j ?_ hr k1
          rcases skp_le1 t n (i + 1) with z | z <;> omega
        rw [hr] at h
        dsimp only at h
        by_cases c : sg t n j = 59
        · rw [if_pos c] at h
          have hlt := sg_n c (by decide)
          exact ih _ _ _ _ _ e (skp_le t n _ hlt) h
        · rw [if_neg c] at h
          by_cases c2 : sg t n j = 0 ∧ 2 ≤ (if k = 1 then P + 1 else P) ∧ 1 ≤ (if k = 2 then E + 1 else E)
          · rw [if_pos c2] at h; cases h
          · rw [if_neg c2] at h; cases h; exact hj
theorem mdA_no {σ : eg_S} {e : Nat} (h160 : σ.1 0 ≤ 160) (h : rMd σ = .inl e) : ¬ mdA (rMd σ) = -1 := by
  have := md_e _ _ _ _ _ _ e (skp_le _ _ 0 (Nat.zero_le _)) h
  rw [h]
  exact nI_nm1 (by omega)
theorem lwA_no {t : Nat → Int32} {n e : Nat} (h160 : n ≤ 160) (h : pLaw t n = .inl e) : ¬ lwA (pLaw t n) = -1 := by
  have z := pOk_lawF (t := t) (n := n) 161 (skp t n 0) (skp_le _ _ 0 (Nat.zero_le _))
  have h' : pLawF t n 161 (skp t n 0) = .inl e := h
  rw [h'] at z
  have z' : e ≤ n := z
  rw [h]
  exact nI_nm1 (by omega)
def bLo (x : Nat) : Nat := if x < 4 then (if x = 2 ∨ x = 3 then 1 else 0) else if x < 28 then 0 else (if x % 2 = 0 then 1 else 0)
def bHi (x : Nat) : Nat := if x < 4 then (if x = 0 then 9 else if x = 1 then 1 else if x = 2 then 9 else 60) else if x < 28 then (if x % 2 = 0 then 5 else 9) else (if x % 2 = 0 then 99 else 1)
theorem x_b : ∀ x, x < 40 → xLo x = nI (bLo x) ∧ xHi x = nI (bHi x) ∧ bHi x < 100 ∧ bLo x < 100 := by decide +kernel
theorem Vin_n {P E x : Nat} {V : Nat → Int32} (hP : P ≤ 6) (hE : E ≤ 6) (h : Vin (tol P E) V) (hx : tol P E x) : bLo x ≤ dN (V x) ∧ dN (V x) ≤ bHi x ∧ V x = nI (dN (V x)) := by
  obtain ⟨v1, v2⟩ := h x hx
  obtain ⟨b1, b2, b3, b4⟩ := x_b x (by unfold tol at hx; omega)
  rw [b1] at v1
  rw [b2] at v2
  obtain ⟨m, m1, m2, m3⟩ := GI_n (lo := bLo x) (hi := bHi x) (x := V x) (by omega) (by omega) ⟨Int32.not_lt.mpr v1, Int32.not_lt.mpr v2⟩
  rw [m3, dN_n (by omega)]
  exact ⟨m1, m2, rfl⟩
theorem bHi_p {x : Nat} (h1 : 4 ≤ x) (h2 : x < 28) : bHi x = if x % 2 = 0 then 5 else 9 := by
  unfold bHi
  rw [if_neg (by omega), if_pos h2]
theorem b_e {x : Nat} (h1 : 28 ≤ x) : bHi x = (if x % 2 = 0 then 99 else 1) ∧ bLo x = if x % 2 = 0 then 1 else 0 := by
  unfold bHi bLo
  have a : ¬ x < 4 := by omega
  have b : ¬ x < 28 := by omega
  rw [if_neg a, if_neg b, if_neg a, if_neg b]
  exact ⟨rfl, rfl⟩
theorem U_in {P E : Nat} {V : Nat → Int32} (hP : P ≤ 6) (hE : E ≤ 6) (h : Vin (tol P E) V) : Uok (fun x => dN (V x)) P E := by
  have k : ∀ x, tol P E x → bLo x ≤ dN (V x) ∧ dN (V x) ≤ bHi x := fun x hx => ⟨(Vin_n hP hE h hx).1, (Vin_n hP hE h hx).2.1⟩
  have k0 := k 0 (by unfold tol; omega)
  have k1 := k 1 (by unfold tol; omega)
  have k2 := k 2 (by unfold tol; omega)
  have k3 := k 3 (by unfold tol; omega)
  refine ⟨⟨hP, hE, k0.2, k1.2, k2.1, k2.2, k3.1, k3.2⟩, fun p hp => ?_, fun e he => ?_⟩
  · have a := (k (4 + 4 * p) (by unfold tol; omega)).2
    have b := (k (5 + 4 * p) (by unfold tol; omega)).2
    have c := (k (6 + 4 * p) (by unfold tol; omega)).2
    have d := (k (7 + 4 * p) (by unfold tol; omega)).2
    rw [bHi_p (by omega) (by omega), if_pos (by omega)] at a
    rw [bHi_p (by omega) (by omega), if_neg (by omega)] at b
    rw [bHi_p (by omega) (by omega), if_pos (by omega)] at c
    rw [bHi_p (by omega) (by omega), if_neg (by omega)] at d
    exact ⟨a, b, c, d⟩
  · have a := k (28 + 2 * e) (by unfold tol; omega)
    have b := (k (29 + 2 * e) (by unfold tol; omega)).2
    rw [(b_e (by omega)).1, (b_e (by omega)).2, if_pos (by omega), if_pos (by omega)] at a
    rw [(b_e (by omega)).1, if_neg (by omega)] at b
    exact ⟨a.1, a.2, b⟩
theorem fcF_dg {t : Nat → Int32} {n : Nat} : ∀ j k i, k ≤ i → i < fcF t n j k → dg (sg t n (fp t n i)) := by
  intro j
  induction j with
  | zero => intro k i h1 h2; have h2 : i < k := h2; omega
  | succ j ih =>
    intro k i h1 h2
    unfold fcF at h2
    by_cases c : dg (sg t n (fp t n k))
    · rw [if_pos c] at h2
      by_cases z : i = k
      · rw [z]; exact c
      · exact ih (k + 1) i (by omega) h2
    · rw [if_neg c] at h2; omega
def fr (t : Nat → Int32) (n k : Nat) : Int32 := sg t n (fp t n k) - 48
theorem dg_9 {x : Int32} (h : dg x) : ∃ v, v ≤ 9 ∧ x - 48 = nI v := by
  obtain ⟨m, m1, m2, m3⟩ := GI_n (lo := 48) (hi := 57) (x := x) (by omega) (by omega) ⟨h.1, h.2⟩
  refine ⟨m - 48, by omega, ?_⟩
  subst m3
  have : ∀ m, 48 ≤ m → m ≤ 57 → nI m - 48 = nI (m - 48) := by
    intro m h1 h2
    rcases (by omega : m = 48 ∨ m = 49 ∨ m = 50 ∨ m = 51 ∨ m = 52 ∨ m = 53 ∨ m = 54 ∨ m = 55 ∨ m = 56 ∨ m = 57) with rfl | rfl | rfl | rfl | rfl | rfl | rfl | rfl | rfl | rfl <;> decide
  exact this m m1 m2
def stM (σ : eg_S) (q : Nat × Nat × (Nat → Int32)) : eg_S := (fun j => if j = 0 ∨ j = 4 ∨ j = 6 ∨ j = 7 ∨ j = 8 ∨ j = 10 then 0 else if j = 1 then q.1 else if j = 2 then q.2.1 else if j = 11 then σ.1 11 + 1 else σ.1 j, fun r => if r = 1 then q.2.2 else σ.2 r)
def stN (σ : eg_S) : eg_S := (fun j => if j = 0 then 0 else if j = 3 then σ.1 3 + 1 else σ.1 j, fun r => if r = 9 then (fun k => if k = σ.1 3 then nI (σ.1 0) else σ.2 9 k) else if r = 10 then (fun k => if 160 * σ.1 3 ≤ k ∧ k < 160 * σ.1 3 + 160 then σ.2 0 (k - 160 * σ.1 3) else σ.2 10 k) else σ.2 r)
def stF (σ : eg_S) : eg_S := (fun j => if j = 0 then 0 else if j = 5 then σ.1 5 + 1 else σ.1 j, fun r => if r = 3 then (fun k => if k = σ.1 5 then nI (fc (tT σ) (σ.1 0)) else σ.2 3 k) else if r = 2 then (fun k => if 24 * σ.1 5 ≤ k ∧ k < 24 * σ.1 5 + 24 then fr (tT σ) (σ.1 0) (k - 24 * σ.1 5) else σ.2 2 k) else σ.2 r)
section ST
variable {h h' : eg_H} {σ : eg_S} {B : Nat × Nat}
theorem rMd_in {q : Nat × Nat × (Nat → Int32)} (h : rMd σ = .inr q) : 2 ≤ q.1 ∧ q.1 ≤ 6 ∧ 1 ≤ q.2.1 ∧ q.2.1 ≤ 6 ∧ Vin (tol q.1 q.2.1) q.2.2 := md_in _ _ _ _ _ _ q (by omega) (by omega) (vU0_in _) h
theorem W_mead {q : Nat × Nat × (Nat → Int32)} (W : Wσ σ) (h : rMd σ = .inr q) : Wσ (stM σ q) := by
  obtain ⟨w1, w2, w3, w4, w5, w6, w7, w8, w9, w10⟩ := W
  obtain ⟨q1, q2, q3, q4, q5⟩ := rMd_in h
  refine ⟨⟨Nat.zero_le _, fun i hi => absurd hi (Nat.not_lt_zero i)⟩, ⟨q2, q4, fun z => ?_, fun _ => ⟨q1, q3, U_in q2 q4 q5⟩⟩, ⟨w3.1, Nat.zero_le _, w3.2.2⟩, w4, ⟨Nat.zero_le _, fun i hi => absurd hi (Nat.not_lt_zero i)⟩, ⟨Nat.zero_le _, fun i hi => absurd hi (Nat.not_lt_zero i)⟩, Nat.zero_le _, w8, Nat.zero_le _, fun z => ?_⟩
  · have z : q.1 = 0 := z
    omega
  · have z : 0 = 1 := z
    omega
theorem laT_N : laT (stN σ) (sN σ) = tT σ := by
  funext i
  show (if i < 160 then (if 160 * σ.1 3 ≤ 160 * sN σ + i ∧ 160 * sN σ + i < 160 * σ.1 3 + 160 then σ.2 0 (160 * sN σ + i - 160 * σ.1 3) else σ.2 10 (160 * sN σ + i)) else 0) = if i < 160 then σ.2 0 i else 0
  have e : sN σ = σ.1 3 := rfl
  by_cases c : i < 160
  · rw [if_pos c, if_pos c, if_pos (by omega)]
    exact congrArg (σ.2 0) (by omega)
  · rw [if_neg c, if_neg c]
theorem laN_N (W : Wσ σ) : laN (stN σ) (sN σ) = σ.1 0 := by
  have h160 := W.1.1
  show dN (if sN σ = σ.1 3 then nI (σ.1 0) else σ.2 9 (sN σ)) = _
  rw [if_pos (show sN σ = σ.1 3 from rfl), dN_n (by omega)]
theorem laT_o {j : Nat} (hj : j < sN σ) : laT (stN σ) j = laT σ j ∧ laN (stN σ) j = laN σ j := by
  have e : sN σ = σ.1 3 := rfl
  constructor
  · funext i
    show (if i < 160 then (if 160 * σ.1 3 ≤ 160 * j + i ∧ 160 * j + i < 160 * σ.1 3 + 160 then σ.2 0 (160 * j + i - 160 * σ.1 3) else σ.2 10 (160 * j + i)) else 0) = if i < 160 then σ.2 10 (160 * j + i) else 0
    by_cases c : i < 160
    · rw [if_pos c, if_pos c, if_neg (by omega)]
    · rw [if_neg c, if_neg c]
  · show dN (if j = σ.1 3 then nI (σ.1 0) else σ.2 9 j) = dN (σ.2 9 j)
    rw [if_neg (by omega)]
theorem sL_N (W : Wσ σ) : sL (stN σ) = sL σ := by
  have h4 := W.2.2.1.2.1
  show (if σ.1 4 = 0 then none else lwJ (stN σ) (σ.1 4 - 1)) = if σ.1 4 = 0 then none else lwJ σ (σ.1 4 - 1)
  by_cases c : σ.1 4 = 0
  · rw [if_pos c, if_pos c]
  · rw [if_neg c, if_neg c]
    unfold lwJ
    rw [(laT_o (by omega)).1, (laT_o (by omega)).2]
theorem W_newL {w : List Int32 × ((Nat → Int32) → Int32)} (W : Wσ σ) (hN : sN σ < 4) (h : pLaw (tT σ) (σ.1 0) = .inr w) : Wσ (stN σ) := by
  have W0 := W
  obtain ⟨w1, w2, w3, w4⟩ := W
  refine ⟨⟨Nat.zero_le _, fun i hi => absurd hi (Nat.not_lt_zero i)⟩, w2, ⟨hN, by have := w3.2.1; show σ.1 4 ≤ σ.1 3 + 1; have e : sN σ = σ.1 3 := rfl; omega, fun j hj => ?_⟩, w4⟩
  have hj : j < sN σ + 1 := hj
  by_cases c : j = sN σ
  · rw [c, laT_N, laN_N W0]
    exact ⟨w1.1, byt_T w1, w, h⟩
  · rw [(laT_o (by omega)).1, (laT_o (by omega)).2]
    exact w3.2.2 j (by omega)
theorem fl_N : dN ((stF σ).2 3 (sF σ)) = fc (tT σ) (σ.1 0) ∧ ∀ k, k < 24 → (stF σ).2 2 (24 * sF σ + k) = fr (tT σ) (σ.1 0) k := by
  have e : sF σ = σ.1 5 := rfl
  have := fc_le (tT σ) (σ.1 0)
  constructor
  · show dN (if sF σ = σ.1 5 then nI (fc (tT σ) (σ.1 0)) else σ.2 3 (sF σ)) = _
    rw [if_pos e, dN_n (by omega)]
  · intro k hk
    show (if 24 * σ.1 5 ≤ 24 * sF σ + k ∧ 24 * sF σ + k < 24 * σ.1 5 + 24 then fr (tT σ) (σ.1 0) (24 * sF σ + k - 24 * σ.1 5) else σ.2 2 (24 * sF σ + k)) = _
    rw [if_pos (by omega)]
    congr 1
    omega
theorem fl_o {f : Nat} (hf : f < sF σ) : (stF σ).2 3 f = σ.2 3 f ∧ ∀ k, k < 24 → (stF σ).2 2 (24 * f + k) = σ.2 2 (24 * f + k) := by
  have e : sF σ = σ.1 5 := rfl
  constructor
  · show (if f = σ.1 5 then nI (fc (tT σ) (σ.1 0)) else σ.2 3 f) = _
    rw [if_neg (by omega)]
  · intro k hk
    show (if 24 * σ.1 5 ≤ 24 * f + k ∧ 24 * f + k < 24 * σ.1 5 + 24 then fr (tT σ) (σ.1 0) (24 * f + k - 24 * σ.1 5) else σ.2 2 (24 * f + k)) = _
    rw [if_neg (by omega)]
theorem W_newF (W : Wσ σ) (hF : sF σ < 4) : Wσ (stF σ) := by
  obtain ⟨w1, w2, w3, w4, w5⟩ := W
  refine ⟨⟨Nat.zero_le _, fun i hi => absurd hi (Nat.not_lt_zero i)⟩, w2, w3, ⟨hF, fun f hf => ?_⟩, w5⟩
  have hf : f < sF σ + 1 := hf
  by_cases c : f = sF σ
  · subst c
    have := fc_le (tT σ) (σ.1 0)
    rw [fl_N.1]
    refine ⟨this, fun k hk => ?_⟩
    rw [fl_N.2 k (by omega)]
    exact dg_9 (fcF_dg 24 0 k (Nat.zero_le _) hk)
  · rw [(fl_o (by omega)).1]
    obtain ⟨z1, z2⟩ := w4.2 f (by omega)
    refine ⟨z1, fun k hk => ?_⟩
    rw [(fl_o (by omega)).2 k (by omega)]
    exact z2 k hk
def aText (σ : eg_S) (s : Int32) : Int32 := if s = 0 then (match rMd σ with
    | .inl _ => -1
    | .inr q => nI q.1) else if s = 1 then (if sN σ < 4 ∧ lwA (pLaw (tT σ) (σ.1 0)) = -1 then nI (sN σ) else -1) else if s = 2 then (if sF σ < 4 ∧ flm (tT σ) (σ.1 0) = -1 then nI (sF σ) else -1) else -1
def sText (σ : eg_S) (s : Int32) : eg_S := if s = 0 then (match rMd σ with
    | .inl _ => σ
    | .inr q => stM σ q) else if s = 1 then (if sN σ < 4 ∧ lwA (pLaw (tT σ) (σ.1 0)) = -1 then stN σ else σ) else if s = 2 then (if sF σ < 4 ∧ flm (tT σ) (σ.1 0) = -1 then stF σ else σ) else σ
end ST
