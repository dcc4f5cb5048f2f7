theorem n_md {a b : Nat} (ha : a < 2 ^ 31) (hb : b < 2 ^ 31) : nI a % nI b = nI (a % b) := by
  have h2 : ((a : Nat) : Int).tmod (b : Int) = ((a % b : Nat) : Int) := by rw [Int.tmod_eq_emod_of_nonneg (by omega), Int.natCast_emod]
  rw [← iI_n, ← iI_n, ← iI_n, iI_mod (by unfold i3; omega) (by unfold i3; omega), h2]
theorem n_dv {a b : Nat} (ha : a < 2 ^ 31) (hb : b < 2 ^ 31) : nI a / nI b = nI (a / b) := by
  have hq : a / b ≤ a := Nat.div_le_self _ _
  have hq2 : ((a / b : Nat) : Int) ≤ (a : Int) := by exact_mod_cast hq
  have hq3 : (0 : Int) ≤ ((a / b : Nat) : Int) := Int.natCast_nonneg _
  have h2 : ((a : Nat) : Int).tdiv (b : Int) = ((a / b : Nat) : Int) := by rw [Int.tdiv_eq_ediv_of_nonneg (by omega), Int.natCast_ediv]
  rw [← iI_n, ← iI_n, ← iI_n, iI_div (by unfold i3; omega) (by unfold i3; omega) (by rw [h2]; generalize ((a / b : Nat) : Int) = z at hq2 hq3; unfold i3; omega), h2]
theorem n_ml (a b : Nat) : nI a * nI b = nI (a * b) := by
  rw [← iI_n, ← iI_n, ← iI_n, iI_mul, ← Int.natCast_mul]
theorem gc_st (a b : Nat) : Nat.gcd a b = Nat.gcd b (a % b) := by
  rw [Nat.gcd_comm a b, Nat.gcd_rec b a, Nat.gcd_comm]
section RW
variable {h : eg_H} {σ : eg_S} {B : Nat × Nat}
theorem X_gcd : ∀ k a b i F, a < 2 ^ 31 → b < 2 ^ k → k ≤ 30 → i + 2 * k ≤ 63 → 2 * k < F → fX12_commonDivisor_L7 F h (nI a) (nI b) (nI i) = some (nI (Nat.gcd a b), h) := by
  have b0 : ∀ a i F, 0 < F → i ≤ 63 → fX12_commonDivisor_L7 F h (nI a) (nI 0) (nI i) = some (nI (Nat.gcd a 0), h) := by
    intro a i F hF hi
    obtain ⟨F, rfl⟩ : ∃ F', F = F' + 1 := ⟨F - 1, by omega⟩
    rw [fX12_commonDivisor_L7, if_neg (show ¬ (64 : Int32) ≤ nI i from nI_ge (b := 64) (by omega) (by omega)), if_pos (show nI 0 = 0 from rfl), Nat.gcd_zero_right]
  intro k
  induction k with
  | zero =>
    intro a b i F ha hb hk hi hF
    obtain rfl : b = 0 := by omega
    exact b0 a i F (by omega) (by omega)
  | succ k ih =>
    intro a b i F ha hb hk hi hF
    have hp : 2 ^ (k + 1) ≤ 2 ^ 30 := Nat.pow_le_pow_right (by omega) hk
    have hp2 : 2 ^ (k + 1) = 2 * 2 ^ k := by rw [Nat.pow_succ]; omega
    rcases Nat.eq_zero_or_pos b with z | z
    · subst z; exact b0 a i F (by omega) (by omega)
    obtain ⟨F, rfl⟩ : ∃ F', F = F' + 1 := ⟨F - 1, by omega⟩
    have hr : a % b < b := Nat.mod_lt _ z
    rw [fX12_commonDivisor_L7, if_neg (show ¬ (64 : Int32) ≤ nI i from nI_ge (b := 64) (by omega) (by omega)), if_neg (nI_ne0 (by omega) (by omega)), if_neg (nI_ne0 (by omega) (by omega)), n_md (by omega) (by omega), Option.bind_some, nI_1, gc_st a b]
    rcases Nat.eq_zero_or_pos (a % b) with y | y
    · rw [y]; exact b0 b (i + 1) F (by omega) (by omega)
    obtain ⟨F, rfl⟩ : ∃ F', F = F' + 1 := ⟨F - 1, by omega⟩
    have hr2 : b % (a % b) < a % b := Nat.mod_lt _ y
    have hr3 : b % (a % b) + (a % b) ≤ b := by
      have h1 := Nat.mod_add_div b (a % b)
      have h2 : 1 ≤ b / (a % b) := Nat.div_pos (by omega) y
      have h3 : a % b ≤ (a % b) * (b / (a % b)) := Nat.le_mul_of_pos_right _ (by omega)
      omega
    rw [fX12_commonDivisor_L7, if_neg (show ¬ (64 : Int32) ≤ nI (i + 1) from nI_ge (b := 64) (by omega) (by omega)), if_neg (nI_ne0 (by omega) (by omega)), if_neg (nI_ne0 (by omega) (by omega)), n_md (by omega) (by omega), Option.bind_some, nI_1, gc_st b (a % b)]
    exact ih (a % b) (b % (a % b)) (i + 1 + 1) F (by omega) (by omega) (by omega) (by omega) (by omega)
theorem M_gcd : ∀ k a b F, a < 2 ^ 31 → b < 2 ^ k → k ≤ 30 → 2 * k < F → fX13_common F h (nI a) (nI b) = some (nI (Nat.gcd a b), h) := by
  have b0 : ∀ a F, 0 < F → fX13_common F h (nI a) (nI 0) = some (nI (Nat.gcd a 0), h) := by
    intro a F hF
    obtain ⟨F, rfl⟩ : ∃ F', F = F' + 1 := ⟨F - 1, by omega⟩
    show fX13_commonB (fX13_common F) h (nI a) (nI 0) = _
    unfold fX13_commonB
    rw [if_pos (show nI 0 = 0 from rfl), Nat.gcd_zero_right]
  intro k
  induction k with
  | zero =>
    intro a b F ha hb hk hF
    obtain rfl : b = 0 := by omega
    exact b0 a F (by omega)
  | succ k ih =>
    intro a b F ha hb hk hF
    have hp : 2 ^ (k + 1) ≤ 2 ^ 30 := Nat.pow_le_pow_right (by omega) hk
    have hp2 : 2 ^ (k + 1) = 2 * 2 ^ k := by rw [Nat.pow_succ]; omega
    rcases Nat.eq_zero_or_pos b with z | z
    · subst z; exact b0 a F (by omega)
    obtain ⟨F, rfl⟩ : ∃ F', F = F' + 1 := ⟨F - 1, by omega⟩
    have hr : a % b < b := Nat.mod_lt _ z
    show fX13_commonB (fX13_common F) h (nI a) (nI b) = _
    unfold fX13_commonB
    rw [if_neg (nI_ne0 (by omega) (by omega)), if_neg (nI_ne0 (by omega) (by omega)), n_md (by omega) (by omega), gc_st a b]
    rcases Nat.eq_zero_or_pos (a % b) with y | y
    · rw [y, b0 b F (by omega), Option.bind_some]
    obtain ⟨F, rfl⟩ : ∃ F', F = F' + 1 := ⟨F - 1, by omega⟩
    have hr2 : b % (a % b) < a % b := Nat.mod_lt _ y
    have hr3 : b % (a % b) + (a % b) ≤ b := by
      have h1 := Nat.mod_add_div b (a % b)
      have h2 : 1 ≤ b / (a % b) := Nat.div_pos (by omega) y
      have h3 : a % b ≤ (a % b) * (b / (a % b)) := Nat.le_mul_of_pos_right _ (by omega)
      omega
    have e2 : fX13_common (F + 1) h (nI b) (nI (a % b)) = some (nI (Nat.gcd b (a % b)), h) := by
      show fX13_commonB (fX13_common F) h (nI b) (nI (a % b)) = _
      unfold fX13_commonB
      rw [if_neg (nI_ne0 (by omega) (by omega)), if_neg (nI_ne0 (by omega) (by omega)), n_md (by omega) (by omega), gc_st b (a % b), ih (a % b) (b % (a % b)) F (by omega) (by omega) (by omega) (by omega), Option.bind_some]
    rw [e2, Option.bind_some]
def rwA (t r : Nat) : Nat := r * (t + 1)
def rwB (t L r : Nat) : Nat := rwA t r + (100 - r) * (L / 4 + 1)
theorem rw_b {t L r : Nat} (ht : t ≤ 23) (hL : L ≤ 24) (hr : r ≤ 100) : rwA t r ≤ 2400 ∧ rwB t L r ≤ 3100 ∧ 0 < Nat.gcd (rwA t r) (rwB t L r) ∧ Nat.gcd (rwA t r) (rwB t L r) ≤ 3100 ∧ 0 < rwB t L r := by
  have h1 : rwA t r ≤ 100 * 24 := Nat.mul_le_mul hr (by omega)
  have h2 : (100 - r) * (L / 4 + 1) ≤ 100 * 7 := Nat.mul_le_mul (by omega) (by omega)
  have hpos : 0 < rwB t L r := by
    unfold rwB
    rcases Nat.lt_or_ge r 100 with z | z
    · have : 0 < (100 - r) * (L / 4 + 1) := Nat.mul_pos (by omega) (by omega)
      omega
    · have : 0 < rwA t r := Nat.mul_pos (by omega) (by omega)
      omega
  have hb : rwB t L r ≤ 3100 := by unfold rwB; omega
  refine ⟨h1, hb, Nat.gcd_pos_of_pos_right _ hpos, Nat.le_trans (Nat.gcd_le_right _ hpos) hb, hpos⟩
def aRaw (σ : eg_S) (f r w : Int32) : Int32 := if (gFm σ f ∧ GI (nI 0) (nI 100) r) ∧ GI (nI 0) (nI 1) w then (if w = 0 then nI (rwA (trn (fmH σ (dN f)) (fmL σ (dN f))) (dN r) / Nat.gcd (rwA (trn (fmH σ (dN f)) (fmL σ (dN f))) (dN r)) (rwB (trn (fmH σ (dN f)) (fmL σ (dN f))) (fmL σ (dN f)) (dN r))) else nI (rwB (trn (fmH σ (dN f)) (fmL σ (dN f))) (fmL σ (dN f)) (dN r) / Nat.gcd (rwA (trn (fmH σ (dN f)) (fmL σ (dN f))) (dN r)) (rwB (trn (fmH σ (dN f)) (fmL σ (dN f))) (fmL σ (dN f)) (dN r)))) else -1
theorem rw_e {t L r : Nat} (hr : r ≤ 100) (hL : L ≤ 24) : nI r * (nI t + 1) = nI (rwA t r) ∧ nI (rwA t r) + ((100 : Int32) - nI r) * (nI L / 4 + 1) = nI (rwB t L r) := by
  constructor
  · rw [nI_1, n_ml]; rfl
  · rw [show (100 : Int32) = nI 100 from rfl, n_sub hr, show (4 : Int32) = nI 4 from rfl, n_dv (by omega) (by omega), nI_1, n_ml, nI_add]
    rfl
theorem X_raw (X : XI h σ B) (f r w : Int32) : ∃ h', fX12_raw h 16 f r w = some (aRaw σ f r w, h') ∧ XOk h h' σ B := by
  have C := X.2.2.1
  have hs := C.1
  have hP := XI_P X
  obtain ⟨q, e1, y1, n1⟩ := X_filmAt X f
  unfold fX12_raw aRaw
  rw [if_pos (iO_16 hs), e1, Option.bind_some]
  dsimp only
  by_cases c1 : gFm σ f
  rotate_left
  · rw [if_pos (n1 c1), if_neg (fun z => c1 z.1.1)]; exact ⟨h, rfl, XOk_rfl X⟩
  obtain ⟨p, rfl, F⟩ := y1 c1
  rw [if_neg (show ¬ some p = none by simp)]
  by_cases c4 : r < 0
  · rw [if_pos c4, if_neg (fun z => z.1.2.1 c4)]; exact ⟨h, rfl, XOk_rfl X⟩
  rw [if_neg c4]
  by_cases c5 : (100 : Int32) < r
  · rw [if_pos c5, if_neg (fun z => z.1.2.2 c5)]; exact ⟨h, rfl, XOk_rfl X⟩
  rw [if_neg c5]
  have c2 : GI (nI 0) (nI 100) r := ⟨c4, c5⟩
  rw [X_isEither h w, Option.bind_some]
  dsimp only
  rw [g01]
  by_cases c3 : GI (nI 0) (nI 1) w
  rotate_left
  · rw [if_neg c3, if_neg (fun z => c3 z.2)]; exact ⟨h, rfl, XOk_rfl X⟩
  rw [if_pos c3]
  rw [if_pos (show (gFm σ f ∧ GI (nI 0) (nI 100) r) ∧ GI (nI 0) (nI 1) w from ⟨⟨c1, c2⟩, c3⟩)]
  obtain ⟨n, n1, n2, rfl⟩ := GI_n (by omega) (by omega) c2
  refine ⟨h, ?_, XOk_rfl X⟩
  have hL := F.2.1
  have ht := trn_le (fmH σ (dN f)) (fmL σ (dN f))
  obtain ⟨b1, b2, b3, b4, b5⟩ := rw_b (t := trn (fmH σ (dN f)) (fmL σ (dN f))) (L := fmL σ (dN f)) (r := n) (by omega) hL n2
  obtain ⟨r1, r2⟩ := rw_e (t := trn (fmH σ (dN f)) (fmL σ (dN f))) (L := fmL σ (dN f)) (r := n) n2 hL
  have eg := X_gcd (h := h) 12 (rwA (trn (fmH σ (dN f)) (fmL σ (dN f))) n) (rwB (trn (fmH σ (dN f)) (fmL σ (dN f))) (fmL σ (dN f)) n) 0 eg_F (by omega) (by omega) (by omega) (by omega) (by rw [eg_F_eq]; omega)
  have eg' : fX12_commonDivisor_L7 eg_F h (nI (rwA (trn (fmH σ (dN f)) (fmL σ (dN f))) n)) (nI (rwB (trn (fmH σ (dN f)) (fmL σ (dN f))) (fmL σ (dN f)) n)) 0 = _ := eg
  rw [Option.bind_some, X_turns F, Option.bind_some]
  dsimp only
  rw [r1, Option.bind_some, X_flen F, Option.bind_some]
  dsimp only
  rw [r2, Option.bind_some]
  unfold fX12_commonDivisor
  rw [eg', Option.bind_some, Option.bind_some, dN_n (by omega)]
  dsimp only
  rw [if_pos (show (0 : Int32) < nI _ from nI_lt (a := 0) b3 (by omega))]
  by_cases w0 : w = 0
  · rw [if_pos w0, if_pos w0, if_neg (nI_ne0 (by omega) (by omega)), n_dv (by omega) (by omega)]
  · rw [if_neg w0, if_neg w0, if_neg (nI_ne0 (by omega) (by omega)), n_dv (by omega) (by omega)]
theorem M_raw (R : RI h σ) (f r w : Int32) : ∃ h', fX13_raw h 54 f r w = some (aRaw σ f r w, h') ∧ ROk h h' σ := by
  obtain ⟨R0, Q0⟩ := R_0 R
  have hs := R.1
  have s0 := R0.1
  have hP := RI_P R
  unfold fX13_raw aRaw
  rw [if_pos (iO_54 hs), pI_54 hs, Option.bind_some]
  rw [M_isFilm R0 f, Option.bind_some]
  dsimp only
  rw [g01]
  by_cases c1 : gFm σ f
  rotate_left
  · rw [if_neg c1, if_neg (fun z => c1 z.1.1)]; exact ⟨_, rfl, ROk_scr R Q0⟩
  rw [if_pos c1]
  rw [M_GI (lo := 0) (hi := 100) _ r (by omega) (by omega) 0 100 rfl rfl, Option.bind_some]
  dsimp only
  rw [g01]
  by_cases c2 : GI (nI 0) (nI 100) r
  rotate_left
  · rw [if_neg c2, if_neg (fun z => c2 z.1.2)]; exact ⟨_, rfl, ROk_scr R Q0⟩
  rw [if_pos c2]
  rw [M_GI (lo := 0) (hi := 1) _ w (by omega) (by omega) 0 1 rfl rfl, Option.bind_some]
  dsimp only
  rw [g01]
  by_cases c3 : GI (nI 0) (nI 1) w
  rotate_left
  · rw [if_neg c3, if_neg (fun z => c3 z.2)]; exact ⟨_, rfl, ROk_scr R Q0⟩
  rw [if_pos c3]
  rw [if_pos (show (gFm σ f ∧ GI (nI 0) (nI 100) r) ∧ GI (nI 0) (nI 1) w from ⟨⟨c1, c2⟩, c3⟩)]
  have h4 := R.2.1.2.2.2.1.1
  obtain ⟨m, hm, rfl⟩ := G1_n (by omega) c1
  obtain ⟨n, n1, n2, rfl⟩ := GI_n (by omega) (by omega) c2
  have F := M_filmOf R0 hm
  refine ⟨_, ?_, ROk_scr R Q0⟩
  have hL := F.2.2.1
  have ht := trn_le (fmH σ m) (fmL σ m)
  obtain ⟨b1, b2, b3, b4, b5⟩ := rw_b (t := trn (fmH σ m) (fmL σ m)) (L := fmL σ m) (r := n) (by omega) hL n2
  obtain ⟨r1, r2⟩ := rw_e (t := trn (fmH σ m) (fmL σ m)) (L := fmL σ m) (r := n) n2 hL
  have eg := M_gcd (h := eg_sI h 54 0 0) 12 (rwA (trn (fmH σ m) (fmL σ m)) n) (rwB (trn (fmH σ m) (fmL σ m)) (fmL σ m) n) eg_D (by omega) (by omega) (by omega) (by rw [eg_D_eq]; omega)
  rw [dN_n (by omega), dN_n (by omega), M_trn F, Option.bind_some]
  dsimp only
  rw [r1, Option.bind_some, gR_54 s0, rf_54_31 s0, Option.bind_some, MF_l F, Option.bind_some, r2, Option.bind_some, eg, Option.bind_some]
  dsimp only
  by_cases w0 : w = 0
  · rw [if_pos w0, if_pos w0, if_neg (nI_ne0 (by omega) (by omega)), n_dv (by omega) (by omega)]
  · rw [if_neg w0, if_neg w0, if_neg (nI_ne0 (by omega) (by omega)), n_dv (by omega) (by omega)]
def dfF (f g : Nat → Nat) : Nat → Nat := fun k => if f k = g k then 0 else 1
def lkF (f g : Nat → Nat) (L M : Nat) : Nat := (max L M - min L M) + sm (dfF f g) (min L M)
def hoF (f : Nat → Nat) (L k : Nat) : Int32 := if k < L then nI (f k) else -1
theorem ho_i {f : Nat → Nat} {L k : Nat} (h : k < L) : hoF f L k = nI (f k) := if_pos h
theorem ho_o {f : Nat → Nat} {L k : Nat} (h : ¬ k < L) : hoF f L k = -1 := if_neg h
theorem lk_eq {f g : Nat → Nat} {L M : Nat} (hL : L ≤ 24) (hM : M ≤ 24) (hf : ∀ k, k < L → f k ≤ 9) (hg : ∀ k, k < M → g k ≤ 9) : sm (fun k => if hoF f L k = hoF g M k then 0 else 1) 24 = lkF f g L M := by
  have e1 := sm_add (fun k => if hoF f L k = hoF g M k then 0 else 1) (min L M) (24 - min L M)
  rw [show min L M + (24 - min L M) = 24 by omega] at e1
  have e2 := sm_add (fun i => (fun k => if hoF f L k = hoF g M k then 0 else 1) (min L M + i)) (max L M - min L M) (24 - max L M)
  rw [show max L M - min L M + (24 - max L M) = 24 - min L M by omega] at e2
  have s1 : sm (fun k => if hoF f L k = hoF g M k then 0 else 1) (min L M) = sm (dfF f g) (min L M) := sm_cg (fun k hk => by
    unfold dfF
    have a1 := hf k (by omega)
    have a2 := hg k (by omega)
    rw [ho_i (f := f) (by omega), ho_i (f := g) (by omega)]
    by_cases c : f k = g k
    · rw [if_pos (by rw [c]), if_pos c]
    · rw [if_neg (fun z => c ((nI_eq (by omega) (by omega)).mp z)), if_neg c])
  have s2 : ∀ n, n ≤ max L M - min L M → sm (fun i => (fun k => if hoF f L k = hoF g M k then 0 else 1) (min L M + i)) n = n := by
    intro n
    induction n with
    | zero => intro _; rfl
    | succ n ih =>
      intro hn
      show sm _ n + (if hoF f L (min L M + n) = hoF g M (min L M + n) then 0 else 1) = n + 1
      rw [ih (by omega), if_neg]
      rcases Nat.lt_or_ge L M with z | z
      · have a2 := hg (min L M + n) (by omega)
        rw [ho_o (f := f) (by omega), ho_i (f := g) (by omega)]
        exact fun w => nI_nm1 (by omega) w.symm
      · have a2 := hf (min L M + n) (by omega)
        rw [ho_i (f := f) (by omega), ho_o (f := g) (by omega)]
        exact fun w => nI_nm1 (by omega) w
  have s3 : sm (fun i => (fun i => (fun k => if hoF f L k = hoF g M k then 0 else 1) (min L M + i)) (max L M - min L M + i)) (24 - max L M) = 0 := sm_0 (fun i hi => by
    show (if hoF f L _ = hoF g M _ then 0 else 1) = 0
    rw [ho_o (f := f) (by omega), ho_o (f := g) (by omega), if_pos rfl])
  rw [e1, s1, e2, s2 _ (Nat.le_refl _), s3]
  unfold lkF
  omega
def aLike (σ : eg_S) (f g : Int32) : Int32 := if gFm σ f ∧ gFm σ g then nI (lkF (fmH σ (dN f)) (fmH σ (dN g)) (fmL σ (dN f)) (fmL σ (dN g))) else -1
theorem X_dif_L {p q L M : Nat} {f g : Nat → Nat} (F : XF h p L f) (G : XF h q M g) : ∀ j i Fu, i + j = 24 → j < Fu → fX3_differsFrom_L4 Fu h p q (nI (sm (fun k => if hoF f L k = hoF g M k then 0 else 1) i)) (nI i) = some (nI (sm (fun k => if hoF f L k = hoF g M k then 0 else 1) 24), h) := by
  intro j
  induction j with
  | zero =>
    intro i Fu hi hF
    obtain ⟨Fu, rfl⟩ : ∃ F', Fu = F' + 1 := ⟨Fu - 1, by omega⟩
    obtain rfl : i = 24 := by omega
    rw [fX3_differsFrom_L4, if_pos (by decide)]
  | succ j ih =>
    intro i Fu hi hF
    obtain ⟨Fu, rfl⟩ : ∃ F', Fu = F' + 1 := ⟨Fu - 1, by omega⟩
    have e := ih (i + 1) Fu (by omega) (by omega)
    rw [sm] at e
    rw [fX3_differsFrom_L4, if_neg (show ¬ (24 : Int32) ≤ nI i from nI_ge (b := 24) (by omega) (by omega)), X_hAt F (by omega), Option.bind_some]
    dsimp only
    rw [X_hAt G (by omega), Option.bind_some]
    dsimp only
    show (if hoF f L i = hoF g M i then _ else _) = _
    by_cases c : hoF f L i = hoF g M i
    · rw [if_pos c] at e
      rw [if_pos c, nI_1]; exact e
    · rw [if_neg c] at e
      rw [if_neg c, nI_1, nI_1]; exact e
theorem X_like (X : XI h σ B) (f g : Int32) : ∃ h', fX12_like h 16 f g = some (aLike σ f g, h') ∧ XOk h h' σ B := by
  have C := X.2.2.1
  have hs := C.1
  have hP := XI_P X
  obtain ⟨q, e1, y1, n1⟩ := X_filmAt X f
  obtain ⟨q2, e2, y2, n2⟩ := X_filmAt X g
  unfold fX12_like aLike
  rw [if_pos (iO_16 hs), e1, Option.bind_some]
  dsimp only
  rw [e2, Option.bind_some]
  dsimp only
  by_cases c1 : gFm σ f
  rotate_left
  · rw [if_pos (n1 c1), if_neg (fun z => c1 z.1)]; exact ⟨h, rfl, XOk_rfl X⟩
  obtain ⟨p, rfl, F⟩ := y1 c1
  rw [if_neg (show ¬ some p = none by simp)]
  by_cases c2 : gFm σ g
  rotate_left
  · rw [if_pos (n2 c2), if_neg (fun z => c2 z.2)]; exact ⟨h, rfl, XOk_rfl X⟩
  obtain ⟨p2, rfl, G⟩ := y2 c2
  rw [if_neg (show ¬ some p2 = none by simp), if_pos (show gFm σ f ∧ gFm σ g from ⟨c1, c2⟩)]
  refine ⟨h, ?_, XOk_rfl X⟩
  have e3 := X_dif_L F G 24 0 eg_F (by omega) (by rw [eg_F_eq]; omega)
  have e3' : fX3_differsFrom_L4 eg_F h p p2 0 0 = _ := e3
  rw [Option.bind_some, Option.bind_some]
  unfold fX3_differsFrom
  rw [if_pos (XF_o F).1, e3', Option.bind_some, Option.bind_some, lk_eq F.2.1 G.2.1 F.2.2.1 G.2.2.1]
theorem M_lik_L {p q L M D : Nat} {f g : Nat → Nat} (F : MF h p L f) (G : MF h q M g) : ∀ j i Fu, i + j = min L M → j < Fu → fX13_like_L43 Fu h 54 (nI p) (nI q) (nI (D + sm (dfF f g) i)) (nI i) = some (nI (D + sm (dfF f g) (min L M)), h) := by
  have hs := F.1
  have hL := F.2.2.1
  have hM := G.2.2.1
  intro j
  induction j with
  | zero =>
    intro i Fu hi hF
    obtain ⟨Fu, rfl⟩ : ∃ F', Fu = F' + 1 := ⟨Fu - 1, by omega⟩
    obtain rfl : i = min L M := by omega
    rw [fX13_like_L43, gR_54 hs, rf_54_31 hs, Option.bind_some, MF_l F, Option.bind_some, Option.bind_some, MF_l G, Option.bind_some, (mn_n (by omega) (by omega)).1, if_pos (nI_le (Nat.le_refl _) (by omega))]
  | succ j ih =>
    intro i Fu hi hF
    obtain ⟨Fu, rfl⟩ : ∃ F', Fu = F' + 1 := ⟨Fu - 1, by omega⟩
    have e := ih (i + 1) Fu (by omega) (by omega)
    rw [sm, dfF, ← Nat.add_assoc] at e
    have a1 := F.2.2.2.1 i (by omega)
    have a2 := G.2.2.2.1 i (by omega)
    rw [fX13_like_L43, gR_54 hs, rf_54_31 hs, Option.bind_some, MF_l F, Option.bind_some, Option.bind_some, MF_l G, Option.bind_some, (mn_n (by omega) (by omega)).1, if_neg (nI_ge (by omega) (by omega)), gR_54 hs, rf_54_29 hs, Option.bind_some, MF_h F (by omega), Option.bind_some, Option.bind_some, MF_h G (by omega), Option.bind_some]
    by_cases c : f i = g i
    · rw [if_pos c] at e
      rw [if_pos (by rw [c]), Int32.add_zero, Option.bind_some, nI_1]; exact e
    · rw [if_neg c] at e
      rw [if_neg (fun z => c ((nI_eq (by omega) (by omega)).mp z)), nI_1, Option.bind_some, nI_1]; exact e
theorem abs_n : ∀ a, a < 25 → ∀ b, b < 25 → eg_absI (nI a - nI b) = nI (max a b - min a b) := by decide +kernel
theorem M_like (R : RI h σ) (f g : Int32) : ∃ h', fX13_like h 54 f g = some (aLike σ f g, h') ∧ ROk h h' σ := by
  obtain ⟨R0, Q0⟩ := R_0 R
  have hs := R.1
  have s0 := R0.1
  have hP := RI_P R
  unfold fX13_like aLike
  rw [if_pos (iO_54 hs), pI_54 hs, Option.bind_some]
  rw [M_isFilm R0 f, Option.bind_some]
  dsimp only
  rw [g01]
  by_cases c1 : gFm σ f
  rotate_left
  · rw [if_neg c1, if_neg (fun z => c1 z.1)]; exact ⟨_, rfl, ROk_scr R Q0⟩
  rw [if_pos c1]
  rw [M_isFilm R0 g, Option.bind_some]
  dsimp only
  rw [g01]
  by_cases c2 : gFm σ g
  rotate_left
  · rw [if_neg c2, if_neg (fun z => c2 z.2)]; exact ⟨_, rfl, ROk_scr R Q0⟩
  rw [if_pos c2]
  rw [if_pos (show gFm σ f ∧ gFm σ g from ⟨c1, c2⟩)]
  have h4 := R.2.1.2.2.2.1.1
  obtain ⟨m, hm, rfl⟩ := G1_n (by omega) c1
  obtain ⟨n, hn, rfl⟩ := G1_n (by omega) c2
  have F := M_filmOf R0 hm
  have G := M_filmOf R0 hn
  refine ⟨_, ?_, ROk_scr R Q0⟩
  have hL := F.2.2.1
  have hM := G.2.2.1
  have e3 := M_lik_L (D := max (fmL σ m) (fmL σ n) - min (fmL σ m) (fmL σ n)) F G (min (fmL σ m) (fmL σ n)) 0 eg_F (by omega) (by rw [eg_F_eq]; omega)
  have e3' : fX13_like_L43 eg_F (eg_sI h 54 0 0) 54 (nI m) (nI n) (nI (max (fmL σ m) (fmL σ n) - min (fmL σ m) (fmL σ n))) 0 = _ := e3
  rw [gR_54 s0, rf_54_31 s0, Option.bind_some, MF_l F, Option.bind_some, Option.bind_some, MF_l G, Option.bind_some, abs_n _ (by omega) _ (by omega), Option.bind_some, e3', Option.bind_some, dN_n (by omega), dN_n (by omega)]
  rfl
end RW
