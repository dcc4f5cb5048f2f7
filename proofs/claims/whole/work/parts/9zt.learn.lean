def upB (σ : eg_S) (a b x y : Nat) : Nat → Nat := upU (upU (sU σ) (4 + (4 * a + 3)) x) (4 + (4 * b + 3)) y
def vlL (σ : eg_S) (a b e d N x y : Nat) : Nat := ptF (upB σ a b x y) (sL σ) (sU σ 0) a b e d (sU σ 2) N
abbrev okL (σ : eg_S) (a b e d N G s i : Nat) : Prop := (sU σ (4 + (4 * a + 3)) + i ≤ 9 ∧ sU σ (4 + (4 * b + 3)) + s - i ≤ 9) ∧ G ≤ vlL σ a b e d N (sU σ (4 + (4 * a + 3)) + i) (sU σ (4 + (4 * b + 3)) + s - i)
def lzI (ok : Nat → Nat → Bool) (s : Nat) : Nat → Option Nat
  | 0 => none
  | k + 1 => if ok s (s - k) = true then some (s - k) else lzI ok s k
def lzS (ok : Nat → Nat → Bool) : Nat → Option (Nat × Nat)
  | 0 => none
  | k + 1 => match lzI ok (18 - k) (18 - k + 1) with
    | some i => some (18 - k, i)
    | none => lzS ok k
theorem lzI_no {ok : Nat → Nat → Bool} (h : ∀ s i, ok s i = false) (s : Nat) : ∀ k, lzI ok s k = none := by
  intro k
  induction k with
  | zero => rfl
  | succ k ih => unfold lzI; rw [if_neg (by rw [h]; decide)]; exact ih
theorem lzS_no {ok : Nat → Nat → Bool} (h : ∀ s i, ok s i = false) : ∀ k, lzS ok k = none := by
  intro k
  induction k with
  | zero => rfl
  | succ k ih => unfold lzS; rw [lzI_no h]; exact ih
theorem lzI_le {ok : Nat → Nat → Bool} {s i : Nat} : ∀ k, lzI ok s k = some i → i ≤ s := by
  intro k
  induction k with
  | zero => intro h; cases h
  | succ k ih =>
    intro h
    unfold lzI at h
    by_cases c : ok s (s - k) = true
    · rw [if_pos c] at h; cases h; omega
    · rw [if_neg c] at h; exact ih h
theorem lzS_0 {ok : Nat → Nat → Bool} (h : ok 0 0 = true) : lzS ok 19 = some (0, 0) := by
  unfold lzS lzI
  rw [show 18 - 18 - (18 - 18) = 0 from rfl, if_pos h]
theorem lzS_le {ok : Nat → Nat → Bool} {q : Nat × Nat} : ∀ k, k ≤ 19 → lzS ok k = some q → q.2 ≤ q.1 ∧ q.1 ≤ 18 := by
  intro k
  induction k with
  | zero => intro _ h; cases h
  | succ k ih =>
    intro hk h
    unfold lzS at h
    cases hr : lzI ok (18 - k) (18 - k + 1) with
    | none => rw [hr] at h; exact ih (by omega) h
    | some i => rw [hr] at h; cases h; exact ⟨lzI_le _ hr, by show 18 - k ≤ 18; omega⟩
abbrev okB (σ : eg_S) (a b e d N G : Nat) : Nat → Nat → Bool := fun s i => decide (okL σ a b e d N G s i)
abbrev gLrn (σ : eg_S) (two c n g : Int32) : Prop := ((G2 (sP σ) two ∧ GE (sE σ) c) ∧ GI (nI 0) (nI 60) n) ∧ GI (nI 0) (nI 1000000000) g
def rLrn (r : Option (Nat × Nat)) : Int32 := match r with
  | none => -1
  | some q => nI (10 * q.2 + q.1 - q.2)
def aLrn (σ : eg_S) (two c n g : Int32) : Int32 := if gLrn σ two c n g then rLrn (lzS (okB σ (dA two) (dB two) (dA c) (dB c) (dN n) (dN g)) 19) else -1
theorem i100 : ∀ x, x ≤ 9 → ∀ y, y ≤ 9 → nI (100 * x + y) / 100 = nI x ∧ nI (100 * x + y) % 100 = nI y := by decide +kernel
theorem od_62 : ∀ k, k < 62 → ((nI k % 2 = 1) ↔ k % 2 = 1) := by decide +kernel
theorem nI_sb {a b : Nat} (h : b ≤ a) : nI a - nI b = nI (a - b) := by
  rw [← iI_n, ← iI_n, ← iI_n, iI_sub]
  congr 1
  omega
section LX
variable {h h' : eg_H} {σ : eg_S} {B : Nat × Nat}
theorem upB_o {a b x y z : Nat} (h1 : ¬ z = 4 + (4 * a + 3)) (h2 : ¬ z = 4 + (4 * b + 3)) : upB σ a b x y z = sU σ z := by
  unfold upB upU
  rw [if_neg h2, if_neg h1]
theorem upB_t {a b x y k : Nat} (hab : ¬ a = b) : upB σ a b x y (7 + 4 * fOd k a b) = fOd k x y := by
  unfold upB upU fOd
  by_cases c : k % 2 = 1
  · rw [if_pos c, if_pos c, if_neg (by omega), if_pos (by omega)]
  · rw [if_neg c, if_neg c, if_pos (by omega)]
theorem upB_T {a b x y k e d : Nat} (hab : ¬ a = b) (ha : a < 6) (hb : b < 6) : tOf (upB σ a b x y) (sU σ 0) (fOd k a b) (fOd k b a) e (fOd k d (1 - d)) = ((tOf (sU σ) (sU σ 0) (fOd k a b) (fOd k b a) e (fOd k d (1 - d))).1, fOd k x y, (tOf (sU σ) (sU σ 0) (fOd k a b) (fOd k b a) e (fOd k d (1 - d))).2.2) := by
  have hl : limU (upB σ a b x y) e = limU (sU σ) e := by
    unfold limU
    rw [upB_o (z := 28 + 2 * e) (by omega) (by omega)]
    first
      | rfl
      | rw [upB_o (z := 29 + 2 * e) (by omega) (by omega)]
  have hw : blw (upB σ a b x y) (sU σ 0) (fOd k d (1 - d)) = blw (sU σ) (sU σ 0) (fOd k d (1 - d)) := by
    unfold blw
    rw [upB_o (z := 1) (by omega) (by omega)]
  show (upB σ a b x y (4 + 4 * fOd k a b), upB σ a b x y (7 + 4 * fOd k a b), upB σ a b x y (5 + 4 * fOd k b a), upB σ a b x y (6 + 4 * fOd k b a), blw (upB σ a b x y) (sU σ 0) (fOd k d (1 - d)), limU (upB σ a b x y) e) = (sU σ (4 + 4 * fOd k a b), fOd k x y, sU σ (5 + 4 * fOd k b a), sU σ (6 + 4 * fOd k b a), blw (sU σ) (sU σ 0) (fOd k d (1 - d)), limU (sU σ) e)
  rw [upB_t hab, upB_o (by omega) (by omega), upB_o (by omega) (by omega), upB_o (by omega) (by omega), hw, hl]
theorem bgd_cl {lw : eg_LW} {T : eg_TT} {y z : Nat} : bgd lw (T.1, z, T.2.2) y = ms (gk lw T y) (11 * (z + 1)) := by
  unfold ms
  rw [if_neg (by omega)]
  rfl
theorem pt_cl {a b e d x y k : Nat} (hab : ¬ a = b) (ha : a < 6) (hb : b < 6) (hy : sU σ 3 + k * sU σ 2 ≤ 60) : vlL σ a b e d (k + 1) x y = vlL σ a b e d k x y * clG σ a b e d (k + 1) (fOd (k + 1) x y) / (2 * sU σ (4 + 4 * fOd (k + 1) a b) + 1) := by
  show (if 60 < yK (upB σ a b x y) (sU σ 2) (k + 1) ∨ vlL σ a b e d k x y = 0 then 0 else vlL σ a b e d k x y * bgd (sL σ) (tK (upB σ a b x y) (sU σ 0) a b e d (k + 1)) (yK (upB σ a b x y) (sU σ 2) (k + 1)) / (2 * upB σ a b x y (4 + 4 * fOd (k + 1) a b) + 1)) = _
  have e3 : yK (upB σ a b x y) (sU σ 2) (k + 1) = sU σ 3 + k * sU σ 2 := by
    show upB σ a b x y 3 + k * sU σ 2 = _
    rw [upB_o (by omega) (by omega)]
  have eT : tK (upB σ a b x y) (sU σ 0) a b e d (k + 1) = _ := upB_T hab ha hb
  rw [e3, eT, bgd_cl, upB_o (by omega) (by omega)]
  by_cases c : vlL σ a b e d k x y = 0
  · rw [if_pos (Or.inr c), c, Nat.zero_mul, Nat.zero_div]
  · rw [if_neg (by omega)]
    rfl
theorem vl_dec {a b e d x y k : Nat} : ∀ j, vlL σ a b e d (k + j) x y ≤ vlL σ a b e d k x y := by
  intro j
  induction j with
  | zero => exact Nat.le_refl _
  | succ j ih => exact Nat.le_trans (pt_dec (k + j)) ih
theorem vl_le {a b e d x y k : Nat} : vlL σ a b e d k x y ≤ 1000000000 := pt_le k
theorem X_rch (X : XI h σ B) {a b e d N G x y : Nat} (hab : ¬ a = b) (ha : a < sP σ) (hb : b < sP σ) (hN : N ≤ 60) (hG : G ≤ 1000000000) (hx : x ≤ 9) (hy9 : y ≤ 9) (hy : sU σ 3 + (N - 1) * sU σ 2 ≤ 60) (H : ∀ k' x, 1 ≤ k' → k' ≤ N → x < 10 → eg_I h 53 (10 * k' + x) = nI (clG σ a b e d k' x)) : fX9_reaches h 47 23 (nI (10 * a + b)) (nI (100 * x + y)) (nI N) (nI G) = some (if G ≤ vlL σ a b e d N x y then 1 else 0, h) := by
  have hP := XI_P X
  have C := X.2.2.1
  have hs := C.1
  have hU := XI_U X (by omega)
  have key : ∀ j k F, k + j = N → j < F → ∃ p, fX9_reaches_L8 F h 47 23 (nI (10 * a + b)) (nI (100 * x + y)) (nI N) (nI G) (jI (vlL σ a b e d k x y : Nat)) (nI (k + 1)) = some (nI G, jI (p : Nat), h) ∧ p ≤ 1000000000 ∧ (p < G ↔ vlL σ a b e d N x y < G) := by
    intro j
    induction j with
    | zero =>
      intro k F hi hF
      obtain ⟨F, rfl⟩ : ∃ F', F = F' + 1 := ⟨F - 1, by omega⟩
      obtain rfl : k = N := by omega
      exact ⟨_, by rw [fX9_reaches_L8, if_pos (nI_lt (by omega) (by omega))], vl_le, Iff.rfl⟩
    | succ j ih =>
      intro k F hi hF
      obtain ⟨F, rfl⟩ : ∃ F', F = F' + 1 := ⟨F - 1, by omega⟩
      have hvk := vl_le (σ := σ) (a := a) (b := b) (e := e) (d := d) (x := x) (y := y) (k := k)
      rw [fX9_reaches_L8, if_neg (nI_nlt (by omega) (by omega)), nW (by omega)]
      by_cases c : vlL σ a b e d k x y < G
      · rw [if_pos ((jI_lt (by unfold i6; omega) (by unfold i6; omega)).mpr (by omega))]
        refine ⟨_, rfl, hvk, ?_⟩
        have := vl_dec (σ := σ) (a := a) (b := b) (e := e) (d := d) (x := x) (y := y) (k := k) (N - k)
        rw [show k + (N - k) = N by omega] at this
        omega
      · rw [if_neg (fun z => c (by have := (jI_lt (by unfold i6; omega) (by unfold i6; omega)).mp z; omega))]
        have hky : sU σ 3 + k * sU σ 2 ≤ 60 := by
          have : k * sU σ 2 ≤ (N - 1) * sU σ 2 := Nat.mul_le_mul_right _ (by omega)
          omega
        have fa : fOd (k + 1) a b < sP σ := fOd_P ha hb
        have fx : fOd (k + 1) x y ≤ 9 := by unfold fOd; split <;> assumption
        have hS := (hU.2.1 _ fa).1
        obtain ⟨p, e1, p1, p2⟩ := ih (k + 1) F (by omega) (by omega)
        refine ⟨p, ?_, p1, p2⟩
        have hcl : (nI (10 * (k + 1) + fOd (k + 1) x y)).toNatClampNeg = 10 * (k + 1) + fOd (k + 1) x y := nI_clamp (by omega)
        have hcg : clG σ a b e d (k + 1) (fOd (k + 1) x y) ≤ 2 * sU σ (4 + 4 * fOd (k + 1) a b) + 1 := by
          have := bgd_sl (lw := sL σ) (((tOf (sU σ) (sU σ 0) (fOd (k + 1) a b) (fOd (k + 1) b a) e (fOd (k + 1) d (1 - d))).1, fOd (k + 1) x y, (tOf (sU σ) (sU σ 0) (fOd (k + 1) a b) (fOd (k + 1) b a) e (fOd (k + 1) d (1 - d))).2.2)) (sU σ 3 + k * sU σ 2)
          rw [bgd_cl] at this
          exact this
        have hm : vlL σ a b e d k x y * clG σ a b e d (k + 1) (fOd (k + 1) x y) ≤ 1000000000 * 11 := Nat.mul_le_mul hvk (by omega)
        have e10 : nI (k + 1) * (10 : Int32) + nI (fOd (k + 1) x y) = nI (10 * (k + 1) + fOd (k + 1) x y) := by rw [show (10 : Int32) = nI 10 from rfl, nI_kk, nI_add, Nat.mul_comm]
        have av : eg_aI h 100 53 (nI (10 * (k + 1) + fOd (k + 1) x y)) = some (nI (clG σ a b e d (k + 1) (fOd (k + 1) x y))) := by rw [aI_53 hs (nI_pos (by omega)) (by rw [hcl]; omega), hcl, H (k + 1) _ (by omega) (by omega) (by omega)]
        have j80 : fX9_reaches_j80 (fX9_reaches_L8 F) h 47 23 (nI (10 * a + b)) (nI (100 * x + y)) (nI N) (nI G) (jI (vlL σ a b e d k x y : Nat)) (nI (k + 1)) (nI (10 * (k + 1) + fOd (k + 1) x y)) 23 (nI (fOd (k + 1) a b)) = some (nI G, jI (p : Nat), h) := by
          unfold fX9_reaches_j80
          rw [X_slips hs C.2.1 hU fa, Option.bind_some]
          dsimp only
          rw [if_neg (nI_pos (by omega)), gR_47 hs, rf_47_5 hs, Option.bind_some, al_53 hs, Option.bind_some, if_pos (nI_lt (by omega) (by omega)), Option.bind_some, av, Option.bind_some, nW (by omega), nW (by omega), if_neg (fun z => by have := (jI_eq (b := 0) (by unfold i6; omega) (by unfold i6; omega)).mp z; omega), j_md (by omega) (by omega), Option.bind_some, ← pt_cl hab (by omega) (by omega) hky, nI_1]
          exact e1
        by_cases q : (k + 1) % 2 = 1
        · have o1 : fOd (k + 1) x y = x := by unfold fOd; rw [if_pos q]
          have o2 : fOd (k + 1) a b = a := by unfold fOd; rw [if_pos q]
          rw [o1, o2] at j80
          rw [o1] at e10
          rw [if_pos ((od_62 _ (by omega)).mpr q)]
          unfold fX9_reaches_j37 fX9_reaches_j60
          rw [if_neg (show ¬ (1 : Int32) = 0 by decide), (i100 x hx y hy9).1, e10, Option.bind_some, if_neg (show ¬ (1 : Int32) = 0 by decide), (i10 a b (by omega) (by omega)).1]
          exact j80
        · have o1 : fOd (k + 1) x y = y := by unfold fOd; rw [if_neg q]
          have o2 : fOd (k + 1) a b = b := by unfold fOd; rw [if_neg q]
          rw [o1, o2] at j80
          rw [o1] at e10
          rw [if_neg (fun w => q ((od_62 _ (by omega)).mp w))]
          unfold fX9_reaches_j37 fX9_reaches_j60
          rw [if_pos rfl, (i100 x hx y hy9).2, e10, Option.bind_some, if_pos rfl, (i10 a b (by omega) (by omega)).2]
          exact j80
  obtain ⟨p, e1, p1, p2⟩ := key N 0 eg_F (by omega) (by rw [eg_F_eq]; omega)
  have e1' : fX9_reaches_L8 eg_F h 47 23 (nI (10 * a + b)) (nI (100 * x + y)) (nI N) (nI G) 1000000000 1 = some (nI G, jI (p : Nat), h) := e1
  unfold fX9_reaches
  rw [if_pos (iO_47 hs), e1', Option.bind_some]
  dsimp only
  rw [nW (by omega)]
  by_cases c : p < G
  · have := p2.mp c
    rw [if_pos ((jI_lt (by unfold i6; omega) (by unfold i6; omega)).mpr (by omega)), if_neg (by omega)]
  · have : ¬ vlL σ a b e d N x y < G := fun z => c (p2.mpr z)
    rw [if_neg (fun z => c (by have := (jI_lt (by unfold i6; omega) (by unfold i6; omega)).mp z; omega)), if_pos (by omega)]
end LX
