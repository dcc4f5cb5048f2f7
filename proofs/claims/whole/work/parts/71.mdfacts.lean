def tol (P E x : Nat) : Prop := x < 4 ∨ (4 ≤ x ∧ x < 4 + 4 * P) ∨ (28 ≤ x ∧ x < 28 + 2 * E)
theorem items_agr {t : Nat → Int32} {n k b : Nat} (A : Nat → Prop) : ∀ f i m V V', (∀ x, A x → V x = V' x) → (itemsF t n k b f i m V).1 = (itemsF t n k b f i m V').1 ∧ ∀ x, A x → (itemsF t n k b f i m V).2 x = (itemsF t n k b f i m V').2 x := by
  intro f
  induction f with
  | zero => intro i m V V' h; exact ⟨rfl, h⟩
  | succ f ih =>
    intro i m V V' h
    unfold itemsF
    cases itm k (sg t n i) with
    | none => exact ⟨rfl, h⟩
    | some w =>
      dsimp only
      by_cases c : m.testBit w = true
      · rw [if_pos c, if_pos c]; exact ⟨rfl, h⟩
      · rw [if_neg c, if_neg c]
        cases numE t n 2 (skp t n (i + 1)) (iLo k w) (iHi k w) with
        | some e => exact ⟨rfl, h⟩
        | none =>
          dsimp only
          exact ih _ _ _ _ (fun x hx => by unfold vUp; rw [h x hx])
def mdR (r r' : Nat ⊕ (Nat × Nat × (Nat → Int32))) : Prop := match r, r' with
  | .inl e, .inl e' => e = e'
  | .inr q, .inr q' => q.1 = q'.1 ∧ q.2.1 = q'.2.1 ∧ ∀ x, tol q.1 q.2.1 x → q.2.2 x = q'.2.2 x
  | _, _ => False
theorem tol_k {k P E x : Nat} (hk : k < 3) (h : tol (if k = 1 then P + 1 else P) (if k = 2 then E + 1 else E) x) : tol P E x ∨ (clB k P E ≤ x ∧ x < clB k P E + kC k) := by
  unfold tol at *
  rcases k3 hk with rfl | rfl | rfl
  · simp at h; exact Or.inl h
  · simp at h; simp [clB, kC]; omega
  · simp at h; simp [clB, kC]; omega
theorem md_agr {t : Nat → Int32} {n : Nat} : ∀ f i M P E V V', (∀ x, tol P E x → V x = V' x) → mdR (mdF t n f i M P E V) (mdF t n f i M P E V') := by
  intro f
  induction f with
  | zero => intro i M P E V V' h; exact rfl
  | succ f ih =>
    intro i M P E V V' h
    unfold mdF
    cases hk : clK (sg t n i) M P E with
    | none => exact rfl
    | some k =>
      have k1 := (clK_lt hk).1
      dsimp only
      have q := items_agr (t := t) (n := n) (k := k) (b := clB k P E) (fun x => tol (if k = 1 then P + 1 else P) (if k = 2 then E + 1 else E) x) (kC k) (skp t n (i + 1)) 0 (vUs k (clB k P E) V) (vUs k (clB k P E) V') (fun x hx => by
        unfold vUs
        by_cases c : clB k P E ≤ x ∧ x < clB k P E + kC k
        · rw [if_pos c, if_pos c]
        · rw [if_neg c, if_neg c]
          rcases tol_k k1 hx with z | z
          · exact h x z
          · exact absurd z c)
      change (itemsA t n k (clB k P E) i V).1 = (itemsA t n k (clB k P E) i V').1 ∧ (∀ x, tol (if k = 1 then P + 1 else P) (if k = 2 then E + 1 else E) x → (itemsA t n k (clB k P E) i V).2 x = (itemsA t n k (clB k P E) i V').2 x) at q
      rw [← q.1]
      cases hr : (itemsA t n k (clB k P E) i V).1 with
      | inl e => exact rfl
      | inr j =>
        dsimp only
        by_cases h59 : sg t n j = 59
        · rw [if_pos h59, if_pos h59]
          exact ih _ _ _ _ _ _ q.2
        · rw [if_neg h59, if_neg h59]
          by_cases hz : sg t n j = 0 ∧ 2 ≤ (if k = 1 then P + 1 else P) ∧ 1 ≤ (if k = 2 then E + 1 else E)
          · rw [if_pos hz, if_pos hz]; exact ⟨rfl, rfl, q.2⟩
          · rw [if_neg hz, if_neg hz]; exact rfl
theorem mdR_A {r r' : Nat ⊕ (Nat × Nat × (Nat → Int32))} (h : mdR r r') : mdA r = mdA r' := by
  cases r with
  | inl e => cases r' with
    | inl e' => have h : e = e' := h; rw [h]
    | inr q => exact h.elim
  | inr q => cases r' with
    | inl e' => exact h.elim
    | inr q => rfl
def xLo (x : Nat) : Int32 := if x < 4 then iLo 0 x else if x < 28 then iLo 1 ((x - 4) % 4) else iLo 2 ((x - 28) % 2)
def xHi (x : Nat) : Int32 := if x < 4 then iHi 0 x else if x < 28 then iHi 1 ((x - 4) % 4) else iHi 2 ((x - 28) % 2)
theorem x_at {k P E w : Nat} (hk : k < 3) (hP : k = 1 → P < 6) (hE : k = 2 → E < 6) (hw : w < kC k) : xLo (clB k P E + w) = iLo k w ∧ xHi (clB k P E + w) = iHi k w := by
  unfold xLo xHi
  rcases k3 hk with rfl | rfl | rfl
  · have hw : w < 4 := hw
    simp [clB, hw]
  · have hw : w < 4 := hw
    have := hP rfl
    have e : (4 + 4 * P + w - 4) % 4 = w := by omega
    simp only [clB, if_neg (show ¬ (1 = 0) by decide), if_true]
    rw [if_neg (by omega), if_pos (by omega), if_neg (by omega), if_pos (by omega), e]
    exact ⟨rfl, rfl⟩
  · have hw : w < 2 := hw
    have := hE rfl
    have e : (28 + 2 * E + w - 28) % 2 = w := by omega
    simp only [clB, if_neg (show ¬ (2 = 0) by decide), if_neg (show ¬ (2 = 1) by decide)]
    rw [if_neg (by omega), if_neg (by omega), if_neg (by omega), if_neg (by omega), e]
    exact ⟨rfl, rfl⟩
def Vin (A : Nat → Prop) (V : Nat → Int32) : Prop := ∀ x, A x → xLo x ≤ V x ∧ V x ≤ xHi x
theorem numE_in {t : Nat → Int32} {n m i : Nat} {lo hi : Int32} (h : numE t n m i lo hi = none) : lo ≤ nvF t n m i 0 ∧ nvF t n m i 0 ≤ hi := by
  unfold numE at h
  split at h
  · cases h
  · split at h
    · cases h
    · split at h
      · cases h
      · next z => exact ⟨Int32.not_lt.mp (fun c => z (Or.inl c)), Int32.not_lt.mp (fun c => z (Or.inr c))⟩
theorem items_in {t : Nat → Int32} {n k P E : Nat} (hk : k < 3) (hP : k = 1 → P < 6) (hE : k = 2 → E < 6) (A : Nat → Prop) : ∀ f i m V, Vin A V → Vin A (itemsF t n k (clB k P E) f i m V).2 := by
  intro f
  induction f with
  | zero => intro i m V h; exact h
  | succ f ih =>
    intro i m V h
    unfold itemsF
    cases hw : itm k (sg t n i) with
    | none => exact h
    | some w =>
      dsimp only
      split
      · exact h
      · cases hq : numE t n 2 (skp t n (i + 1)) (iLo k w) (iHi k w) with
        | some e => exact h
        | none =>
          dsimp only
          refine ih _ _ _ (fun x hx => ?_)
          unfold vUp
          by_cases c : x = clB k P E + w
          · rw [if_pos c, c, (x_at hk hP hE (itm_lt hw)).1, (x_at hk hP hE (itm_lt hw)).2]
            exact numE_in hq
          · rw [if_neg c]; exact h x hx
theorem us_in : ∀ k, k < 3 → ∀ w, w < kC k → iLo k w ≤ (eg_tb 4).getD (kB k + w) 0 ∧ (eg_tb 4).getD (kB k + w) 0 ≤ iHi k w := by decide +kernel
theorem vUs_in {k P E : Nat} (hk : k < 3) (hP : k = 1 → P < 6) (hE : k = 2 → E < 6) {V : Nat → Int32} (h : Vin (tol P E) V) : Vin (tol (if k = 1 then P + 1 else P) (if k = 2 then E + 1 else E)) (vUs k (clB k P E) V) := by
  intro x hx
  unfold vUs
  by_cases c : clB k P E ≤ x ∧ x < clB k P E + kC k
  · rw [if_pos c]
    have e : x = clB k P E + (x - clB k P E) := by omega
    have q := x_at hk hP hE (w := x - clB k P E) (by omega)
    rw [← e] at q
    rw [q.1, q.2]
    exact us_in k hk _ (by omega)
  · rw [if_neg c]
    rcases tol_k hk hx with z | z
    · exact h x z
    · exact absurd z c
theorem vU0_in (V : Nat → Int32) : Vin (tol 0 0) (vUs 0 0 V) := by
  intro x hx
  have hx4 : x < 4 := by
    unfold tol at hx; omega
  unfold vUs
  rw [if_pos ⟨Nat.zero_le _, by simpa [kC] using hx4⟩]
  have q := x_at (k := 0) (P := 0) (E := 0) (by decide) (fun z => absurd z (by decide)) (fun z => absurd z (by decide)) (w := x) hx4
  rw [show clB 0 0 0 = 0 from rfl, Nat.zero_add] at q
  rw [q.1, q.2]
  exact us_in 0 (by decide) x hx4
theorem md_in {t : Nat → Int32} {n : Nat} : ∀ f i M P E V q, P ≤ 6 → E ≤ 6 → Vin (tol P E) V → mdF t n f i M P E V = .inr q → 2 ≤ q.1 ∧ q.1 ≤ 6 ∧ 1 ≤ q.2.1 ∧ q.2.1 ≤ 6 ∧ Vin (tol q.1 q.2.1) q.2.2 := by
  intro f
  induction f with
  | zero => intro i M P E V q _ _ _ h; cases h
  | succ f ih =>
    intro i M P E V q hP hE hV h
    unfold mdF at h
    cases hk : clK (sg t n i) M P E with
    | none => rw [hk] at h; cases h
    | some k =>
      rw [hk] at h
      obtain ⟨k1, k2, k3'⟩ := clK_lt hk
      dsimp only at h
      have hI : Vin (tol (if k = 1 then P + 1 else P) (if k = 2 then E + 1 else E)) (itemsA t n k (clB k P E) i V).2 := items_in k1 k2 k3' _ _ _ _ _ (vUs_in k1 k2 k3' hV)
      have hP' : (if k = 1 then P + 1 else P) ≤ 6 := by
        split
        · next z => have := k2 z; omega
        · omega
      have hE' : (if k = 2 then E + 1 else E) ≤ 6 := by
        split
        · next z => have := k3' z; omega
        · omega
      cases hr : (itemsA t n k (clB k P E) i V).1 with
      | inl e => rw [hr] at h; cases h
      | inr j =>
        rw [hr] at h
        dsimp only at h
        split at h
        · exact ih _ _ _ _ _ q hP' hE' hI h
        · by_cases hz : sg t n j = 0 ∧ 2 ≤ (if k = 1 then P + 1 else P) ∧ 1 ≤ (if k = 2 then E + 1 else E)
          · rw [if_pos hz] at h; cases h; exact ⟨hz.2.1, hP', hz.2.2, hE', hI⟩
          · rw [if_neg hz] at h; cases h
