def kB (k : Nat) : Nat := 4 * k
def kC (k : Nat) : Nat := if k = 2 then 2 else 4
def itF (k : Nat) (s : Int32) : Nat → Nat → Option Nat
  | 0, _ => none
  | j + 1, w => if (eg_tb 1).getD (kB k + w) 0 = s then some w else itF k s j (w + 1)
def itm (k : Nat) (s : Int32) : Option Nat := itF k s (kC k) 0
def oI (o : Option Nat) : Int32 := match o with
  | some w => nI w
  | none => -1
theorem kC_le (k : Nat) : kC k ≤ 4 := by unfold kC; split <;> omega
theorem itF_lt (k : Nat) (s : Int32) : ∀ j w v, itF k s j w = some v → v < w + j := by
  intro j
  induction j with
  | zero => intro w v hv; cases hv
  | succ j ih =>
    intro w v hv
    unfold itF at hv
    split at hv
    · cases hv; omega
    · have := ih (w + 1) v hv; omega
theorem itm_lt {k : Nat} {s : Int32} {w : Nat} (h : itm k s = some w) : w < kC k := by
  have := itF_lt k s (kC k) 0 w h
  omega
theorem tI_at {k i : Nat} (hi : i < 10) : eg_tI k (nI i) = some ((eg_tb k).getD i 0) := by
  unfold eg_tI
  have hcl : (nI i).toNatClampNeg = i := nI_clamp (by omega)
  rw [if_pos ⟨nI_pos (by omega), by rw [hcl]; exact hi⟩, hcl]
theorem X_under_L {k : Nat} (hk : k < 3) {h : eg_H} {s : Int32} : ∀ j w m, w + j = kC k → j < m → fX8_itemUnder_L11 m h (nI (kB k)) (nI (kC k)) s (nI w) = some (match itF k s j w with
    | some v => .inr (nI v, h)
    | none => .inl h) := by
  have hc := kC_le k
  have hb : kB k + kC k ≤ 10 := by unfold kB kC; split <;> omega
  intro j
  induction j with
  | zero =>
    intro w m hw hm
    obtain ⟨m, rfl⟩ : ∃ m', m = m' + 1 := ⟨m - 1, by omega⟩
    rw [fX8_itemUnder_L11, if_pos (nI_le (by omega) (by omega))]
    rfl
  | succ j ih =>
    intro w m hw hm
    obtain ⟨m, rfl⟩ : ∃ m', m = m' + 1 := ⟨m - 1, by omega⟩
    rw [fX8_itemUnder_L11, if_neg (nI_ge (by omega) (by omega)), nI_add, if_neg (show ¬ (10 : Int32) ≤ nI (kB k + w) from nI_ge (b := 10) (by omega) (by omega)), tI_at (by omega), Option.bind_some]
    unfold itF
    by_cases he : (eg_tb 1).getD (kB k + w) 0 = s
    · rw [if_pos he, if_pos he]
    · rw [if_neg he, if_neg he, nI_1]
      exact ih (w + 1) m (by omega) (by omega)
theorem X_under {k n : Nat} {t : Nat → Int32} (hk : k < 3) {h : eg_H} (H : Tp n t h) {a s w : Int32} : fX8_itemUnder (fin h a s w) 19 (nI (kB k)) (nI (kC k)) = some (oI (itm k s), fin h a s w) := by
  have hs' : ∀ a b c, eg_stt (fin h a b c) := fun _ _ _ => H.1
  have hc := kC_le k
  have e := X_under_L hk (h := fin h a s w) (s := s) (kC k) 0 eg_F (by omega) (by rw [eg_F_eq]; omega)
  rw [nI_0] at e
  unfold fX8_itemUnder
  rw [if_pos (iO_19 (hs' _ _ _)), gR_19 (hs' _ _ _), rf_19_0 (hs' _ _ _), Option.bind_some, X_sign H, Option.bind_some]
  show ((fX8_itemUnder_L11 eg_F (fin h a s w) (nI (kB k)) (nI (kC k)) s 0).bind _) = _
  rw [e]
  unfold itm
  cases itF k s (kC k) 0 <;> rfl
theorem sb_tb : ∀ k, k < 3 → ∀ w, w < kC k → (eg_sb (k + 2)).getD w 0 = (eg_tb 1).getD (kB k + w) 0 ∧ (eg_sb (k + 2)).length = kC k := by decide +kernel
theorem M_place_L {k : Nat} (hk : k < 3) {h : eg_H} {s : Int32} : ∀ j w m, w + j = kC k → j < m → fX13_placeOf_L2 m h (k + 7) s (nI w) = some (match itF k s j w with
    | some v => .inr (nI v, h)
    | none => .inl h) := by
  have hc := kC_le k
  have hc0 : 0 < kC k := by unfold kC; split <;> omega
  have hlen := (sb_tb k hk 0 hc0).2
  have hsl : eg_slen (k + 7) = some (nI (kC k)) := by
    unfold eg_slen
    rw [if_pos ⟨by omega, by omega⟩, show k + 7 - 5 = k + 2 by omega, hlen]
  intro j
  induction j with
  | zero =>
    intro w m hw hm
    obtain ⟨m, rfl⟩ : ∃ m', m = m' + 1 := ⟨m - 1, by omega⟩
    rw [fX13_placeOf_L2, hsl, Option.bind_some, if_pos (nI_le (by omega) (by omega))]
    rfl
  | succ j ih =>
    intro w m hw hm
    obtain ⟨m, rfl⟩ : ∃ m', m = m' + 1 := ⟨m - 1, by omega⟩
    have hcl : (nI w).toNatClampNeg = w := nI_clamp (by omega)
    have hsa : eg_sat (k + 7) (nI w) = some ((eg_tb 1).getD (kB k + w) 0) := by
      unfold eg_sat
      rw [if_pos ⟨by omega, by omega, nI_pos (by omega), by rw [hcl, show k + 7 - 5 = k + 2 by omega, hlen]; omega⟩, hcl, show k + 7 - 5 = k + 2 by omega, (sb_tb k hk w (by omega)).1]
    rw [fX13_placeOf_L2, hsl, Option.bind_some, if_neg (nI_ge (by omega) (by omega)), hsa, Option.bind_some]
    unfold itF
    by_cases he : (eg_tb 1).getD (kB k + w) 0 = s
    · rw [if_pos he, if_pos he]
    · rw [if_neg he, if_neg he, nI_1]
      exact ih (w + 1) m (by omega) (by omega)
theorem M_place {k : Nat} (hk : k < 3) {h : eg_H} {s : Int32} : fX13_placeOf h (k + 7) s = some (oI (itm k s), h) := by
  have hc := kC_le k
  have e := M_place_L hk (h := h) (s := s) (kC k) 0 eg_F (by omega) (by rw [eg_F_eq]; omega)
  rw [nI_0] at e
  unfold fX13_placeOf
  rw [e]
  unfold itm
  cases itF k s (kC k) 0 <;> rfl
theorem itm_0 : ∀ k, k < 3 → itm k 0 = none ∧ itm k (-1) = none ∧ itm k 59 = none := by decide +kernel
theorem mk_bit : ∀ m, m < 16 → ∀ w, w < 4 → ((((nI m) >>> ((nI w) &&& 31)) &&& (1 : Int32)) = 1 ↔ m.testBit w = true) := by decide +kernel
theorem mk_or : ∀ m, m < 16 → ∀ w, w < 4 → (nI m) ||| ((1 : Int32) <<< ((nI w) &&& 31)) = nI (m ||| 2 ^ w) ∧ m ||| 2 ^ w < 16 := by decide +kernel
def mkc (m : Nat) : Nat := (if m.testBit 0 then 1 else 0) + (if m.testBit 1 then 1 else 0) + (if m.testBit 2 then 1 else 0) + (if m.testBit 3 then 1 else 0)
theorem mk_c : ∀ m, m < 16 → ∀ w, w < 4 → m.testBit w = false → mkc (m ||| 2 ^ w) = mkc m + 1 := by decide +kernel
theorem mk_all : ∀ k, k < 3 → ∀ m, m < 2 ^ kC k → mkc m = kC k → ∀ w, w < kC k → m.testBit w = true := by decide +kernel
theorem mk_lt : ∀ k, k < 3 → ∀ m, m < 2 ^ kC k → ∀ w, w < kC k → m ||| 2 ^ w < 2 ^ kC k := by decide +kernel
theorem mk_16 : ∀ k, k < 3 → 2 ^ kC k ≤ 16 := by decide +kernel
