def iI (z : Int) : Int32 := Int32.ofInt z
def jI (z : Int) : Int64 := Int64.ofInt z
def i3 (z : Int) : Prop := -2147483648 ≤ z ∧ z ≤ 2147483647
def i6 (z : Int) : Prop := -9223372036854775808 ≤ z ∧ z ≤ 9223372036854775807
theorem iI_add (a b : Int) : iI a + iI b = iI (a + b) := (Int32.ofInt_add a b).symm
theorem iI_sub (a b : Int) : iI a - iI b = iI (a - b) := (Int32.ofInt_sub a b).symm
theorem iI_mul (a b : Int) : iI a * iI b = iI (a * b) := (Int32.ofInt_mul a b).symm
theorem jI_add (a b : Int) : jI a + jI b = jI (a + b) := (Int64.ofInt_add a b).symm
theorem jI_sub (a b : Int) : jI a - jI b = jI (a - b) := (Int64.ofInt_sub a b).symm
theorem jI_mul (a b : Int) : jI a * jI b = jI (a * b) := (Int64.ofInt_mul a b).symm
theorem iI_t {z : Int} (h : i3 z) : (iI z).toInt = z := Int32.toInt_ofInt_of_le (by have := h.1; simpa using this) (by have := h.2; omega)
theorem jI_t {z : Int} (h : i6 z) : (jI z).toInt = z := Int64.toInt_ofInt_of_le (by have := h.1; simpa using this) (by have := h.2; omega)
theorem iI_o (x : Int32) : iI x.toInt = x := Int32.ofInt_toInt x
theorem jI_o (x : Int64) : jI x.toInt = x := Int64.ofInt_toInt x
theorem i3_t (x : Int32) : i3 x.toInt := ⟨by have := Int32.le_toInt x; simpa using this, by have := Int32.toInt_lt x; omega⟩
theorem i6_t (x : Int64) : i6 x.toInt := ⟨by have := Int64.le_toInt x; simpa using this, by have := Int64.toInt_lt x; omega⟩
theorem iI_n (n : Nat) : iI n = nI n := Int32.ofInt_eq_ofNat
theorem iI_lt {a b : Int} (ha : i3 a) (hb : i3 b) : iI a < iI b ↔ a < b := by rw [Int32.lt_iff_toInt_lt, iI_t ha, iI_t hb]
theorem iI_le {a b : Int} (ha : i3 a) (hb : i3 b) : iI a ≤ iI b ↔ a ≤ b := by rw [Int32.le_iff_toInt_le, iI_t ha, iI_t hb]
theorem iI_eq {a b : Int} (ha : i3 a) (hb : i3 b) : iI a = iI b ↔ a = b := by rw [← Int32.toInt_inj, iI_t ha, iI_t hb]
theorem jI_lt {a b : Int} (ha : i6 a) (hb : i6 b) : jI a < jI b ↔ a < b := by rw [Int64.lt_iff_toInt_lt, jI_t ha, jI_t hb]
theorem jI_le {a b : Int} (ha : i6 a) (hb : i6 b) : jI a ≤ jI b ↔ a ≤ b := by rw [Int64.le_iff_toInt_le, jI_t ha, jI_t hb]
theorem jI_eq {a b : Int} (ha : i6 a) (hb : i6 b) : jI a = jI b ↔ a = b := by rw [← Int64.toInt_inj, jI_t ha, jI_t hb]
theorem iI_w {a : Int} (ha : i3 a) : (iI a).toInt64 = jI a := by
  rw [← Int64.toInt_inj, Int32.toInt_toInt64, iI_t ha, jI_t ⟨by have := ha.1; omega, by have := ha.2; omega⟩]
theorem jI_w {a : Int} (ha : i3 a) : (jI a).toInt32 = iI a := by
  rw [← Int32.toInt_inj, Int64.toInt_toInt32, iI_t ha, jI_t ⟨by have := ha.1; omega, by have := ha.2; omega⟩]
  exact Int.bmod_eq_of_le (by have := ha.1; omega) (by have := ha.2; omega)
theorem iI_div {a b : Int} (ha : i3 a) (hb : i3 b) (hq : i3 (a.tdiv b)) : iI a / iI b = iI (a.tdiv b) := by
  rw [← Int32.toInt_inj, Int32.toInt_div, iI_t ha, iI_t hb, iI_t hq]
  exact Int.bmod_eq_of_le (by have := hq.1; omega) (by have := hq.2; omega)
theorem jI_div {a b : Int} (ha : i6 a) (hb : i6 b) (hq : i6 (a.tdiv b)) : jI a / jI b = jI (a.tdiv b) := by
  rw [← Int64.toInt_inj, Int64.toInt_div, jI_t ha, jI_t hb, jI_t hq]
  exact Int.bmod_eq_of_le (by have := hq.1; omega) (by have := hq.2; omega)
theorem iI_mod {a b : Int} (ha : i3 a) (hb : i3 b) : iI a % iI b = iI (a.tmod b) := by
  have h3 : (iI a % iI b).toInt = a.tmod b := by rw [Int32.toInt_mod, iI_t ha, iI_t hb]
  rw [← h3, iI_o]
theorem td_b {a b M : Int} (ha : -M ≤ a ∧ a ≤ M) : -M ≤ a.tdiv b ∧ a.tdiv b ≤ M := by
  have h := Int.natAbs_tdiv_le_natAbs a b
  omega
