def eg_by (w : Int32) (k : Nat) : Nat := w.toBitVec.toNat / 2 ^ k % 256
theorem eg_by_lt (w : Int32) (k : Nat) : eg_by w k < 256 := Nat.mod_lt _ (by decide)
theorem by_x (w s : Int32) (k : Nat) (hs : ((s.toUInt32 &&& Int32.toUInt32 31).toBitVec % 32).toNat = k) : (w.toUInt32 >>> (s.toUInt32 &&& Int32.toUInt32 31)).toInt32 &&& (255 : Int32) = nI (eg_by w k) := by
  rw [pk_and _ 8 rfl, pk_ushr w s k hs]
  rfl
theorem by_nat (w : Int32) : w.toBitVec.toNat < 4294967296 := w.toBitVec.isLt
theorem by_int (w : Int32) : w.toInt = if w.toBitVec.toNat < 2147483648 then (w.toBitVec.toNat : Int) else (w.toBitVec.toNat : Int) - 4294967296 := by
  have h := by_nat w
  rw [← Int32.toInt_toBitVec, BitVec.toInt_eq_toNat_cond]
  split <;> split <;> omega
theorem by_tn (z : Int32) : (z.toBitVec.toNat : Int) % 256 = z.toInt % 256 := by
  rw [by_int]
  split <;> omega
theorem by_m24 (w : Int32) : (w >>> ((24 : Int32) &&& 31)) &&& (255 : Int32) = nI (eg_by w 24) := by
  rw [pk_and _ 8 rfl]
  congr 1
  have h1 := by_tn (w >>> ((24 : Int32) &&& 31))
  have h2 := pk_shr w ((24 : Int32) &&& 31) 24 (by decide)
  rw [h2, by_int w] at h1
  have h3 := by_nat w
  unfold eg_by
  rw [Int.shiftRight_eq_div_pow] at h1
  split at h1 <;> omega
theorem by_m16 (w : Int32) : (w >>> ((16 : Int32) &&& 31)) &&& (255 : Int32) = nI (eg_by w 16) := by
  rw [pk_and _ 8 rfl]
  congr 1
  have h1 := by_tn (w >>> ((16 : Int32) &&& 31))
  have h2 := pk_shr w ((16 : Int32) &&& 31) 16 (by decide)
  rw [h2, by_int w] at h1
  have h3 := by_nat w
  unfold eg_by
  rw [Int.shiftRight_eq_div_pow] at h1
  split at h1 <;> omega
theorem by_m8 (w : Int32) : (w >>> ((8 : Int32) &&& 31)) &&& (255 : Int32) = nI (eg_by w 8) := by
  rw [pk_and _ 8 rfl]
  congr 1
  have h1 := by_tn (w >>> ((8 : Int32) &&& 31))
  have h2 := pk_shr w ((8 : Int32) &&& 31) 8 (by decide)
  rw [h2, by_int w] at h1
  have h3 := by_nat w
  unfold eg_by
  rw [Int.shiftRight_eq_div_pow] at h1
  split at h1 <;> omega
theorem by_m0 (w : Int32) : (w >>> ((0 : Int32) &&& 31)) &&& (255 : Int32) = nI (eg_by w 0) := by
  rw [pk_and _ 8 rfl]
  congr 1
  have h1 := by_tn (w >>> ((0 : Int32) &&& 31))
  have h2 := pk_shr w ((0 : Int32) &&& 31) 0 (by decide)
  rw [h2, by_int w] at h1
  have h3 := by_nat w
  unfold eg_by
  rw [Int.shiftRight_eq_div_pow] at h1
  split at h1 <;> omega
theorem by_8 (z : Int32) {b : Nat} (h : z &&& (255 : Int32) = nI b) (hb : b < 256) : z.toInt8.toInt32 = (nI b).toInt8.toInt32 := by
  rw [pk_and _ 8 rfl] at h
  have h1 : z.toBitVec.toNat % 256 = b := by
    have := congrArg (fun q : Int32 => q.toBitVec.toNat) h
    rw [pk_tn (Nat.lt_of_lt_of_le (Nat.mod_lt _ (by decide)) (by decide)), pk_tn (Nat.lt_of_lt_of_le hb (by decide))] at this
    exact this
  congr 1
  apply Int8.toBitVec_inj.mp
  apply BitVec.eq_of_toNat_eq
  simp only [Int32.toBitVec_toInt8, BitVec.signExtend_eq_setWidth_of_le _ (show 8 ≤ 32 by decide), BitVec.toNat_setWidth]
  rw [pk_tn (Nat.lt_of_lt_of_le hb (by decide)), ← h1]
  simp
