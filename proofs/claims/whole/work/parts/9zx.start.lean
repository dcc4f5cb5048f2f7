def h00 : eg_H := (List.replicate 16 (200, 0), fun _ _ => 0, fun _ _ => 0, fun _ _ => none)
def hX0 : eg_H := eg_new h00 12 (eg_nf 12)
def hX1 : eg_H := (fX12_init hX0 16).getD h00
def hX2 : eg_H := eg_new hX1 13 (eg_nf 13)
def hX3 : eg_H := (fX13_init hX2 54).getD h00
def hX4 : eg_H := eg_new hX3 101 1
theorem st_1 : (fX12_init hX0 16).isSome = true := by decide +kernel
theorem st_2 : (fX13_init hX2 54).isSome = true := by decide +kernel
theorem st_i1 : fX12_init hX0 16 = some hX1 := by
  have := st_1
  unfold hX1
  cases hr : fX12_init hX0 16 with
  | none => rw [hr] at this; cases this
  | some x => rfl
theorem st_i2 : fX13_init hX2 54 = some hX3 := by
  have := st_2
  unfold hX3
  cases hr : fX13_init hX2 54 with
  | none => rw [hr] at this; cases this
  | some x => rfl
theorem st_n : eg_nc hX0 = 17 ∧ eg_nc hX1 = 54 ∧ eg_nc hX3 = 94 ∧ eg_nc hX4 = 95 := by decide +kernel
theorem st_k : ((List.range 95).all fun p => decide (eg_kd hX4 p = eg_K0.getD p (0, 0))) = true := by decide +kernel
theorem st_p : (eg_P0.all fun t => decide (eg_P hX4 t.1 t.2.1 = some t.2.2)) = true := by decide +kernel
theorem st_s : eg_stt hX4 := by
  refine ⟨by rw [st_n.2.2.2]; exact Nat.le_refl _, fun p hp => ?_, fun t ht => ?_⟩
  · have := List.all_eq_true.mp st_k p (List.mem_range.mpr hp)
    exact of_decide_eq_true this
  · have := List.all_eq_true.mp st_p t ht
    exact of_decide_eq_true this
theorem st_c : ([(17, 1, (0 : Int32)), (23, 1, 0), (23, 2, 0), (24, 0, 0), (24, 1, 0), (24, 2, 0), (24, 3, 0), (38, 3, 1), (16, 5, 0), (16, 6, -1), (16, 8, 0), (16, 14, 0), (27, 1, 20), (27, 2, 0), (29, 1, 20), (29, 2, 0), (31, 1, 40), (31, 2, 0), (33, 1, 40), (33, 2, 0), (54, 6, 0), (59, 0, 0), (59, 1, 0), (59, 2, 0), (59, 3, 0), (54, 24, 0), (54, 26, 0), (54, 7, 0), (54, 34, -1), (54, 32, 0), (54, 49, 0), (54, 65, 0), (54, 72, 0), (54, 77, 0), (54, 78, 0)].all fun t => decide (eg_I hX4 t.1 t.2.1 = t.2.2)) = true := by decide +kernel
theorem st_39 : ((List.range 432).all fun s => decide (eg_P hX4 39 s = none)) = true := by decide +kernel
theorem st_36 : eg_P hX4 36 2 = none := by decide +kernel
def B00 : Nat × Nat := (2000, 60000)
theorem st_B : eg_nc hX4 + 2 * sm (fre hX4) 432 ≤ 2000 ∧ eg_ns hX4 + 63 * sm (fre hX4) 432 ≤ 60000 := by decide +kernel
def σ00 : eg_S := (fun j => if j = 11 then 1 else 0, fun _ _ => 0)
theorem st_e {p i : Nat} {x : Int32} (hm : (p, i, x) ∈ [(17, 1, (0 : Int32)), (23, 1, 0), (23, 2, 0), (24, 0, 0), (24, 1, 0), (24, 2, 0), (24, 3, 0), (38, 3, 1), (16, 5, 0), (16, 6, -1), (16, 8, 0), (16, 14, 0), (27, 1, 20), (27, 2, 0), (29, 1, 20), (29, 2, 0), (31, 1, 40), (31, 2, 0), (33, 1, 40), (33, 2, 0), (54, 6, 0), (59, 0, 0), (59, 1, 0), (59, 2, 0), (59, 3, 0), (54, 24, 0), (54, 26, 0), (54, 7, 0), (54, 34, -1), (54, 32, 0), (54, 49, 0), (54, 65, 0), (54, 72, 0), (54, 77, 0), (54, 78, 0)]) : eg_I hX4 p i = x := of_decide_eq_true (List.all_eq_true.mp st_c (p, i, x) hm)
theorem W_00 : Wσ σ00 := by
  have n0 : ∀ (i : Nat), ¬ i < 0 := fun i => Nat.not_lt_zero i
  refine ⟨⟨Nat.zero_le _, fun i hi => absurd hi (n0 i)⟩, ⟨Nat.zero_le _, Nat.zero_le _, fun _ => ⟨rfl, fun _ _ => rfl⟩, fun z => absurd z (n0 0)⟩, ⟨Nat.zero_le _, Nat.zero_le _, fun i hi => absurd hi (n0 i)⟩, ⟨Nat.zero_le _, fun i hi => absurd hi (n0 i)⟩, ⟨Nat.zero_le _, fun i hi => absurd hi (n0 i)⟩, ⟨Nat.zero_le _, fun i hi => absurd hi (n0 i)⟩, Nat.zero_le _, Nat.zero_le _, Nat.zero_le _, fun z => absurd (show 0 = 1 from z) (by omega)⟩
theorem XI_00 : XI hX4 σ00 (bRm B00 σ00) := by
  have n0 : ∀ (i : Nat), ¬ i < 0 := fun i => Nat.not_lt_zero i
  refine XI_in W_00 ⟨st_e (by decide), fun i hi => absurd hi (n0 i)⟩ ⟨st_s, ⟨st_e (by decide), st_e (by decide), fun x hx => ?_⟩, rfl, by rw [st_36]; trivial, st_e (by decide), by show 1 < 2 ^ 30; omega, fun s hs p hp => ?_, fun s s' p hs _ hp _ => ?_, st_B.1, st_B.2⟩ ⟨st_e (by decide), st_e (by decide), fun i hi => absurd hi (n0 i), st_36⟩ ⟨st_e (by decide), fun i hi => absurd hi (n0 i)⟩ ⟨st_e (by decide), st_e (by decide), fun i hi => absurd hi (n0 i)⟩ ⟨st_e (by decide), st_e (by decide), fun i hi => absurd hi (n0 i)⟩ ⟨st_e (by decide), st_e (by decide), fun i hi => absurd hi (n0 i)⟩ ⟨st_e (by decide), st_e (by decide), fun i hi => absurd hi (n0 i)⟩ ⟨st_e (by decide), fun i hi z => absurd (show 0 = 1 from z) (by omega)⟩
  · have hx : tol 0 0 x := hx
    show eg_I hX4 24 x = 0
    unfold tol at hx
    rcases (by omega : x = 0 ∨ x = 1 ∨ x = 2 ∨ x = 3) with rfl | rfl | rfl | rfl <;> exact st_e (by decide)
  · have := of_decide_eq_true (List.all_eq_true.mp st_39 s (List.mem_range.mpr hs))
    rw [this] at hp; cases hp
  · have := of_decide_eq_true (List.all_eq_true.mp st_39 s (List.mem_range.mpr hs))
    rw [this] at hp; cases hp
theorem RI_00 : RI hX4 σ00 := by
  have n0 : ∀ (i : Nat), ¬ i < 0 := fun i => Nat.not_lt_zero i
  refine RI_in st_s W_00 ⟨st_e (by decide), fun i hi => absurd hi (n0 i)⟩ ⟨fun x hx => ?_, fun x hx => absurd (show x < 4 * 0 from hx) (by omega), fun x hx => absurd (show x < 2 * 0 from hx) (by omega), st_e (by decide), st_e (by decide)⟩ ⟨st_e (by decide), st_e (by decide), fun i hi => absurd hi (n0 i)⟩ ⟨st_e (by decide), fun i hi => absurd hi (n0 i)⟩ ⟨st_e (by decide), fun i hi => absurd hi (n0 i)⟩ ⟨st_e (by decide), fun i hi => absurd hi (n0 i)⟩ ⟨st_e (by decide), fun i hi => absurd hi (n0 i)⟩ ⟨st_e (by decide), fun i hi => absurd hi (n0 i)⟩ ⟨st_e (by decide), fun i hi z => absurd (show 0 = 1 from z) (by omega)⟩
  show eg_I hX4 59 x = 0
  rcases (by omega : x = 0 ∨ x = 1 ∨ x = 2 ∨ x = 3) with rfl | rfl | rfl | rfl <;> exact st_e (by decide)
theorem LI_00 : LI hX4 σ00 B00 1 := ⟨XI_00, RI_00, Nat.le_refl _⟩
