def eg_K0 : List (Nat × Nat) := [(200, 0), (200, 0), (200, 0), (200, 0), (200, 0), (200, 0), (200, 0), (200, 0), (200, 0), (200, 0), (200, 0), (200, 0), (200, 0), (200, 0), (200, 0), (200, 0), (12, 19), (10, 5), (100, 160), (8, 5), (100, 40), (6, 3), (100, 160), (7, 3), (100, 40), (115, 4), (113, 4), (1, 3), (100, 80), (1, 3), (100, 80), (1, 3), (100, 160), (1, 3), (100, 160), (100, 4), (11, 10), (100, 10), (0, 4), (114, 432), (112, 3), (2, 5), (100, 62), (2, 5), (100, 62), (2, 5), (100, 62), (9, 12), (101, 36), (100, 6), (100, 6), (100, 36), (100, 6), (100, 610), (13, 79), (102, 160), (102, 640), (100, 4), (100, 128), (100, 4), (100, 4), (100, 24), (100, 24), (100, 12), (100, 12), (100, 96), (100, 24), (100, 4), (103, 11), (100, 62), (101, 36), (100, 6), (100, 20), (100, 20), (103, 20), (100, 62), (100, 62), (100, 36), (100, 6), (100, 372), (100, 36), (100, 6), (100, 20), (100, 20), (100, 20), (100, 20), (100, 36), (100, 40), (100, 40), (100, 40), (100, 4), (100, 40), (100, 40), (100, 40), (101, 1)]
def eg_P0 : List (Nat × Nat × Nat) := [(16, 0, 17), (16, 1, 19), (16, 2, 21), (16, 3, 23), (16, 4, 25), (16, 7, 26), (16, 9, 27), (16, 10, 29), (16, 11, 31), (16, 12, 33), (16, 13, 35), (16, 15, 36), (16, 16, 38), (16, 17, 40), (16, 18, 47), (17, 0, 18), (19, 0, 17), (19, 1, 20), (21, 0, 17), (21, 1, 22), (23, 0, 24), (27, 0, 28), (29, 0, 30), (31, 0, 32), (33, 0, 34), (36, 0, 23), (36, 1, 37), (38, 0, 23), (38, 1, 36), (38, 2, 39), (41, 0, 23), (41, 1, 42), (43, 0, 23), (43, 1, 44), (45, 0, 23), (45, 1, 46), (47, 0, 48), (47, 1, 49), (47, 2, 50), (47, 3, 51), (47, 4, 52), (47, 5, 53), (54, 1, 55), (54, 2, 56), (54, 3, 57), (54, 4, 58), (54, 15, 5), (54, 16, 6), (54, 18, 59), (54, 19, 60), (54, 20, 61), (54, 21, 62), (54, 22, 63), (54, 23, 64), (54, 29, 65), (54, 30, 66), (54, 31, 67), (54, 35, 68), (54, 39, 69), (54, 42, 70), (54, 43, 71), (54, 46, 72), (54, 47, 73), (54, 48, 74), (54, 50, 75), (54, 51, 76), (54, 52, 77), (54, 53, 78), (54, 56, 79), (54, 57, 80), (54, 58, 81), (54, 61, 82), (54, 62, 83), (54, 63, 84), (54, 64, 85), (54, 66, 86), (54, 69, 87), (54, 70, 88), (54, 71, 89), (54, 73, 90), (54, 74, 91), (54, 75, 92), (54, 76, 93), (40, 0, 41), (40, 1, 43), (40, 2, 45)]
def eg_stt (h : eg_H) : Prop := 95 ≤ eg_nc h ∧ (∀ p, p < 95 → eg_kd h p = eg_K0.getD p (0, 0)) ∧ ∀ t ∈ eg_P0, eg_P h t.1 t.2.1 = some t.2.2
theorem stt_sI {h : eg_H} {p i : Nat} {x : Int32} : eg_stt (eg_sI h p i x) = eg_stt h := rfl
theorem stt_sL {h : eg_H} {p i : Nat} {x : Int64} : eg_stt (eg_sL h p i x) = eg_stt h := rfl
theorem stt_sP {h : eg_H} {p i : Nat} {x : Option Nat} (hs : eg_stt h) (hp : (eg_P0.all (fun t => !(t.1 == p && t.2.1 == i))) = true) : eg_stt (eg_sP h p i x) := by
  refine ⟨hs.1, hs.2.1, fun t ht => ?_⟩
  have h1 := List.all_eq_true.mp hp t ht
  have h2 : ¬ (t.1 = p ∧ t.2.1 = i) := by
    intro z
    simp [z.1, z.2] at h1
  show eg_up h.2.2.2 p i x t.1 t.2.1 = some t.2.2
  unfold eg_up
  rw [if_neg h2]
  exact hs.2.2 t ht
theorem stt_new {h : eg_H} {k n : Nat} (hs : eg_stt h) : eg_stt (eg_new h k n) := by
  have hn := hs.1
  refine ⟨by rw [eg_nc_new]; omega, fun p hp => by rw [eg_kd_new_old (by omega)]; exact hs.2.1 p hp, fun t ht => ?_⟩
  have h1 := hs.2.2 t ht
  have h2 : t.1 ≠ h.1.length := by
    have h3 : ∀ t ∈ eg_P0, t.1 < 90 := by decide
    have h4 := h3 t ht
    have hn : 95 ≤ h.1.length := hn
    omega
  show (if t.1 = h.1.length then (fun _ => none) else h.2.2.2 t.1) t.2.1 = some t.2.2
  rw [if_neg h2]
  exact h1
theorem I_sI (h : eg_H) (p i q j : Nat) (x : Int32) : eg_I (eg_sI h p i x) q j = if q = p ∧ j = i then x else eg_I h q j := rfl
theorem I_sL (h : eg_H) (p i : Nat) (x : Int64) : eg_I (eg_sL h p i x) = eg_I h := rfl
theorem I_sP (h : eg_H) (p i : Nat) (x : Option Nat) : eg_I (eg_sP h p i x) = eg_I h := rfl
theorem L_sI (h : eg_H) (p i : Nat) (x : Int32) : eg_L (eg_sI h p i x) = eg_L h := rfl
theorem L_sL (h : eg_H) (p i q j : Nat) (x : Int64) : eg_L (eg_sL h p i x) q j = if q = p ∧ j = i then x else eg_L h q j := rfl
theorem L_sP (h : eg_H) (p i : Nat) (x : Option Nat) : eg_L (eg_sP h p i x) = eg_L h := rfl
theorem P_sI (h : eg_H) (p i : Nat) (x : Int32) : eg_P (eg_sI h p i x) = eg_P h := rfl
theorem P_sL (h : eg_H) (p i : Nat) (x : Int64) : eg_P (eg_sL h p i x) = eg_P h := rfl
theorem P_sP (h : eg_H) (p i q j : Nat) (x : Option Nat) : eg_P (eg_sP h p i x) q j = if q = p ∧ j = i then x else eg_P h q j := rfl
theorem kd_sI (h : eg_H) (p i : Nat) (x : Int32) : eg_kd (eg_sI h p i x) = eg_kd h := rfl
theorem kd_sL (h : eg_H) (p i : Nat) (x : Int64) : eg_kd (eg_sL h p i x) = eg_kd h := rfl
theorem kd_sP (h : eg_H) (p i : Nat) (x : Option Nat) : eg_kd (eg_sP h p i x) = eg_kd h := rfl
theorem kd_16 {h : eg_H} (hs : eg_stt h) : eg_kd h 16 = (12, 19) := hs.2.1 16 (Nat.le_of_ble_eq_true rfl)
theorem iO_16 {h : eg_H} (hs : eg_stt h) : eg_isO h 12 16 := ⟨Nat.le_of_ble_eq_true rfl, kd_16 hs⟩
theorem gI_16 {h : eg_H} {k : Nat} (hs : eg_stt h) : eg_gI h 12 k 16 = some (eg_I h 16 k) := if_pos (iO_16 hs)
theorem gL_16 {h : eg_H} {k : Nat} (hs : eg_stt h) : eg_gL h 12 k 16 = some (eg_L h 16 k) := if_pos (iO_16 hs)
theorem gQ_16 {h : eg_H} {k : Nat} (hs : eg_stt h) : eg_gQ h 12 k 16 = some (eg_P h 16 k) := if_pos (iO_16 hs)
theorem gR_16 {h : eg_H} {k : Nat} (hs : eg_stt h) : eg_gR h 12 k 16 = eg_P h 16 k := if_pos (iO_16 hs)
theorem pI_16 {h : eg_H} {k : Nat} {x : Int32} (hs : eg_stt h) : eg_pI h 12 k 16 x = some (eg_sI h 16 k x) := if_pos (iO_16 hs)
theorem pZ_16 {h : eg_H} {k : Nat} {x : Int32} (hs : eg_stt h) (hx : x = 0 ∨ x = 1) : eg_pZ h 12 k 16 x = some (eg_sI h 16 k x) := if_pos ⟨iO_16 hs, hx⟩
theorem pL_16 {h : eg_H} {k : Nat} {x : Int64} (hs : eg_stt h) : eg_pL h 12 k 16 x = some (eg_sL h 16 k x) := if_pos (iO_16 hs)
theorem pP_16 {h : eg_H} {k : Nat} {x : Option Nat} (hs : eg_stt h) : eg_pP h 12 k 16 x = some (eg_sP h 16 k x) := if_pos (iO_16 hs)
theorem kd_17 {h : eg_H} (hs : eg_stt h) : eg_kd h 17 = (10, 5) := hs.2.1 17 (Nat.le_of_ble_eq_true rfl)
theorem iO_17 {h : eg_H} (hs : eg_stt h) : eg_isO h 10 17 := ⟨Nat.le_of_ble_eq_true rfl, kd_17 hs⟩
theorem gI_17 {h : eg_H} {k : Nat} (hs : eg_stt h) : eg_gI h 10 k 17 = some (eg_I h 17 k) := if_pos (iO_17 hs)
theorem gL_17 {h : eg_H} {k : Nat} (hs : eg_stt h) : eg_gL h 10 k 17 = some (eg_L h 17 k) := if_pos (iO_17 hs)
theorem gQ_17 {h : eg_H} {k : Nat} (hs : eg_stt h) : eg_gQ h 10 k 17 = some (eg_P h 17 k) := if_pos (iO_17 hs)
theorem gR_17 {h : eg_H} {k : Nat} (hs : eg_stt h) : eg_gR h 10 k 17 = eg_P h 17 k := if_pos (iO_17 hs)
theorem pI_17 {h : eg_H} {k : Nat} {x : Int32} (hs : eg_stt h) : eg_pI h 10 k 17 x = some (eg_sI h 17 k x) := if_pos (iO_17 hs)
theorem pZ_17 {h : eg_H} {k : Nat} {x : Int32} (hs : eg_stt h) (hx : x = 0 ∨ x = 1) : eg_pZ h 10 k 17 x = some (eg_sI h 17 k x) := if_pos ⟨iO_17 hs, hx⟩
theorem pL_17 {h : eg_H} {k : Nat} {x : Int64} (hs : eg_stt h) : eg_pL h 10 k 17 x = some (eg_sL h 17 k x) := if_pos (iO_17 hs)
theorem pP_17 {h : eg_H} {k : Nat} {x : Option Nat} (hs : eg_stt h) : eg_pP h 10 k 17 x = some (eg_sP h 17 k x) := if_pos (iO_17 hs)
theorem kd_18 {h : eg_H} (hs : eg_stt h) : eg_kd h 18 = (100, 160) := hs.2.1 18 (Nat.le_of_ble_eq_true rfl)
theorem al_18 {h : eg_H} (hs : eg_stt h) : eg_al h 18 = some (nI 160) := by unfold eg_al; rw [kd_18 hs]; rfl
theorem iA_18 {h : eg_H} {i : Int32} (hs : eg_stt h) (h1 : ¬ i < 0) (h2 : i.toNatClampNeg < 160) : eg_isA h 100 18 i := ⟨Nat.le_of_ble_eq_true rfl, by rw [kd_18 hs], h1, by rw [kd_18 hs]; exact h2⟩
theorem aI_18 {h : eg_H} {i : Int32} (hs : eg_stt h) (h1 : ¬ i < 0) (h2 : i.toNatClampNeg < 160) : eg_aI h 100 18 i = some (eg_I h 18 i.toNatClampNeg) := if_pos (iA_18 hs h1 h2)
theorem wI_18 {h : eg_H} {i x : Int32} (hs : eg_stt h) (h1 : ¬ i < 0) (h2 : i.toNatClampNeg < 160) : eg_wI h 100 18 i x = some (eg_sI h 18 i.toNatClampNeg x) := if_pos (iA_18 hs h1 h2)
theorem kd_19 {h : eg_H} (hs : eg_stt h) : eg_kd h 19 = (8, 5) := hs.2.1 19 (Nat.le_of_ble_eq_true rfl)
theorem iO_19 {h : eg_H} (hs : eg_stt h) : eg_isO h 8 19 := ⟨Nat.le_of_ble_eq_true rfl, kd_19 hs⟩
theorem gI_19 {h : eg_H} {k : Nat} (hs : eg_stt h) : eg_gI h 8 k 19 = some (eg_I h 19 k) := if_pos (iO_19 hs)
theorem gL_19 {h : eg_H} {k : Nat} (hs : eg_stt h) : eg_gL h 8 k 19 = some (eg_L h 19 k) := if_pos (iO_19 hs)
theorem gQ_19 {h : eg_H} {k : Nat} (hs : eg_stt h) : eg_gQ h 8 k 19 = some (eg_P h 19 k) := if_pos (iO_19 hs)
theorem gR_19 {h : eg_H} {k : Nat} (hs : eg_stt h) : eg_gR h 8 k 19 = eg_P h 19 k := if_pos (iO_19 hs)
theorem pI_19 {h : eg_H} {k : Nat} {x : Int32} (hs : eg_stt h) : eg_pI h 8 k 19 x = some (eg_sI h 19 k x) := if_pos (iO_19 hs)
theorem pZ_19 {h : eg_H} {k : Nat} {x : Int32} (hs : eg_stt h) (hx : x = 0 ∨ x = 1) : eg_pZ h 8 k 19 x = some (eg_sI h 19 k x) := if_pos ⟨iO_19 hs, hx⟩
theorem pL_19 {h : eg_H} {k : Nat} {x : Int64} (hs : eg_stt h) : eg_pL h 8 k 19 x = some (eg_sL h 19 k x) := if_pos (iO_19 hs)
theorem pP_19 {h : eg_H} {k : Nat} {x : Option Nat} (hs : eg_stt h) : eg_pP h 8 k 19 x = some (eg_sP h 19 k x) := if_pos (iO_19 hs)
theorem kd_20 {h : eg_H} (hs : eg_stt h) : eg_kd h 20 = (100, 40) := hs.2.1 20 (Nat.le_of_ble_eq_true rfl)
theorem al_20 {h : eg_H} (hs : eg_stt h) : eg_al h 20 = some (nI 40) := by unfold eg_al; rw [kd_20 hs]; rfl
theorem iA_20 {h : eg_H} {i : Int32} (hs : eg_stt h) (h1 : ¬ i < 0) (h2 : i.toNatClampNeg < 40) : eg_isA h 100 20 i := ⟨Nat.le_of_ble_eq_true rfl, by rw [kd_20 hs], h1, by rw [kd_20 hs]; exact h2⟩
theorem aI_20 {h : eg_H} {i : Int32} (hs : eg_stt h) (h1 : ¬ i < 0) (h2 : i.toNatClampNeg < 40) : eg_aI h 100 20 i = some (eg_I h 20 i.toNatClampNeg) := if_pos (iA_20 hs h1 h2)
theorem wI_20 {h : eg_H} {i x : Int32} (hs : eg_stt h) (h1 : ¬ i < 0) (h2 : i.toNatClampNeg < 40) : eg_wI h 100 20 i x = some (eg_sI h 20 i.toNatClampNeg x) := if_pos (iA_20 hs h1 h2)
theorem kd_21 {h : eg_H} (hs : eg_stt h) : eg_kd h 21 = (6, 3) := hs.2.1 21 (Nat.le_of_ble_eq_true rfl)
theorem iO_21 {h : eg_H} (hs : eg_stt h) : eg_isO h 6 21 := ⟨Nat.le_of_ble_eq_true rfl, kd_21 hs⟩
theorem gI_21 {h : eg_H} {k : Nat} (hs : eg_stt h) : eg_gI h 6 k 21 = some (eg_I h 21 k) := if_pos (iO_21 hs)
theorem gL_21 {h : eg_H} {k : Nat} (hs : eg_stt h) : eg_gL h 6 k 21 = some (eg_L h 21 k) := if_pos (iO_21 hs)
theorem gQ_21 {h : eg_H} {k : Nat} (hs : eg_stt h) : eg_gQ h 6 k 21 = some (eg_P h 21 k) := if_pos (iO_21 hs)
theorem gR_21 {h : eg_H} {k : Nat} (hs : eg_stt h) : eg_gR h 6 k 21 = eg_P h 21 k := if_pos (iO_21 hs)
theorem pI_21 {h : eg_H} {k : Nat} {x : Int32} (hs : eg_stt h) : eg_pI h 6 k 21 x = some (eg_sI h 21 k x) := if_pos (iO_21 hs)
theorem pZ_21 {h : eg_H} {k : Nat} {x : Int32} (hs : eg_stt h) (hx : x = 0 ∨ x = 1) : eg_pZ h 6 k 21 x = some (eg_sI h 21 k x) := if_pos ⟨iO_21 hs, hx⟩
theorem pL_21 {h : eg_H} {k : Nat} {x : Int64} (hs : eg_stt h) : eg_pL h 6 k 21 x = some (eg_sL h 21 k x) := if_pos (iO_21 hs)
theorem pP_21 {h : eg_H} {k : Nat} {x : Option Nat} (hs : eg_stt h) : eg_pP h 6 k 21 x = some (eg_sP h 21 k x) := if_pos (iO_21 hs)
theorem kd_22 {h : eg_H} (hs : eg_stt h) : eg_kd h 22 = (100, 160) := hs.2.1 22 (Nat.le_of_ble_eq_true rfl)
theorem al_22 {h : eg_H} (hs : eg_stt h) : eg_al h 22 = some (nI 160) := by unfold eg_al; rw [kd_22 hs]; rfl
theorem iA_22 {h : eg_H} {i : Int32} (hs : eg_stt h) (h1 : ¬ i < 0) (h2 : i.toNatClampNeg < 160) : eg_isA h 100 22 i := ⟨Nat.le_of_ble_eq_true rfl, by rw [kd_22 hs], h1, by rw [kd_22 hs]; exact h2⟩
theorem aI_22 {h : eg_H} {i : Int32} (hs : eg_stt h) (h1 : ¬ i < 0) (h2 : i.toNatClampNeg < 160) : eg_aI h 100 22 i = some (eg_I h 22 i.toNatClampNeg) := if_pos (iA_22 hs h1 h2)
theorem wI_22 {h : eg_H} {i x : Int32} (hs : eg_stt h) (h1 : ¬ i < 0) (h2 : i.toNatClampNeg < 160) : eg_wI h 100 22 i x = some (eg_sI h 22 i.toNatClampNeg x) := if_pos (iA_22 hs h1 h2)
theorem kd_23 {h : eg_H} (hs : eg_stt h) : eg_kd h 23 = (7, 3) := hs.2.1 23 (Nat.le_of_ble_eq_true rfl)
theorem iO_23 {h : eg_H} (hs : eg_stt h) : eg_isO h 7 23 := ⟨Nat.le_of_ble_eq_true rfl, kd_23 hs⟩
theorem gI_23 {h : eg_H} {k : Nat} (hs : eg_stt h) : eg_gI h 7 k 23 = some (eg_I h 23 k) := if_pos (iO_23 hs)
theorem gL_23 {h : eg_H} {k : Nat} (hs : eg_stt h) : eg_gL h 7 k 23 = some (eg_L h 23 k) := if_pos (iO_23 hs)
theorem gQ_23 {h : eg_H} {k : Nat} (hs : eg_stt h) : eg_gQ h 7 k 23 = some (eg_P h 23 k) := if_pos (iO_23 hs)
theorem gR_23 {h : eg_H} {k : Nat} (hs : eg_stt h) : eg_gR h 7 k 23 = eg_P h 23 k := if_pos (iO_23 hs)
theorem pI_23 {h : eg_H} {k : Nat} {x : Int32} (hs : eg_stt h) : eg_pI h 7 k 23 x = some (eg_sI h 23 k x) := if_pos (iO_23 hs)
theorem pZ_23 {h : eg_H} {k : Nat} {x : Int32} (hs : eg_stt h) (hx : x = 0 ∨ x = 1) : eg_pZ h 7 k 23 x = some (eg_sI h 23 k x) := if_pos ⟨iO_23 hs, hx⟩
theorem pL_23 {h : eg_H} {k : Nat} {x : Int64} (hs : eg_stt h) : eg_pL h 7 k 23 x = some (eg_sL h 23 k x) := if_pos (iO_23 hs)
theorem pP_23 {h : eg_H} {k : Nat} {x : Option Nat} (hs : eg_stt h) : eg_pP h 7 k 23 x = some (eg_sP h 23 k x) := if_pos (iO_23 hs)
theorem kd_24 {h : eg_H} (hs : eg_stt h) : eg_kd h 24 = (100, 40) := hs.2.1 24 (Nat.le_of_ble_eq_true rfl)
theorem al_24 {h : eg_H} (hs : eg_stt h) : eg_al h 24 = some (nI 40) := by unfold eg_al; rw [kd_24 hs]; rfl
theorem iA_24 {h : eg_H} {i : Int32} (hs : eg_stt h) (h1 : ¬ i < 0) (h2 : i.toNatClampNeg < 40) : eg_isA h 100 24 i := ⟨Nat.le_of_ble_eq_true rfl, by rw [kd_24 hs], h1, by rw [kd_24 hs]; exact h2⟩
theorem aI_24 {h : eg_H} {i : Int32} (hs : eg_stt h) (h1 : ¬ i < 0) (h2 : i.toNatClampNeg < 40) : eg_aI h 100 24 i = some (eg_I h 24 i.toNatClampNeg) := if_pos (iA_24 hs h1 h2)
theorem wI_24 {h : eg_H} {i x : Int32} (hs : eg_stt h) (h1 : ¬ i < 0) (h2 : i.toNatClampNeg < 40) : eg_wI h 100 24 i x = some (eg_sI h 24 i.toNatClampNeg x) := if_pos (iA_24 hs h1 h2)
theorem kd_25 {h : eg_H} (hs : eg_stt h) : eg_kd h 25 = (115, 4) := hs.2.1 25 (Nat.le_of_ble_eq_true rfl)
theorem al_25 {h : eg_H} (hs : eg_stt h) : eg_al h 25 = some (nI 4) := by unfold eg_al; rw [kd_25 hs]; rfl
theorem iA_25 {h : eg_H} {i : Int32} (hs : eg_stt h) (h1 : ¬ i < 0) (h2 : i.toNatClampNeg < 4) : eg_isA h 115 25 i := ⟨Nat.le_of_ble_eq_true rfl, by rw [kd_25 hs], h1, by rw [kd_25 hs]; exact h2⟩
theorem aQ_25 {h : eg_H} {i : Int32} (hs : eg_stt h) (h1 : ¬ i < 0) (h2 : i.toNatClampNeg < 4) : eg_aQ h 115 25 i = some (eg_P h 25 i.toNatClampNeg) := if_pos (iA_25 hs h1 h2)
theorem aR_25 {h : eg_H} {i : Int32} (hs : eg_stt h) (h1 : ¬ i < 0) (h2 : i.toNatClampNeg < 4) : eg_aR h 115 25 i = eg_P h 25 i.toNatClampNeg := if_pos (iA_25 hs h1 h2)
theorem kd_26 {h : eg_H} (hs : eg_stt h) : eg_kd h 26 = (113, 4) := hs.2.1 26 (Nat.le_of_ble_eq_true rfl)
theorem al_26 {h : eg_H} (hs : eg_stt h) : eg_al h 26 = some (nI 4) := by unfold eg_al; rw [kd_26 hs]; rfl
theorem iA_26 {h : eg_H} {i : Int32} (hs : eg_stt h) (h1 : ¬ i < 0) (h2 : i.toNatClampNeg < 4) : eg_isA h 113 26 i := ⟨Nat.le_of_ble_eq_true rfl, by rw [kd_26 hs], h1, by rw [kd_26 hs]; exact h2⟩
theorem aQ_26 {h : eg_H} {i : Int32} (hs : eg_stt h) (h1 : ¬ i < 0) (h2 : i.toNatClampNeg < 4) : eg_aQ h 113 26 i = some (eg_P h 26 i.toNatClampNeg) := if_pos (iA_26 hs h1 h2)
theorem aR_26 {h : eg_H} {i : Int32} (hs : eg_stt h) (h1 : ¬ i < 0) (h2 : i.toNatClampNeg < 4) : eg_aR h 113 26 i = eg_P h 26 i.toNatClampNeg := if_pos (iA_26 hs h1 h2)
theorem kd_27 {h : eg_H} (hs : eg_stt h) : eg_kd h 27 = (1, 3) := hs.2.1 27 (Nat.le_of_ble_eq_true rfl)
theorem iO_27 {h : eg_H} (hs : eg_stt h) : eg_isO h 1 27 := ⟨Nat.le_of_ble_eq_true rfl, kd_27 hs⟩
theorem gI_27 {h : eg_H} {k : Nat} (hs : eg_stt h) : eg_gI h 1 k 27 = some (eg_I h 27 k) := if_pos (iO_27 hs)
theorem gL_27 {h : eg_H} {k : Nat} (hs : eg_stt h) : eg_gL h 1 k 27 = some (eg_L h 27 k) := if_pos (iO_27 hs)
theorem gQ_27 {h : eg_H} {k : Nat} (hs : eg_stt h) : eg_gQ h 1 k 27 = some (eg_P h 27 k) := if_pos (iO_27 hs)
theorem gR_27 {h : eg_H} {k : Nat} (hs : eg_stt h) : eg_gR h 1 k 27 = eg_P h 27 k := if_pos (iO_27 hs)
theorem pI_27 {h : eg_H} {k : Nat} {x : Int32} (hs : eg_stt h) : eg_pI h 1 k 27 x = some (eg_sI h 27 k x) := if_pos (iO_27 hs)
theorem pZ_27 {h : eg_H} {k : Nat} {x : Int32} (hs : eg_stt h) (hx : x = 0 ∨ x = 1) : eg_pZ h 1 k 27 x = some (eg_sI h 27 k x) := if_pos ⟨iO_27 hs, hx⟩
theorem pL_27 {h : eg_H} {k : Nat} {x : Int64} (hs : eg_stt h) : eg_pL h 1 k 27 x = some (eg_sL h 27 k x) := if_pos (iO_27 hs)
theorem pP_27 {h : eg_H} {k : Nat} {x : Option Nat} (hs : eg_stt h) : eg_pP h 1 k 27 x = some (eg_sP h 27 k x) := if_pos (iO_27 hs)
theorem kd_28 {h : eg_H} (hs : eg_stt h) : eg_kd h 28 = (100, 80) := hs.2.1 28 (Nat.le_of_ble_eq_true rfl)
theorem al_28 {h : eg_H} (hs : eg_stt h) : eg_al h 28 = some (nI 80) := by unfold eg_al; rw [kd_28 hs]; rfl
theorem iA_28 {h : eg_H} {i : Int32} (hs : eg_stt h) (h1 : ¬ i < 0) (h2 : i.toNatClampNeg < 80) : eg_isA h 100 28 i := ⟨Nat.le_of_ble_eq_true rfl, by rw [kd_28 hs], h1, by rw [kd_28 hs]; exact h2⟩
theorem aI_28 {h : eg_H} {i : Int32} (hs : eg_stt h) (h1 : ¬ i < 0) (h2 : i.toNatClampNeg < 80) : eg_aI h 100 28 i = some (eg_I h 28 i.toNatClampNeg) := if_pos (iA_28 hs h1 h2)
theorem wI_28 {h : eg_H} {i x : Int32} (hs : eg_stt h) (h1 : ¬ i < 0) (h2 : i.toNatClampNeg < 80) : eg_wI h 100 28 i x = some (eg_sI h 28 i.toNatClampNeg x) := if_pos (iA_28 hs h1 h2)
theorem kd_29 {h : eg_H} (hs : eg_stt h) : eg_kd h 29 = (1, 3) := hs.2.1 29 (Nat.le_of_ble_eq_true rfl)
theorem iO_29 {h : eg_H} (hs : eg_stt h) : eg_isO h 1 29 := ⟨Nat.le_of_ble_eq_true rfl, kd_29 hs⟩
theorem gI_29 {h : eg_H} {k : Nat} (hs : eg_stt h) : eg_gI h 1 k 29 = some (eg_I h 29 k) := if_pos (iO_29 hs)
theorem gL_29 {h : eg_H} {k : Nat} (hs : eg_stt h) : eg_gL h 1 k 29 = some (eg_L h 29 k) := if_pos (iO_29 hs)
theorem gQ_29 {h : eg_H} {k : Nat} (hs : eg_stt h) : eg_gQ h 1 k 29 = some (eg_P h 29 k) := if_pos (iO_29 hs)
theorem gR_29 {h : eg_H} {k : Nat} (hs : eg_stt h) : eg_gR h 1 k 29 = eg_P h 29 k := if_pos (iO_29 hs)
theorem pI_29 {h : eg_H} {k : Nat} {x : Int32} (hs : eg_stt h) : eg_pI h 1 k 29 x = some (eg_sI h 29 k x) := if_pos (iO_29 hs)
theorem pZ_29 {h : eg_H} {k : Nat} {x : Int32} (hs : eg_stt h) (hx : x = 0 ∨ x = 1) : eg_pZ h 1 k 29 x = some (eg_sI h 29 k x) := if_pos ⟨iO_29 hs, hx⟩
theorem pL_29 {h : eg_H} {k : Nat} {x : Int64} (hs : eg_stt h) : eg_pL h 1 k 29 x = some (eg_sL h 29 k x) := if_pos (iO_29 hs)
theorem pP_29 {h : eg_H} {k : Nat} {x : Option Nat} (hs : eg_stt h) : eg_pP h 1 k 29 x = some (eg_sP h 29 k x) := if_pos (iO_29 hs)
theorem kd_30 {h : eg_H} (hs : eg_stt h) : eg_kd h 30 = (100, 80) := hs.2.1 30 (Nat.le_of_ble_eq_true rfl)
theorem al_30 {h : eg_H} (hs : eg_stt h) : eg_al h 30 = some (nI 80) := by unfold eg_al; rw [kd_30 hs]; rfl
theorem iA_30 {h : eg_H} {i : Int32} (hs : eg_stt h) (h1 : ¬ i < 0) (h2 : i.toNatClampNeg < 80) : eg_isA h 100 30 i := ⟨Nat.le_of_ble_eq_true rfl, by rw [kd_30 hs], h1, by rw [kd_30 hs]; exact h2⟩
theorem aI_30 {h : eg_H} {i : Int32} (hs : eg_stt h) (h1 : ¬ i < 0) (h2 : i.toNatClampNeg < 80) : eg_aI h 100 30 i = some (eg_I h 30 i.toNatClampNeg) := if_pos (iA_30 hs h1 h2)
theorem wI_30 {h : eg_H} {i x : Int32} (hs : eg_stt h) (h1 : ¬ i < 0) (h2 : i.toNatClampNeg < 80) : eg_wI h 100 30 i x = some (eg_sI h 30 i.toNatClampNeg x) := if_pos (iA_30 hs h1 h2)
theorem kd_31 {h : eg_H} (hs : eg_stt h) : eg_kd h 31 = (1, 3) := hs.2.1 31 (Nat.le_of_ble_eq_true rfl)
theorem iO_31 {h : eg_H} (hs : eg_stt h) : eg_isO h 1 31 := ⟨Nat.le_of_ble_eq_true rfl, kd_31 hs⟩
theorem gI_31 {h : eg_H} {k : Nat} (hs : eg_stt h) : eg_gI h 1 k 31 = some (eg_I h 31 k) := if_pos (iO_31 hs)
theorem gL_31 {h : eg_H} {k : Nat} (hs : eg_stt h) : eg_gL h 1 k 31 = some (eg_L h 31 k) := if_pos (iO_31 hs)
theorem gQ_31 {h : eg_H} {k : Nat} (hs : eg_stt h) : eg_gQ h 1 k 31 = some (eg_P h 31 k) := if_pos (iO_31 hs)
theorem gR_31 {h : eg_H} {k : Nat} (hs : eg_stt h) : eg_gR h 1 k 31 = eg_P h 31 k := if_pos (iO_31 hs)
theorem pI_31 {h : eg_H} {k : Nat} {x : Int32} (hs : eg_stt h) : eg_pI h 1 k 31 x = some (eg_sI h 31 k x) := if_pos (iO_31 hs)
theorem pZ_31 {h : eg_H} {k : Nat} {x : Int32} (hs : eg_stt h) (hx : x = 0 ∨ x = 1) : eg_pZ h 1 k 31 x = some (eg_sI h 31 k x) := if_pos ⟨iO_31 hs, hx⟩
theorem pL_31 {h : eg_H} {k : Nat} {x : Int64} (hs : eg_stt h) : eg_pL h 1 k 31 x = some (eg_sL h 31 k x) := if_pos (iO_31 hs)
theorem pP_31 {h : eg_H} {k : Nat} {x : Option Nat} (hs : eg_stt h) : eg_pP h 1 k 31 x = some (eg_sP h 31 k x) := if_pos (iO_31 hs)
theorem kd_32 {h : eg_H} (hs : eg_stt h) : eg_kd h 32 = (100, 160) := hs.2.1 32 (Nat.le_of_ble_eq_true rfl)
theorem al_32 {h : eg_H} (hs : eg_stt h) : eg_al h 32 = some (nI 160) := by unfold eg_al; rw [kd_32 hs]; rfl
theorem iA_32 {h : eg_H} {i : Int32} (hs : eg_stt h) (h1 : ¬ i < 0) (h2 : i.toNatClampNeg < 160) : eg_isA h 100 32 i := ⟨Nat.le_of_ble_eq_true rfl, by rw [kd_32 hs], h1, by rw [kd_32 hs]; exact h2⟩
theorem aI_32 {h : eg_H} {i : Int32} (hs : eg_stt h) (h1 : ¬ i < 0) (h2 : i.toNatClampNeg < 160) : eg_aI h 100 32 i = some (eg_I h 32 i.toNatClampNeg) := if_pos (iA_32 hs h1 h2)
theorem wI_32 {h : eg_H} {i x : Int32} (hs : eg_stt h) (h1 : ¬ i < 0) (h2 : i.toNatClampNeg < 160) : eg_wI h 100 32 i x = some (eg_sI h 32 i.toNatClampNeg x) := if_pos (iA_32 hs h1 h2)
theorem kd_33 {h : eg_H} (hs : eg_stt h) : eg_kd h 33 = (1, 3) := hs.2.1 33 (Nat.le_of_ble_eq_true rfl)
theorem iO_33 {h : eg_H} (hs : eg_stt h) : eg_isO h 1 33 := ⟨Nat.le_of_ble_eq_true rfl, kd_33 hs⟩
theorem gI_33 {h : eg_H} {k : Nat} (hs : eg_stt h) : eg_gI h 1 k 33 = some (eg_I h 33 k) := if_pos (iO_33 hs)
theorem gL_33 {h : eg_H} {k : Nat} (hs : eg_stt h) : eg_gL h 1 k 33 = some (eg_L h 33 k) := if_pos (iO_33 hs)
theorem gQ_33 {h : eg_H} {k : Nat} (hs : eg_stt h) : eg_gQ h 1 k 33 = some (eg_P h 33 k) := if_pos (iO_33 hs)
theorem gR_33 {h : eg_H} {k : Nat} (hs : eg_stt h) : eg_gR h 1 k 33 = eg_P h 33 k := if_pos (iO_33 hs)
theorem pI_33 {h : eg_H} {k : Nat} {x : Int32} (hs : eg_stt h) : eg_pI h 1 k 33 x = some (eg_sI h 33 k x) := if_pos (iO_33 hs)
theorem pZ_33 {h : eg_H} {k : Nat} {x : Int32} (hs : eg_stt h) (hx : x = 0 ∨ x = 1) : eg_pZ h 1 k 33 x = some (eg_sI h 33 k x) := if_pos ⟨iO_33 hs, hx⟩
theorem pL_33 {h : eg_H} {k : Nat} {x : Int64} (hs : eg_stt h) : eg_pL h 1 k 33 x = some (eg_sL h 33 k x) := if_pos (iO_33 hs)
theorem pP_33 {h : eg_H} {k : Nat} {x : Option Nat} (hs : eg_stt h) : eg_pP h 1 k 33 x = some (eg_sP h 33 k x) := if_pos (iO_33 hs)
theorem kd_34 {h : eg_H} (hs : eg_stt h) : eg_kd h 34 = (100, 160) := hs.2.1 34 (Nat.le_of_ble_eq_true rfl)
theorem al_34 {h : eg_H} (hs : eg_stt h) : eg_al h 34 = some (nI 160) := by unfold eg_al; rw [kd_34 hs]; rfl
theorem iA_34 {h : eg_H} {i : Int32} (hs : eg_stt h) (h1 : ¬ i < 0) (h2 : i.toNatClampNeg < 160) : eg_isA h 100 34 i := ⟨Nat.le_of_ble_eq_true rfl, by rw [kd_34 hs], h1, by rw [kd_34 hs]; exact h2⟩
theorem aI_34 {h : eg_H} {i : Int32} (hs : eg_stt h) (h1 : ¬ i < 0) (h2 : i.toNatClampNeg < 160) : eg_aI h 100 34 i = some (eg_I h 34 i.toNatClampNeg) := if_pos (iA_34 hs h1 h2)
theorem wI_34 {h : eg_H} {i x : Int32} (hs : eg_stt h) (h1 : ¬ i < 0) (h2 : i.toNatClampNeg < 160) : eg_wI h 100 34 i x = some (eg_sI h 34 i.toNatClampNeg x) := if_pos (iA_34 hs h1 h2)
theorem kd_35 {h : eg_H} (hs : eg_stt h) : eg_kd h 35 = (100, 4) := hs.2.1 35 (Nat.le_of_ble_eq_true rfl)
theorem al_35 {h : eg_H} (hs : eg_stt h) : eg_al h 35 = some (nI 4) := by unfold eg_al; rw [kd_35 hs]; rfl
theorem iA_35 {h : eg_H} {i : Int32} (hs : eg_stt h) (h1 : ¬ i < 0) (h2 : i.toNatClampNeg < 4) : eg_isA h 100 35 i := ⟨Nat.le_of_ble_eq_true rfl, by rw [kd_35 hs], h1, by rw [kd_35 hs]; exact h2⟩
theorem aI_35 {h : eg_H} {i : Int32} (hs : eg_stt h) (h1 : ¬ i < 0) (h2 : i.toNatClampNeg < 4) : eg_aI h 100 35 i = some (eg_I h 35 i.toNatClampNeg) := if_pos (iA_35 hs h1 h2)
theorem wI_35 {h : eg_H} {i x : Int32} (hs : eg_stt h) (h1 : ¬ i < 0) (h2 : i.toNatClampNeg < 4) : eg_wI h 100 35 i x = some (eg_sI h 35 i.toNatClampNeg x) := if_pos (iA_35 hs h1 h2)
theorem kd_36 {h : eg_H} (hs : eg_stt h) : eg_kd h 36 = (11, 10) := hs.2.1 36 (Nat.le_of_ble_eq_true rfl)
theorem iO_36 {h : eg_H} (hs : eg_stt h) : eg_isO h 11 36 := ⟨Nat.le_of_ble_eq_true rfl, kd_36 hs⟩
theorem gI_36 {h : eg_H} {k : Nat} (hs : eg_stt h) : eg_gI h 11 k 36 = some (eg_I h 36 k) := if_pos (iO_36 hs)
theorem gL_36 {h : eg_H} {k : Nat} (hs : eg_stt h) : eg_gL h 11 k 36 = some (eg_L h 36 k) := if_pos (iO_36 hs)
theorem gQ_36 {h : eg_H} {k : Nat} (hs : eg_stt h) : eg_gQ h 11 k 36 = some (eg_P h 36 k) := if_pos (iO_36 hs)
theorem gR_36 {h : eg_H} {k : Nat} (hs : eg_stt h) : eg_gR h 11 k 36 = eg_P h 36 k := if_pos (iO_36 hs)
theorem pI_36 {h : eg_H} {k : Nat} {x : Int32} (hs : eg_stt h) : eg_pI h 11 k 36 x = some (eg_sI h 36 k x) := if_pos (iO_36 hs)
theorem pZ_36 {h : eg_H} {k : Nat} {x : Int32} (hs : eg_stt h) (hx : x = 0 ∨ x = 1) : eg_pZ h 11 k 36 x = some (eg_sI h 36 k x) := if_pos ⟨iO_36 hs, hx⟩
theorem pL_36 {h : eg_H} {k : Nat} {x : Int64} (hs : eg_stt h) : eg_pL h 11 k 36 x = some (eg_sL h 36 k x) := if_pos (iO_36 hs)
theorem pP_36 {h : eg_H} {k : Nat} {x : Option Nat} (hs : eg_stt h) : eg_pP h 11 k 36 x = some (eg_sP h 36 k x) := if_pos (iO_36 hs)
theorem kd_37 {h : eg_H} (hs : eg_stt h) : eg_kd h 37 = (100, 10) := hs.2.1 37 (Nat.le_of_ble_eq_true rfl)
theorem al_37 {h : eg_H} (hs : eg_stt h) : eg_al h 37 = some (nI 10) := by unfold eg_al; rw [kd_37 hs]; rfl
theorem iA_37 {h : eg_H} {i : Int32} (hs : eg_stt h) (h1 : ¬ i < 0) (h2 : i.toNatClampNeg < 10) : eg_isA h 100 37 i := ⟨Nat.le_of_ble_eq_true rfl, by rw [kd_37 hs], h1, by rw [kd_37 hs]; exact h2⟩
theorem aI_37 {h : eg_H} {i : Int32} (hs : eg_stt h) (h1 : ¬ i < 0) (h2 : i.toNatClampNeg < 10) : eg_aI h 100 37 i = some (eg_I h 37 i.toNatClampNeg) := if_pos (iA_37 hs h1 h2)
theorem wI_37 {h : eg_H} {i x : Int32} (hs : eg_stt h) (h1 : ¬ i < 0) (h2 : i.toNatClampNeg < 10) : eg_wI h 100 37 i x = some (eg_sI h 37 i.toNatClampNeg x) := if_pos (iA_37 hs h1 h2)
theorem kd_38 {h : eg_H} (hs : eg_stt h) : eg_kd h 38 = (0, 4) := hs.2.1 38 (Nat.le_of_ble_eq_true rfl)
theorem iO_38 {h : eg_H} (hs : eg_stt h) : eg_isO h 0 38 := ⟨Nat.le_of_ble_eq_true rfl, kd_38 hs⟩
theorem gI_38 {h : eg_H} {k : Nat} (hs : eg_stt h) : eg_gI h 0 k 38 = some (eg_I h 38 k) := if_pos (iO_38 hs)
theorem gL_38 {h : eg_H} {k : Nat} (hs : eg_stt h) : eg_gL h 0 k 38 = some (eg_L h 38 k) := if_pos (iO_38 hs)
theorem gQ_38 {h : eg_H} {k : Nat} (hs : eg_stt h) : eg_gQ h 0 k 38 = some (eg_P h 38 k) := if_pos (iO_38 hs)
theorem gR_38 {h : eg_H} {k : Nat} (hs : eg_stt h) : eg_gR h 0 k 38 = eg_P h 38 k := if_pos (iO_38 hs)
theorem pI_38 {h : eg_H} {k : Nat} {x : Int32} (hs : eg_stt h) : eg_pI h 0 k 38 x = some (eg_sI h 38 k x) := if_pos (iO_38 hs)
theorem pZ_38 {h : eg_H} {k : Nat} {x : Int32} (hs : eg_stt h) (hx : x = 0 ∨ x = 1) : eg_pZ h 0 k 38 x = some (eg_sI h 38 k x) := if_pos ⟨iO_38 hs, hx⟩
theorem pL_38 {h : eg_H} {k : Nat} {x : Int64} (hs : eg_stt h) : eg_pL h 0 k 38 x = some (eg_sL h 38 k x) := if_pos (iO_38 hs)
theorem pP_38 {h : eg_H} {k : Nat} {x : Option Nat} (hs : eg_stt h) : eg_pP h 0 k 38 x = some (eg_sP h 38 k x) := if_pos (iO_38 hs)
theorem kd_39 {h : eg_H} (hs : eg_stt h) : eg_kd h 39 = (114, 432) := hs.2.1 39 (Nat.le_of_ble_eq_true rfl)
theorem al_39 {h : eg_H} (hs : eg_stt h) : eg_al h 39 = some (nI 432) := by unfold eg_al; rw [kd_39 hs]; rfl
theorem iA_39 {h : eg_H} {i : Int32} (hs : eg_stt h) (h1 : ¬ i < 0) (h2 : i.toNatClampNeg < 432) : eg_isA h 114 39 i := ⟨Nat.le_of_ble_eq_true rfl, by rw [kd_39 hs], h1, by rw [kd_39 hs]; exact h2⟩
theorem aQ_39 {h : eg_H} {i : Int32} (hs : eg_stt h) (h1 : ¬ i < 0) (h2 : i.toNatClampNeg < 432) : eg_aQ h 114 39 i = some (eg_P h 39 i.toNatClampNeg) := if_pos (iA_39 hs h1 h2)
theorem aR_39 {h : eg_H} {i : Int32} (hs : eg_stt h) (h1 : ¬ i < 0) (h2 : i.toNatClampNeg < 432) : eg_aR h 114 39 i = eg_P h 39 i.toNatClampNeg := if_pos (iA_39 hs h1 h2)
theorem kd_40 {h : eg_H} (hs : eg_stt h) : eg_kd h 40 = (112, 3) := hs.2.1 40 (Nat.le_of_ble_eq_true rfl)
theorem al_40 {h : eg_H} (hs : eg_stt h) : eg_al h 40 = some (nI 3) := by unfold eg_al; rw [kd_40 hs]; rfl
theorem iA_40 {h : eg_H} {i : Int32} (hs : eg_stt h) (h1 : ¬ i < 0) (h2 : i.toNatClampNeg < 3) : eg_isA h 112 40 i := ⟨Nat.le_of_ble_eq_true rfl, by rw [kd_40 hs], h1, by rw [kd_40 hs]; exact h2⟩
theorem aQ_40 {h : eg_H} {i : Int32} (hs : eg_stt h) (h1 : ¬ i < 0) (h2 : i.toNatClampNeg < 3) : eg_aQ h 112 40 i = some (eg_P h 40 i.toNatClampNeg) := if_pos (iA_40 hs h1 h2)
theorem aR_40 {h : eg_H} {i : Int32} (hs : eg_stt h) (h1 : ¬ i < 0) (h2 : i.toNatClampNeg < 3) : eg_aR h 112 40 i = eg_P h 40 i.toNatClampNeg := if_pos (iA_40 hs h1 h2)
theorem kd_41 {h : eg_H} (hs : eg_stt h) : eg_kd h 41 = (2, 5) := hs.2.1 41 (Nat.le_of_ble_eq_true rfl)
theorem iO_41 {h : eg_H} (hs : eg_stt h) : eg_isO h 2 41 := ⟨Nat.le_of_ble_eq_true rfl, kd_41 hs⟩
theorem gI_41 {h : eg_H} {k : Nat} (hs : eg_stt h) : eg_gI h 2 k 41 = some (eg_I h 41 k) := if_pos (iO_41 hs)
theorem gL_41 {h : eg_H} {k : Nat} (hs : eg_stt h) : eg_gL h 2 k 41 = some (eg_L h 41 k) := if_pos (iO_41 hs)
theorem gQ_41 {h : eg_H} {k : Nat} (hs : eg_stt h) : eg_gQ h 2 k 41 = some (eg_P h 41 k) := if_pos (iO_41 hs)
theorem gR_41 {h : eg_H} {k : Nat} (hs : eg_stt h) : eg_gR h 2 k 41 = eg_P h 41 k := if_pos (iO_41 hs)
theorem pI_41 {h : eg_H} {k : Nat} {x : Int32} (hs : eg_stt h) : eg_pI h 2 k 41 x = some (eg_sI h 41 k x) := if_pos (iO_41 hs)
theorem pZ_41 {h : eg_H} {k : Nat} {x : Int32} (hs : eg_stt h) (hx : x = 0 ∨ x = 1) : eg_pZ h 2 k 41 x = some (eg_sI h 41 k x) := if_pos ⟨iO_41 hs, hx⟩
theorem pL_41 {h : eg_H} {k : Nat} {x : Int64} (hs : eg_stt h) : eg_pL h 2 k 41 x = some (eg_sL h 41 k x) := if_pos (iO_41 hs)
theorem pP_41 {h : eg_H} {k : Nat} {x : Option Nat} (hs : eg_stt h) : eg_pP h 2 k 41 x = some (eg_sP h 41 k x) := if_pos (iO_41 hs)
theorem kd_42 {h : eg_H} (hs : eg_stt h) : eg_kd h 42 = (100, 62) := hs.2.1 42 (Nat.le_of_ble_eq_true rfl)
theorem al_42 {h : eg_H} (hs : eg_stt h) : eg_al h 42 = some (nI 62) := by unfold eg_al; rw [kd_42 hs]; rfl
theorem iA_42 {h : eg_H} {i : Int32} (hs : eg_stt h) (h1 : ¬ i < 0) (h2 : i.toNatClampNeg < 62) : eg_isA h 100 42 i := ⟨Nat.le_of_ble_eq_true rfl, by rw [kd_42 hs], h1, by rw [kd_42 hs]; exact h2⟩
theorem aI_42 {h : eg_H} {i : Int32} (hs : eg_stt h) (h1 : ¬ i < 0) (h2 : i.toNatClampNeg < 62) : eg_aI h 100 42 i = some (eg_I h 42 i.toNatClampNeg) := if_pos (iA_42 hs h1 h2)
theorem wI_42 {h : eg_H} {i x : Int32} (hs : eg_stt h) (h1 : ¬ i < 0) (h2 : i.toNatClampNeg < 62) : eg_wI h 100 42 i x = some (eg_sI h 42 i.toNatClampNeg x) := if_pos (iA_42 hs h1 h2)
theorem kd_43 {h : eg_H} (hs : eg_stt h) : eg_kd h 43 = (2, 5) := hs.2.1 43 (Nat.le_of_ble_eq_true rfl)
theorem iO_43 {h : eg_H} (hs : eg_stt h) : eg_isO h 2 43 := ⟨Nat.le_of_ble_eq_true rfl, kd_43 hs⟩
theorem gI_43 {h : eg_H} {k : Nat} (hs : eg_stt h) : eg_gI h 2 k 43 = some (eg_I h 43 k) := if_pos (iO_43 hs)
theorem gL_43 {h : eg_H} {k : Nat} (hs : eg_stt h) : eg_gL h 2 k 43 = some (eg_L h 43 k) := if_pos (iO_43 hs)
theorem gQ_43 {h : eg_H} {k : Nat} (hs : eg_stt h) : eg_gQ h 2 k 43 = some (eg_P h 43 k) := if_pos (iO_43 hs)
theorem gR_43 {h : eg_H} {k : Nat} (hs : eg_stt h) : eg_gR h 2 k 43 = eg_P h 43 k := if_pos (iO_43 hs)
theorem pI_43 {h : eg_H} {k : Nat} {x : Int32} (hs : eg_stt h) : eg_pI h 2 k 43 x = some (eg_sI h 43 k x) := if_pos (iO_43 hs)
theorem pZ_43 {h : eg_H} {k : Nat} {x : Int32} (hs : eg_stt h) (hx : x = 0 ∨ x = 1) : eg_pZ h 2 k 43 x = some (eg_sI h 43 k x) := if_pos ⟨iO_43 hs, hx⟩
theorem pL_43 {h : eg_H} {k : Nat} {x : Int64} (hs : eg_stt h) : eg_pL h 2 k 43 x = some (eg_sL h 43 k x) := if_pos (iO_43 hs)
theorem pP_43 {h : eg_H} {k : Nat} {x : Option Nat} (hs : eg_stt h) : eg_pP h 2 k 43 x = some (eg_sP h 43 k x) := if_pos (iO_43 hs)
theorem kd_44 {h : eg_H} (hs : eg_stt h) : eg_kd h 44 = (100, 62) := hs.2.1 44 (Nat.le_of_ble_eq_true rfl)
theorem al_44 {h : eg_H} (hs : eg_stt h) : eg_al h 44 = some (nI 62) := by unfold eg_al; rw [kd_44 hs]; rfl
theorem iA_44 {h : eg_H} {i : Int32} (hs : eg_stt h) (h1 : ¬ i < 0) (h2 : i.toNatClampNeg < 62) : eg_isA h 100 44 i := ⟨Nat.le_of_ble_eq_true rfl, by rw [kd_44 hs], h1, by rw [kd_44 hs]; exact h2⟩
theorem aI_44 {h : eg_H} {i : Int32} (hs : eg_stt h) (h1 : ¬ i < 0) (h2 : i.toNatClampNeg < 62) : eg_aI h 100 44 i = some (eg_I h 44 i.toNatClampNeg) := if_pos (iA_44 hs h1 h2)
theorem wI_44 {h : eg_H} {i x : Int32} (hs : eg_stt h) (h1 : ¬ i < 0) (h2 : i.toNatClampNeg < 62) : eg_wI h 100 44 i x = some (eg_sI h 44 i.toNatClampNeg x) := if_pos (iA_44 hs h1 h2)
theorem kd_45 {h : eg_H} (hs : eg_stt h) : eg_kd h 45 = (2, 5) := hs.2.1 45 (Nat.le_of_ble_eq_true rfl)
theorem iO_45 {h : eg_H} (hs : eg_stt h) : eg_isO h 2 45 := ⟨Nat.le_of_ble_eq_true rfl, kd_45 hs⟩
theorem gI_45 {h : eg_H} {k : Nat} (hs : eg_stt h) : eg_gI h 2 k 45 = some (eg_I h 45 k) := if_pos (iO_45 hs)
theorem gL_45 {h : eg_H} {k : Nat} (hs : eg_stt h) : eg_gL h 2 k 45 = some (eg_L h 45 k) := if_pos (iO_45 hs)
theorem gQ_45 {h : eg_H} {k : Nat} (hs : eg_stt h) : eg_gQ h 2 k 45 = some (eg_P h 45 k) := if_pos (iO_45 hs)
theorem gR_45 {h : eg_H} {k : Nat} (hs : eg_stt h) : eg_gR h 2 k 45 = eg_P h 45 k := if_pos (iO_45 hs)
theorem pI_45 {h : eg_H} {k : Nat} {x : Int32} (hs : eg_stt h) : eg_pI h 2 k 45 x = some (eg_sI h 45 k x) := if_pos (iO_45 hs)
theorem pZ_45 {h : eg_H} {k : Nat} {x : Int32} (hs : eg_stt h) (hx : x = 0 ∨ x = 1) : eg_pZ h 2 k 45 x = some (eg_sI h 45 k x) := if_pos ⟨iO_45 hs, hx⟩
theorem pL_45 {h : eg_H} {k : Nat} {x : Int64} (hs : eg_stt h) : eg_pL h 2 k 45 x = some (eg_sL h 45 k x) := if_pos (iO_45 hs)
theorem pP_45 {h : eg_H} {k : Nat} {x : Option Nat} (hs : eg_stt h) : eg_pP h 2 k 45 x = some (eg_sP h 45 k x) := if_pos (iO_45 hs)
theorem kd_46 {h : eg_H} (hs : eg_stt h) : eg_kd h 46 = (100, 62) := hs.2.1 46 (Nat.le_of_ble_eq_true rfl)
theorem al_46 {h : eg_H} (hs : eg_stt h) : eg_al h 46 = some (nI 62) := by unfold eg_al; rw [kd_46 hs]; rfl
theorem iA_46 {h : eg_H} {i : Int32} (hs : eg_stt h) (h1 : ¬ i < 0) (h2 : i.toNatClampNeg < 62) : eg_isA h 100 46 i := ⟨Nat.le_of_ble_eq_true rfl, by rw [kd_46 hs], h1, by rw [kd_46 hs]; exact h2⟩
theorem aI_46 {h : eg_H} {i : Int32} (hs : eg_stt h) (h1 : ¬ i < 0) (h2 : i.toNatClampNeg < 62) : eg_aI h 100 46 i = some (eg_I h 46 i.toNatClampNeg) := if_pos (iA_46 hs h1 h2)
theorem wI_46 {h : eg_H} {i x : Int32} (hs : eg_stt h) (h1 : ¬ i < 0) (h2 : i.toNatClampNeg < 62) : eg_wI h 100 46 i x = some (eg_sI h 46 i.toNatClampNeg x) := if_pos (iA_46 hs h1 h2)
theorem kd_47 {h : eg_H} (hs : eg_stt h) : eg_kd h 47 = (9, 12) := hs.2.1 47 (Nat.le_of_ble_eq_true rfl)
theorem iO_47 {h : eg_H} (hs : eg_stt h) : eg_isO h 9 47 := ⟨Nat.le_of_ble_eq_true rfl, kd_47 hs⟩
theorem gI_47 {h : eg_H} {k : Nat} (hs : eg_stt h) : eg_gI h 9 k 47 = some (eg_I h 47 k) := if_pos (iO_47 hs)
theorem gL_47 {h : eg_H} {k : Nat} (hs : eg_stt h) : eg_gL h 9 k 47 = some (eg_L h 47 k) := if_pos (iO_47 hs)
theorem gQ_47 {h : eg_H} {k : Nat} (hs : eg_stt h) : eg_gQ h 9 k 47 = some (eg_P h 47 k) := if_pos (iO_47 hs)
theorem gR_47 {h : eg_H} {k : Nat} (hs : eg_stt h) : eg_gR h 9 k 47 = eg_P h 47 k := if_pos (iO_47 hs)
theorem pI_47 {h : eg_H} {k : Nat} {x : Int32} (hs : eg_stt h) : eg_pI h 9 k 47 x = some (eg_sI h 47 k x) := if_pos (iO_47 hs)
theorem pZ_47 {h : eg_H} {k : Nat} {x : Int32} (hs : eg_stt h) (hx : x = 0 ∨ x = 1) : eg_pZ h 9 k 47 x = some (eg_sI h 47 k x) := if_pos ⟨iO_47 hs, hx⟩
theorem pL_47 {h : eg_H} {k : Nat} {x : Int64} (hs : eg_stt h) : eg_pL h 9 k 47 x = some (eg_sL h 47 k x) := if_pos (iO_47 hs)
theorem pP_47 {h : eg_H} {k : Nat} {x : Option Nat} (hs : eg_stt h) : eg_pP h 9 k 47 x = some (eg_sP h 47 k x) := if_pos (iO_47 hs)
theorem kd_48 {h : eg_H} (hs : eg_stt h) : eg_kd h 48 = (101, 36) := hs.2.1 48 (Nat.le_of_ble_eq_true rfl)
theorem al_48 {h : eg_H} (hs : eg_stt h) : eg_al h 48 = some (nI 36) := by unfold eg_al; rw [kd_48 hs]; rfl
theorem iA_48 {h : eg_H} {i : Int32} (hs : eg_stt h) (h1 : ¬ i < 0) (h2 : i.toNatClampNeg < 36) : eg_isA h 101 48 i := ⟨Nat.le_of_ble_eq_true rfl, by rw [kd_48 hs], h1, by rw [kd_48 hs]; exact h2⟩
theorem aL_48 {h : eg_H} {i : Int32} (hs : eg_stt h) (h1 : ¬ i < 0) (h2 : i.toNatClampNeg < 36) : eg_aL h 48 i = some (eg_L h 48 i.toNatClampNeg) := if_pos (iA_48 hs h1 h2)
theorem wL_48 {h : eg_H} {i : Int32} {x : Int64} (hs : eg_stt h) (h1 : ¬ i < 0) (h2 : i.toNatClampNeg < 36) : eg_wL h 48 i x = some (eg_sL h 48 i.toNatClampNeg x) := if_pos (iA_48 hs h1 h2)
theorem kd_49 {h : eg_H} (hs : eg_stt h) : eg_kd h 49 = (100, 6) := hs.2.1 49 (Nat.le_of_ble_eq_true rfl)
theorem al_49 {h : eg_H} (hs : eg_stt h) : eg_al h 49 = some (nI 6) := by unfold eg_al; rw [kd_49 hs]; rfl
theorem iA_49 {h : eg_H} {i : Int32} (hs : eg_stt h) (h1 : ¬ i < 0) (h2 : i.toNatClampNeg < 6) : eg_isA h 100 49 i := ⟨Nat.le_of_ble_eq_true rfl, by rw [kd_49 hs], h1, by rw [kd_49 hs]; exact h2⟩
theorem aI_49 {h : eg_H} {i : Int32} (hs : eg_stt h) (h1 : ¬ i < 0) (h2 : i.toNatClampNeg < 6) : eg_aI h 100 49 i = some (eg_I h 49 i.toNatClampNeg) := if_pos (iA_49 hs h1 h2)
theorem wI_49 {h : eg_H} {i x : Int32} (hs : eg_stt h) (h1 : ¬ i < 0) (h2 : i.toNatClampNeg < 6) : eg_wI h 100 49 i x = some (eg_sI h 49 i.toNatClampNeg x) := if_pos (iA_49 hs h1 h2)
theorem kd_50 {h : eg_H} (hs : eg_stt h) : eg_kd h 50 = (100, 6) := hs.2.1 50 (Nat.le_of_ble_eq_true rfl)
theorem al_50 {h : eg_H} (hs : eg_stt h) : eg_al h 50 = some (nI 6) := by unfold eg_al; rw [kd_50 hs]; rfl
theorem iA_50 {h : eg_H} {i : Int32} (hs : eg_stt h) (h1 : ¬ i < 0) (h2 : i.toNatClampNeg < 6) : eg_isA h 100 50 i := ⟨Nat.le_of_ble_eq_true rfl, by rw [kd_50 hs], h1, by rw [kd_50 hs]; exact h2⟩
theorem aI_50 {h : eg_H} {i : Int32} (hs : eg_stt h) (h1 : ¬ i < 0) (h2 : i.toNatClampNeg < 6) : eg_aI h 100 50 i = some (eg_I h 50 i.toNatClampNeg) := if_pos (iA_50 hs h1 h2)
theorem wI_50 {h : eg_H} {i x : Int32} (hs : eg_stt h) (h1 : ¬ i < 0) (h2 : i.toNatClampNeg < 6) : eg_wI h 100 50 i x = some (eg_sI h 50 i.toNatClampNeg x) := if_pos (iA_50 hs h1 h2)
theorem kd_51 {h : eg_H} (hs : eg_stt h) : eg_kd h 51 = (100, 36) := hs.2.1 51 (Nat.le_of_ble_eq_true rfl)
theorem al_51 {h : eg_H} (hs : eg_stt h) : eg_al h 51 = some (nI 36) := by unfold eg_al; rw [kd_51 hs]; rfl
theorem iA_51 {h : eg_H} {i : Int32} (hs : eg_stt h) (h1 : ¬ i < 0) (h2 : i.toNatClampNeg < 36) : eg_isA h 100 51 i := ⟨Nat.le_of_ble_eq_true rfl, by rw [kd_51 hs], h1, by rw [kd_51 hs]; exact h2⟩
theorem aI_51 {h : eg_H} {i : Int32} (hs : eg_stt h) (h1 : ¬ i < 0) (h2 : i.toNatClampNeg < 36) : eg_aI h 100 51 i = some (eg_I h 51 i.toNatClampNeg) := if_pos (iA_51 hs h1 h2)
theorem wI_51 {h : eg_H} {i x : Int32} (hs : eg_stt h) (h1 : ¬ i < 0) (h2 : i.toNatClampNeg < 36) : eg_wI h 100 51 i x = some (eg_sI h 51 i.toNatClampNeg x) := if_pos (iA_51 hs h1 h2)
theorem kd_52 {h : eg_H} (hs : eg_stt h) : eg_kd h 52 = (100, 6) := hs.2.1 52 (Nat.le_of_ble_eq_true rfl)
theorem al_52 {h : eg_H} (hs : eg_stt h) : eg_al h 52 = some (nI 6) := by unfold eg_al; rw [kd_52 hs]; rfl
theorem iA_52 {h : eg_H} {i : Int32} (hs : eg_stt h) (h1 : ¬ i < 0) (h2 : i.toNatClampNeg < 6) : eg_isA h 100 52 i := ⟨Nat.le_of_ble_eq_true rfl, by rw [kd_52 hs], h1, by rw [kd_52 hs]; exact h2⟩
theorem aI_52 {h : eg_H} {i : Int32} (hs : eg_stt h) (h1 : ¬ i < 0) (h2 : i.toNatClampNeg < 6) : eg_aI h 100 52 i = some (eg_I h 52 i.toNatClampNeg) := if_pos (iA_52 hs h1 h2)
theorem wI_52 {h : eg_H} {i x : Int32} (hs : eg_stt h) (h1 : ¬ i < 0) (h2 : i.toNatClampNeg < 6) : eg_wI h 100 52 i x = some (eg_sI h 52 i.toNatClampNeg x) := if_pos (iA_52 hs h1 h2)
theorem kd_53 {h : eg_H} (hs : eg_stt h) : eg_kd h 53 = (100, 610) := hs.2.1 53 (Nat.le_of_ble_eq_true rfl)
theorem al_53 {h : eg_H} (hs : eg_stt h) : eg_al h 53 = some (nI 610) := by unfold eg_al; rw [kd_53 hs]; rfl
theorem iA_53 {h : eg_H} {i : Int32} (hs : eg_stt h) (h1 : ¬ i < 0) (h2 : i.toNatClampNeg < 610) : eg_isA h 100 53 i := ⟨Nat.le_of_ble_eq_true rfl, by rw [kd_53 hs], h1, by rw [kd_53 hs]; exact h2⟩
theorem aI_53 {h : eg_H} {i : Int32} (hs : eg_stt h) (h1 : ¬ i < 0) (h2 : i.toNatClampNeg < 610) : eg_aI h 100 53 i = some (eg_I h 53 i.toNatClampNeg) := if_pos (iA_53 hs h1 h2)
theorem wI_53 {h : eg_H} {i x : Int32} (hs : eg_stt h) (h1 : ¬ i < 0) (h2 : i.toNatClampNeg < 610) : eg_wI h 100 53 i x = some (eg_sI h 53 i.toNatClampNeg x) := if_pos (iA_53 hs h1 h2)
theorem kd_54 {h : eg_H} (hs : eg_stt h) : eg_kd h 54 = (13, 79) := hs.2.1 54 (Nat.le_of_ble_eq_true rfl)
theorem iO_54 {h : eg_H} (hs : eg_stt h) : eg_isO h 13 54 := ⟨Nat.le_of_ble_eq_true rfl, kd_54 hs⟩
theorem gI_54 {h : eg_H} {k : Nat} (hs : eg_stt h) : eg_gI h 13 k 54 = some (eg_I h 54 k) := if_pos (iO_54 hs)
theorem gL_54 {h : eg_H} {k : Nat} (hs : eg_stt h) : eg_gL h 13 k 54 = some (eg_L h 54 k) := if_pos (iO_54 hs)
theorem gQ_54 {h : eg_H} {k : Nat} (hs : eg_stt h) : eg_gQ h 13 k 54 = some (eg_P h 54 k) := if_pos (iO_54 hs)
theorem gR_54 {h : eg_H} {k : Nat} (hs : eg_stt h) : eg_gR h 13 k 54 = eg_P h 54 k := if_pos (iO_54 hs)
theorem pI_54 {h : eg_H} {k : Nat} {x : Int32} (hs : eg_stt h) : eg_pI h 13 k 54 x = some (eg_sI h 54 k x) := if_pos (iO_54 hs)
theorem pZ_54 {h : eg_H} {k : Nat} {x : Int32} (hs : eg_stt h) (hx : x = 0 ∨ x = 1) : eg_pZ h 13 k 54 x = some (eg_sI h 54 k x) := if_pos ⟨iO_54 hs, hx⟩
theorem pL_54 {h : eg_H} {k : Nat} {x : Int64} (hs : eg_stt h) : eg_pL h 13 k 54 x = some (eg_sL h 54 k x) := if_pos (iO_54 hs)
theorem pP_54 {h : eg_H} {k : Nat} {x : Option Nat} (hs : eg_stt h) : eg_pP h 13 k 54 x = some (eg_sP h 54 k x) := if_pos (iO_54 hs)
theorem kd_55 {h : eg_H} (hs : eg_stt h) : eg_kd h 55 = (102, 160) := hs.2.1 55 (Nat.le_of_ble_eq_true rfl)
theorem al_55 {h : eg_H} (hs : eg_stt h) : eg_al h 55 = some (nI 160) := by unfold eg_al; rw [kd_55 hs]; rfl
theorem iA_55 {h : eg_H} {i : Int32} (hs : eg_stt h) (h1 : ¬ i < 0) (h2 : i.toNatClampNeg < 160) : eg_isA h 102 55 i := ⟨Nat.le_of_ble_eq_true rfl, by rw [kd_55 hs], h1, by rw [kd_55 hs]; exact h2⟩
theorem aI_55 {h : eg_H} {i : Int32} (hs : eg_stt h) (h1 : ¬ i < 0) (h2 : i.toNatClampNeg < 160) : eg_aI h 102 55 i = some (eg_I h 55 i.toNatClampNeg) := if_pos (iA_55 hs h1 h2)
theorem wI_55 {h : eg_H} {i x : Int32} (hs : eg_stt h) (h1 : ¬ i < 0) (h2 : i.toNatClampNeg < 160) : eg_wI h 102 55 i x = some (eg_sI h 55 i.toNatClampNeg x) := if_pos (iA_55 hs h1 h2)
theorem kd_56 {h : eg_H} (hs : eg_stt h) : eg_kd h 56 = (102, 640) := hs.2.1 56 (Nat.le_of_ble_eq_true rfl)
theorem al_56 {h : eg_H} (hs : eg_stt h) : eg_al h 56 = some (nI 640) := by unfold eg_al; rw [kd_56 hs]; rfl
theorem iA_56 {h : eg_H} {i : Int32} (hs : eg_stt h) (h1 : ¬ i < 0) (h2 : i.toNatClampNeg < 640) : eg_isA h 102 56 i := ⟨Nat.le_of_ble_eq_true rfl, by rw [kd_56 hs], h1, by rw [kd_56 hs]; exact h2⟩
theorem aI_56 {h : eg_H} {i : Int32} (hs : eg_stt h) (h1 : ¬ i < 0) (h2 : i.toNatClampNeg < 640) : eg_aI h 102 56 i = some (eg_I h 56 i.toNatClampNeg) := if_pos (iA_56 hs h1 h2)
theorem wI_56 {h : eg_H} {i x : Int32} (hs : eg_stt h) (h1 : ¬ i < 0) (h2 : i.toNatClampNeg < 640) : eg_wI h 102 56 i x = some (eg_sI h 56 i.toNatClampNeg x) := if_pos (iA_56 hs h1 h2)
theorem kd_57 {h : eg_H} (hs : eg_stt h) : eg_kd h 57 = (100, 4) := hs.2.1 57 (Nat.le_of_ble_eq_true rfl)
theorem al_57 {h : eg_H} (hs : eg_stt h) : eg_al h 57 = some (nI 4) := by unfold eg_al; rw [kd_57 hs]; rfl
theorem iA_57 {h : eg_H} {i : Int32} (hs : eg_stt h) (h1 : ¬ i < 0) (h2 : i.toNatClampNeg < 4) : eg_isA h 100 57 i := ⟨Nat.le_of_ble_eq_true rfl, by rw [kd_57 hs], h1, by rw [kd_57 hs]; exact h2⟩
theorem aI_57 {h : eg_H} {i : Int32} (hs : eg_stt h) (h1 : ¬ i < 0) (h2 : i.toNatClampNeg < 4) : eg_aI h 100 57 i = some (eg_I h 57 i.toNatClampNeg) := if_pos (iA_57 hs h1 h2)
theorem wI_57 {h : eg_H} {i x : Int32} (hs : eg_stt h) (h1 : ¬ i < 0) (h2 : i.toNatClampNeg < 4) : eg_wI h 100 57 i x = some (eg_sI h 57 i.toNatClampNeg x) := if_pos (iA_57 hs h1 h2)
theorem kd_58 {h : eg_H} (hs : eg_stt h) : eg_kd h 58 = (100, 128) := hs.2.1 58 (Nat.le_of_ble_eq_true rfl)
theorem al_58 {h : eg_H} (hs : eg_stt h) : eg_al h 58 = some (nI 128) := by unfold eg_al; rw [kd_58 hs]; rfl
theorem iA_58 {h : eg_H} {i : Int32} (hs : eg_stt h) (h1 : ¬ i < 0) (h2 : i.toNatClampNeg < 128) : eg_isA h 100 58 i := ⟨Nat.le_of_ble_eq_true rfl, by rw [kd_58 hs], h1, by rw [kd_58 hs]; exact h2⟩
theorem aI_58 {h : eg_H} {i : Int32} (hs : eg_stt h) (h1 : ¬ i < 0) (h2 : i.toNatClampNeg < 128) : eg_aI h 100 58 i = some (eg_I h 58 i.toNatClampNeg) := if_pos (iA_58 hs h1 h2)
theorem wI_58 {h : eg_H} {i x : Int32} (hs : eg_stt h) (h1 : ¬ i < 0) (h2 : i.toNatClampNeg < 128) : eg_wI h 100 58 i x = some (eg_sI h 58 i.toNatClampNeg x) := if_pos (iA_58 hs h1 h2)
theorem kd_59 {h : eg_H} (hs : eg_stt h) : eg_kd h 59 = (100, 4) := hs.2.1 59 (Nat.le_of_ble_eq_true rfl)
theorem al_59 {h : eg_H} (hs : eg_stt h) : eg_al h 59 = some (nI 4) := by unfold eg_al; rw [kd_59 hs]; rfl
theorem iA_59 {h : eg_H} {i : Int32} (hs : eg_stt h) (h1 : ¬ i < 0) (h2 : i.toNatClampNeg < 4) : eg_isA h 100 59 i := ⟨Nat.le_of_ble_eq_true rfl, by rw [kd_59 hs], h1, by rw [kd_59 hs]; exact h2⟩
theorem aI_59 {h : eg_H} {i : Int32} (hs : eg_stt h) (h1 : ¬ i < 0) (h2 : i.toNatClampNeg < 4) : eg_aI h 100 59 i = some (eg_I h 59 i.toNatClampNeg) := if_pos (iA_59 hs h1 h2)
theorem wI_59 {h : eg_H} {i x : Int32} (hs : eg_stt h) (h1 : ¬ i < 0) (h2 : i.toNatClampNeg < 4) : eg_wI h 100 59 i x = some (eg_sI h 59 i.toNatClampNeg x) := if_pos (iA_59 hs h1 h2)
theorem kd_60 {h : eg_H} (hs : eg_stt h) : eg_kd h 60 = (100, 4) := hs.2.1 60 (Nat.le_of_ble_eq_true rfl)
theorem al_60 {h : eg_H} (hs : eg_stt h) : eg_al h 60 = some (nI 4) := by unfold eg_al; rw [kd_60 hs]; rfl
theorem iA_60 {h : eg_H} {i : Int32} (hs : eg_stt h) (h1 : ¬ i < 0) (h2 : i.toNatClampNeg < 4) : eg_isA h 100 60 i := ⟨Nat.le_of_ble_eq_true rfl, by rw [kd_60 hs], h1, by rw [kd_60 hs]; exact h2⟩
theorem aI_60 {h : eg_H} {i : Int32} (hs : eg_stt h) (h1 : ¬ i < 0) (h2 : i.toNatClampNeg < 4) : eg_aI h 100 60 i = some (eg_I h 60 i.toNatClampNeg) := if_pos (iA_60 hs h1 h2)
theorem wI_60 {h : eg_H} {i x : Int32} (hs : eg_stt h) (h1 : ¬ i < 0) (h2 : i.toNatClampNeg < 4) : eg_wI h 100 60 i x = some (eg_sI h 60 i.toNatClampNeg x) := if_pos (iA_60 hs h1 h2)
theorem kd_61 {h : eg_H} (hs : eg_stt h) : eg_kd h 61 = (100, 24) := hs.2.1 61 (Nat.le_of_ble_eq_true rfl)
theorem al_61 {h : eg_H} (hs : eg_stt h) : eg_al h 61 = some (nI 24) := by unfold eg_al; rw [kd_61 hs]; rfl
theorem iA_61 {h : eg_H} {i : Int32} (hs : eg_stt h) (h1 : ¬ i < 0) (h2 : i.toNatClampNeg < 24) : eg_isA h 100 61 i := ⟨Nat.le_of_ble_eq_true rfl, by rw [kd_61 hs], h1, by rw [kd_61 hs]; exact h2⟩
theorem aI_61 {h : eg_H} {i : Int32} (hs : eg_stt h) (h1 : ¬ i < 0) (h2 : i.toNatClampNeg < 24) : eg_aI h 100 61 i = some (eg_I h 61 i.toNatClampNeg) := if_pos (iA_61 hs h1 h2)
theorem wI_61 {h : eg_H} {i x : Int32} (hs : eg_stt h) (h1 : ¬ i < 0) (h2 : i.toNatClampNeg < 24) : eg_wI h 100 61 i x = some (eg_sI h 61 i.toNatClampNeg x) := if_pos (iA_61 hs h1 h2)
theorem kd_62 {h : eg_H} (hs : eg_stt h) : eg_kd h 62 = (100, 24) := hs.2.1 62 (Nat.le_of_ble_eq_true rfl)
theorem al_62 {h : eg_H} (hs : eg_stt h) : eg_al h 62 = some (nI 24) := by unfold eg_al; rw [kd_62 hs]; rfl
theorem iA_62 {h : eg_H} {i : Int32} (hs : eg_stt h) (h1 : ¬ i < 0) (h2 : i.toNatClampNeg < 24) : eg_isA h 100 62 i := ⟨Nat.le_of_ble_eq_true rfl, by rw [kd_62 hs], h1, by rw [kd_62 hs]; exact h2⟩
theorem aI_62 {h : eg_H} {i : Int32} (hs : eg_stt h) (h1 : ¬ i < 0) (h2 : i.toNatClampNeg < 24) : eg_aI h 100 62 i = some (eg_I h 62 i.toNatClampNeg) := if_pos (iA_62 hs h1 h2)
theorem wI_62 {h : eg_H} {i x : Int32} (hs : eg_stt h) (h1 : ¬ i < 0) (h2 : i.toNatClampNeg < 24) : eg_wI h 100 62 i x = some (eg_sI h 62 i.toNatClampNeg x) := if_pos (iA_62 hs h1 h2)
theorem kd_63 {h : eg_H} (hs : eg_stt h) : eg_kd h 63 = (100, 12) := hs.2.1 63 (Nat.le_of_ble_eq_true rfl)
theorem al_63 {h : eg_H} (hs : eg_stt h) : eg_al h 63 = some (nI 12) := by unfold eg_al; rw [kd_63 hs]; rfl
theorem iA_63 {h : eg_H} {i : Int32} (hs : eg_stt h) (h1 : ¬ i < 0) (h2 : i.toNatClampNeg < 12) : eg_isA h 100 63 i := ⟨Nat.le_of_ble_eq_true rfl, by rw [kd_63 hs], h1, by rw [kd_63 hs]; exact h2⟩
theorem aI_63 {h : eg_H} {i : Int32} (hs : eg_stt h) (h1 : ¬ i < 0) (h2 : i.toNatClampNeg < 12) : eg_aI h 100 63 i = some (eg_I h 63 i.toNatClampNeg) := if_pos (iA_63 hs h1 h2)
theorem wI_63 {h : eg_H} {i x : Int32} (hs : eg_stt h) (h1 : ¬ i < 0) (h2 : i.toNatClampNeg < 12) : eg_wI h 100 63 i x = some (eg_sI h 63 i.toNatClampNeg x) := if_pos (iA_63 hs h1 h2)
theorem kd_64 {h : eg_H} (hs : eg_stt h) : eg_kd h 64 = (100, 12) := hs.2.1 64 (Nat.le_of_ble_eq_true rfl)
theorem al_64 {h : eg_H} (hs : eg_stt h) : eg_al h 64 = some (nI 12) := by unfold eg_al; rw [kd_64 hs]; rfl
theorem iA_64 {h : eg_H} {i : Int32} (hs : eg_stt h) (h1 : ¬ i < 0) (h2 : i.toNatClampNeg < 12) : eg_isA h 100 64 i := ⟨Nat.le_of_ble_eq_true rfl, by rw [kd_64 hs], h1, by rw [kd_64 hs]; exact h2⟩
theorem aI_64 {h : eg_H} {i : Int32} (hs : eg_stt h) (h1 : ¬ i < 0) (h2 : i.toNatClampNeg < 12) : eg_aI h 100 64 i = some (eg_I h 64 i.toNatClampNeg) := if_pos (iA_64 hs h1 h2)
theorem wI_64 {h : eg_H} {i x : Int32} (hs : eg_stt h) (h1 : ¬ i < 0) (h2 : i.toNatClampNeg < 12) : eg_wI h 100 64 i x = some (eg_sI h 64 i.toNatClampNeg x) := if_pos (iA_64 hs h1 h2)
theorem kd_65 {h : eg_H} (hs : eg_stt h) : eg_kd h 65 = (100, 96) := hs.2.1 65 (Nat.le_of_ble_eq_true rfl)
theorem al_65 {h : eg_H} (hs : eg_stt h) : eg_al h 65 = some (nI 96) := by unfold eg_al; rw [kd_65 hs]; rfl
theorem iA_65 {h : eg_H} {i : Int32} (hs : eg_stt h) (h1 : ¬ i < 0) (h2 : i.toNatClampNeg < 96) : eg_isA h 100 65 i := ⟨Nat.le_of_ble_eq_true rfl, by rw [kd_65 hs], h1, by rw [kd_65 hs]; exact h2⟩
theorem aI_65 {h : eg_H} {i : Int32} (hs : eg_stt h) (h1 : ¬ i < 0) (h2 : i.toNatClampNeg < 96) : eg_aI h 100 65 i = some (eg_I h 65 i.toNatClampNeg) := if_pos (iA_65 hs h1 h2)
theorem wI_65 {h : eg_H} {i x : Int32} (hs : eg_stt h) (h1 : ¬ i < 0) (h2 : i.toNatClampNeg < 96) : eg_wI h 100 65 i x = some (eg_sI h 65 i.toNatClampNeg x) := if_pos (iA_65 hs h1 h2)
theorem kd_66 {h : eg_H} (hs : eg_stt h) : eg_kd h 66 = (100, 24) := hs.2.1 66 (Nat.le_of_ble_eq_true rfl)
theorem al_66 {h : eg_H} (hs : eg_stt h) : eg_al h 66 = some (nI 24) := by unfold eg_al; rw [kd_66 hs]; rfl
theorem iA_66 {h : eg_H} {i : Int32} (hs : eg_stt h) (h1 : ¬ i < 0) (h2 : i.toNatClampNeg < 24) : eg_isA h 100 66 i := ⟨Nat.le_of_ble_eq_true rfl, by rw [kd_66 hs], h1, by rw [kd_66 hs]; exact h2⟩
theorem aI_66 {h : eg_H} {i : Int32} (hs : eg_stt h) (h1 : ¬ i < 0) (h2 : i.toNatClampNeg < 24) : eg_aI h 100 66 i = some (eg_I h 66 i.toNatClampNeg) := if_pos (iA_66 hs h1 h2)
theorem wI_66 {h : eg_H} {i x : Int32} (hs : eg_stt h) (h1 : ¬ i < 0) (h2 : i.toNatClampNeg < 24) : eg_wI h 100 66 i x = some (eg_sI h 66 i.toNatClampNeg x) := if_pos (iA_66 hs h1 h2)
theorem kd_67 {h : eg_H} (hs : eg_stt h) : eg_kd h 67 = (100, 4) := hs.2.1 67 (Nat.le_of_ble_eq_true rfl)
theorem al_67 {h : eg_H} (hs : eg_stt h) : eg_al h 67 = some (nI 4) := by unfold eg_al; rw [kd_67 hs]; rfl
theorem iA_67 {h : eg_H} {i : Int32} (hs : eg_stt h) (h1 : ¬ i < 0) (h2 : i.toNatClampNeg < 4) : eg_isA h 100 67 i := ⟨Nat.le_of_ble_eq_true rfl, by rw [kd_67 hs], h1, by rw [kd_67 hs]; exact h2⟩
theorem aI_67 {h : eg_H} {i : Int32} (hs : eg_stt h) (h1 : ¬ i < 0) (h2 : i.toNatClampNeg < 4) : eg_aI h 100 67 i = some (eg_I h 67 i.toNatClampNeg) := if_pos (iA_67 hs h1 h2)
theorem wI_67 {h : eg_H} {i x : Int32} (hs : eg_stt h) (h1 : ¬ i < 0) (h2 : i.toNatClampNeg < 4) : eg_wI h 100 67 i x = some (eg_sI h 67 i.toNatClampNeg x) := if_pos (iA_67 hs h1 h2)
theorem kd_68 {h : eg_H} (hs : eg_stt h) : eg_kd h 68 = (103, 11) := hs.2.1 68 (Nat.le_of_ble_eq_true rfl)
theorem al_68 {h : eg_H} (hs : eg_stt h) : eg_al h 68 = some (nI 11) := by unfold eg_al; rw [kd_68 hs]; rfl
theorem iA_68 {h : eg_H} {i : Int32} (hs : eg_stt h) (h1 : ¬ i < 0) (h2 : i.toNatClampNeg < 11) : eg_isA h 103 68 i := ⟨Nat.le_of_ble_eq_true rfl, by rw [kd_68 hs], h1, by rw [kd_68 hs]; exact h2⟩
theorem aI_68 {h : eg_H} {i : Int32} (hs : eg_stt h) (h1 : ¬ i < 0) (h2 : i.toNatClampNeg < 11) : eg_aI h 103 68 i = some (eg_I h 68 i.toNatClampNeg) := if_pos (iA_68 hs h1 h2)
theorem wI_68 {h : eg_H} {i x : Int32} (hs : eg_stt h) (h1 : ¬ i < 0) (h2 : i.toNatClampNeg < 11) : eg_wI h 103 68 i x = some (eg_sI h 68 i.toNatClampNeg x) := if_pos (iA_68 hs h1 h2)
theorem kd_69 {h : eg_H} (hs : eg_stt h) : eg_kd h 69 = (100, 62) := hs.2.1 69 (Nat.le_of_ble_eq_true rfl)
theorem al_69 {h : eg_H} (hs : eg_stt h) : eg_al h 69 = some (nI 62) := by unfold eg_al; rw [kd_69 hs]; rfl
theorem iA_69 {h : eg_H} {i : Int32} (hs : eg_stt h) (h1 : ¬ i < 0) (h2 : i.toNatClampNeg < 62) : eg_isA h 100 69 i := ⟨Nat.le_of_ble_eq_true rfl, by rw [kd_69 hs], h1, by rw [kd_69 hs]; exact h2⟩
theorem aI_69 {h : eg_H} {i : Int32} (hs : eg_stt h) (h1 : ¬ i < 0) (h2 : i.toNatClampNeg < 62) : eg_aI h 100 69 i = some (eg_I h 69 i.toNatClampNeg) := if_pos (iA_69 hs h1 h2)
theorem wI_69 {h : eg_H} {i x : Int32} (hs : eg_stt h) (h1 : ¬ i < 0) (h2 : i.toNatClampNeg < 62) : eg_wI h 100 69 i x = some (eg_sI h 69 i.toNatClampNeg x) := if_pos (iA_69 hs h1 h2)
theorem kd_70 {h : eg_H} (hs : eg_stt h) : eg_kd h 70 = (101, 36) := hs.2.1 70 (Nat.le_of_ble_eq_true rfl)
theorem al_70 {h : eg_H} (hs : eg_stt h) : eg_al h 70 = some (nI 36) := by unfold eg_al; rw [kd_70 hs]; rfl
theorem iA_70 {h : eg_H} {i : Int32} (hs : eg_stt h) (h1 : ¬ i < 0) (h2 : i.toNatClampNeg < 36) : eg_isA h 101 70 i := ⟨Nat.le_of_ble_eq_true rfl, by rw [kd_70 hs], h1, by rw [kd_70 hs]; exact h2⟩
theorem aL_70 {h : eg_H} {i : Int32} (hs : eg_stt h) (h1 : ¬ i < 0) (h2 : i.toNatClampNeg < 36) : eg_aL h 70 i = some (eg_L h 70 i.toNatClampNeg) := if_pos (iA_70 hs h1 h2)
theorem wL_70 {h : eg_H} {i : Int32} {x : Int64} (hs : eg_stt h) (h1 : ¬ i < 0) (h2 : i.toNatClampNeg < 36) : eg_wL h 70 i x = some (eg_sL h 70 i.toNatClampNeg x) := if_pos (iA_70 hs h1 h2)
theorem kd_71 {h : eg_H} (hs : eg_stt h) : eg_kd h 71 = (100, 6) := hs.2.1 71 (Nat.le_of_ble_eq_true rfl)
theorem al_71 {h : eg_H} (hs : eg_stt h) : eg_al h 71 = some (nI 6) := by unfold eg_al; rw [kd_71 hs]; rfl
theorem iA_71 {h : eg_H} {i : Int32} (hs : eg_stt h) (h1 : ¬ i < 0) (h2 : i.toNatClampNeg < 6) : eg_isA h 100 71 i := ⟨Nat.le_of_ble_eq_true rfl, by rw [kd_71 hs], h1, by rw [kd_71 hs]; exact h2⟩
theorem aI_71 {h : eg_H} {i : Int32} (hs : eg_stt h) (h1 : ¬ i < 0) (h2 : i.toNatClampNeg < 6) : eg_aI h 100 71 i = some (eg_I h 71 i.toNatClampNeg) := if_pos (iA_71 hs h1 h2)
theorem wI_71 {h : eg_H} {i x : Int32} (hs : eg_stt h) (h1 : ¬ i < 0) (h2 : i.toNatClampNeg < 6) : eg_wI h 100 71 i x = some (eg_sI h 71 i.toNatClampNeg x) := if_pos (iA_71 hs h1 h2)
theorem kd_72 {h : eg_H} (hs : eg_stt h) : eg_kd h 72 = (100, 20) := hs.2.1 72 (Nat.le_of_ble_eq_true rfl)
theorem al_72 {h : eg_H} (hs : eg_stt h) : eg_al h 72 = some (nI 20) := by unfold eg_al; rw [kd_72 hs]; rfl
theorem iA_72 {h : eg_H} {i : Int32} (hs : eg_stt h) (h1 : ¬ i < 0) (h2 : i.toNatClampNeg < 20) : eg_isA h 100 72 i := ⟨Nat.le_of_ble_eq_true rfl, by rw [kd_72 hs], h1, by rw [kd_72 hs]; exact h2⟩
theorem aI_72 {h : eg_H} {i : Int32} (hs : eg_stt h) (h1 : ¬ i < 0) (h2 : i.toNatClampNeg < 20) : eg_aI h 100 72 i = some (eg_I h 72 i.toNatClampNeg) := if_pos (iA_72 hs h1 h2)
theorem wI_72 {h : eg_H} {i x : Int32} (hs : eg_stt h) (h1 : ¬ i < 0) (h2 : i.toNatClampNeg < 20) : eg_wI h 100 72 i x = some (eg_sI h 72 i.toNatClampNeg x) := if_pos (iA_72 hs h1 h2)
theorem kd_73 {h : eg_H} (hs : eg_stt h) : eg_kd h 73 = (100, 20) := hs.2.1 73 (Nat.le_of_ble_eq_true rfl)
theorem al_73 {h : eg_H} (hs : eg_stt h) : eg_al h 73 = some (nI 20) := by unfold eg_al; rw [kd_73 hs]; rfl
theorem iA_73 {h : eg_H} {i : Int32} (hs : eg_stt h) (h1 : ¬ i < 0) (h2 : i.toNatClampNeg < 20) : eg_isA h 100 73 i := ⟨Nat.le_of_ble_eq_true rfl, by rw [kd_73 hs], h1, by rw [kd_73 hs]; exact h2⟩
theorem aI_73 {h : eg_H} {i : Int32} (hs : eg_stt h) (h1 : ¬ i < 0) (h2 : i.toNatClampNeg < 20) : eg_aI h 100 73 i = some (eg_I h 73 i.toNatClampNeg) := if_pos (iA_73 hs h1 h2)
theorem wI_73 {h : eg_H} {i x : Int32} (hs : eg_stt h) (h1 : ¬ i < 0) (h2 : i.toNatClampNeg < 20) : eg_wI h 100 73 i x = some (eg_sI h 73 i.toNatClampNeg x) := if_pos (iA_73 hs h1 h2)
theorem kd_74 {h : eg_H} (hs : eg_stt h) : eg_kd h 74 = (103, 20) := hs.2.1 74 (Nat.le_of_ble_eq_true rfl)
theorem al_74 {h : eg_H} (hs : eg_stt h) : eg_al h 74 = some (nI 20) := by unfold eg_al; rw [kd_74 hs]; rfl
theorem iA_74 {h : eg_H} {i : Int32} (hs : eg_stt h) (h1 : ¬ i < 0) (h2 : i.toNatClampNeg < 20) : eg_isA h 103 74 i := ⟨Nat.le_of_ble_eq_true rfl, by rw [kd_74 hs], h1, by rw [kd_74 hs]; exact h2⟩
theorem aI_74 {h : eg_H} {i : Int32} (hs : eg_stt h) (h1 : ¬ i < 0) (h2 : i.toNatClampNeg < 20) : eg_aI h 103 74 i = some (eg_I h 74 i.toNatClampNeg) := if_pos (iA_74 hs h1 h2)
theorem wI_74 {h : eg_H} {i x : Int32} (hs : eg_stt h) (h1 : ¬ i < 0) (h2 : i.toNatClampNeg < 20) : eg_wI h 103 74 i x = some (eg_sI h 74 i.toNatClampNeg x) := if_pos (iA_74 hs h1 h2)
theorem kd_75 {h : eg_H} (hs : eg_stt h) : eg_kd h 75 = (100, 62) := hs.2.1 75 (Nat.le_of_ble_eq_true rfl)
theorem al_75 {h : eg_H} (hs : eg_stt h) : eg_al h 75 = some (nI 62) := by unfold eg_al; rw [kd_75 hs]; rfl
theorem iA_75 {h : eg_H} {i : Int32} (hs : eg_stt h) (h1 : ¬ i < 0) (h2 : i.toNatClampNeg < 62) : eg_isA h 100 75 i := ⟨Nat.le_of_ble_eq_true rfl, by rw [kd_75 hs], h1, by rw [kd_75 hs]; exact h2⟩
theorem aI_75 {h : eg_H} {i : Int32} (hs : eg_stt h) (h1 : ¬ i < 0) (h2 : i.toNatClampNeg < 62) : eg_aI h 100 75 i = some (eg_I h 75 i.toNatClampNeg) := if_pos (iA_75 hs h1 h2)
theorem wI_75 {h : eg_H} {i x : Int32} (hs : eg_stt h) (h1 : ¬ i < 0) (h2 : i.toNatClampNeg < 62) : eg_wI h 100 75 i x = some (eg_sI h 75 i.toNatClampNeg x) := if_pos (iA_75 hs h1 h2)
theorem kd_76 {h : eg_H} (hs : eg_stt h) : eg_kd h 76 = (100, 62) := hs.2.1 76 (Nat.le_of_ble_eq_true rfl)
theorem al_76 {h : eg_H} (hs : eg_stt h) : eg_al h 76 = some (nI 62) := by unfold eg_al; rw [kd_76 hs]; rfl
theorem iA_76 {h : eg_H} {i : Int32} (hs : eg_stt h) (h1 : ¬ i < 0) (h2 : i.toNatClampNeg < 62) : eg_isA h 100 76 i := ⟨Nat.le_of_ble_eq_true rfl, by rw [kd_76 hs], h1, by rw [kd_76 hs]; exact h2⟩
theorem aI_76 {h : eg_H} {i : Int32} (hs : eg_stt h) (h1 : ¬ i < 0) (h2 : i.toNatClampNeg < 62) : eg_aI h 100 76 i = some (eg_I h 76 i.toNatClampNeg) := if_pos (iA_76 hs h1 h2)
theorem wI_76 {h : eg_H} {i x : Int32} (hs : eg_stt h) (h1 : ¬ i < 0) (h2 : i.toNatClampNeg < 62) : eg_wI h 100 76 i x = some (eg_sI h 76 i.toNatClampNeg x) := if_pos (iA_76 hs h1 h2)
theorem kd_77 {h : eg_H} (hs : eg_stt h) : eg_kd h 77 = (100, 36) := hs.2.1 77 (Nat.le_of_ble_eq_true rfl)
theorem al_77 {h : eg_H} (hs : eg_stt h) : eg_al h 77 = some (nI 36) := by unfold eg_al; rw [kd_77 hs]; rfl
theorem iA_77 {h : eg_H} {i : Int32} (hs : eg_stt h) (h1 : ¬ i < 0) (h2 : i.toNatClampNeg < 36) : eg_isA h 100 77 i := ⟨Nat.le_of_ble_eq_true rfl, by rw [kd_77 hs], h1, by rw [kd_77 hs]; exact h2⟩
theorem aI_77 {h : eg_H} {i : Int32} (hs : eg_stt h) (h1 : ¬ i < 0) (h2 : i.toNatClampNeg < 36) : eg_aI h 100 77 i = some (eg_I h 77 i.toNatClampNeg) := if_pos (iA_77 hs h1 h2)
theorem wI_77 {h : eg_H} {i x : Int32} (hs : eg_stt h) (h1 : ¬ i < 0) (h2 : i.toNatClampNeg < 36) : eg_wI h 100 77 i x = some (eg_sI h 77 i.toNatClampNeg x) := if_pos (iA_77 hs h1 h2)
theorem kd_78 {h : eg_H} (hs : eg_stt h) : eg_kd h 78 = (100, 6) := hs.2.1 78 (Nat.le_of_ble_eq_true rfl)
theorem al_78 {h : eg_H} (hs : eg_stt h) : eg_al h 78 = some (nI 6) := by unfold eg_al; rw [kd_78 hs]; rfl
theorem iA_78 {h : eg_H} {i : Int32} (hs : eg_stt h) (h1 : ¬ i < 0) (h2 : i.toNatClampNeg < 6) : eg_isA h 100 78 i := ⟨Nat.le_of_ble_eq_true rfl, by rw [kd_78 hs], h1, by rw [kd_78 hs]; exact h2⟩
theorem aI_78 {h : eg_H} {i : Int32} (hs : eg_stt h) (h1 : ¬ i < 0) (h2 : i.toNatClampNeg < 6) : eg_aI h 100 78 i = some (eg_I h 78 i.toNatClampNeg) := if_pos (iA_78 hs h1 h2)
theorem wI_78 {h : eg_H} {i x : Int32} (hs : eg_stt h) (h1 : ¬ i < 0) (h2 : i.toNatClampNeg < 6) : eg_wI h 100 78 i x = some (eg_sI h 78 i.toNatClampNeg x) := if_pos (iA_78 hs h1 h2)
theorem kd_79 {h : eg_H} (hs : eg_stt h) : eg_kd h 79 = (100, 372) := hs.2.1 79 (Nat.le_of_ble_eq_true rfl)
theorem al_79 {h : eg_H} (hs : eg_stt h) : eg_al h 79 = some (nI 372) := by unfold eg_al; rw [kd_79 hs]; rfl
theorem iA_79 {h : eg_H} {i : Int32} (hs : eg_stt h) (h1 : ¬ i < 0) (h2 : i.toNatClampNeg < 372) : eg_isA h 100 79 i := ⟨Nat.le_of_ble_eq_true rfl, by rw [kd_79 hs], h1, by rw [kd_79 hs]; exact h2⟩
theorem aI_79 {h : eg_H} {i : Int32} (hs : eg_stt h) (h1 : ¬ i < 0) (h2 : i.toNatClampNeg < 372) : eg_aI h 100 79 i = some (eg_I h 79 i.toNatClampNeg) := if_pos (iA_79 hs h1 h2)
theorem wI_79 {h : eg_H} {i x : Int32} (hs : eg_stt h) (h1 : ¬ i < 0) (h2 : i.toNatClampNeg < 372) : eg_wI h 100 79 i x = some (eg_sI h 79 i.toNatClampNeg x) := if_pos (iA_79 hs h1 h2)
theorem kd_80 {h : eg_H} (hs : eg_stt h) : eg_kd h 80 = (100, 36) := hs.2.1 80 (Nat.le_of_ble_eq_true rfl)
theorem al_80 {h : eg_H} (hs : eg_stt h) : eg_al h 80 = some (nI 36) := by unfold eg_al; rw [kd_80 hs]; rfl
theorem iA_80 {h : eg_H} {i : Int32} (hs : eg_stt h) (h1 : ¬ i < 0) (h2 : i.toNatClampNeg < 36) : eg_isA h 100 80 i := ⟨Nat.le_of_ble_eq_true rfl, by rw [kd_80 hs], h1, by rw [kd_80 hs]; exact h2⟩
theorem aI_80 {h : eg_H} {i : Int32} (hs : eg_stt h) (h1 : ¬ i < 0) (h2 : i.toNatClampNeg < 36) : eg_aI h 100 80 i = some (eg_I h 80 i.toNatClampNeg) := if_pos (iA_80 hs h1 h2)
theorem wI_80 {h : eg_H} {i x : Int32} (hs : eg_stt h) (h1 : ¬ i < 0) (h2 : i.toNatClampNeg < 36) : eg_wI h 100 80 i x = some (eg_sI h 80 i.toNatClampNeg x) := if_pos (iA_80 hs h1 h2)
theorem kd_81 {h : eg_H} (hs : eg_stt h) : eg_kd h 81 = (100, 6) := hs.2.1 81 (Nat.le_of_ble_eq_true rfl)
theorem al_81 {h : eg_H} (hs : eg_stt h) : eg_al h 81 = some (nI 6) := by unfold eg_al; rw [kd_81 hs]; rfl
theorem iA_81 {h : eg_H} {i : Int32} (hs : eg_stt h) (h1 : ¬ i < 0) (h2 : i.toNatClampNeg < 6) : eg_isA h 100 81 i := ⟨Nat.le_of_ble_eq_true rfl, by rw [kd_81 hs], h1, by rw [kd_81 hs]; exact h2⟩
theorem aI_81 {h : eg_H} {i : Int32} (hs : eg_stt h) (h1 : ¬ i < 0) (h2 : i.toNatClampNeg < 6) : eg_aI h 100 81 i = some (eg_I h 81 i.toNatClampNeg) := if_pos (iA_81 hs h1 h2)
theorem wI_81 {h : eg_H} {i x : Int32} (hs : eg_stt h) (h1 : ¬ i < 0) (h2 : i.toNatClampNeg < 6) : eg_wI h 100 81 i x = some (eg_sI h 81 i.toNatClampNeg x) := if_pos (iA_81 hs h1 h2)
theorem kd_82 {h : eg_H} (hs : eg_stt h) : eg_kd h 82 = (100, 20) := hs.2.1 82 (Nat.le_of_ble_eq_true rfl)
theorem al_82 {h : eg_H} (hs : eg_stt h) : eg_al h 82 = some (nI 20) := by unfold eg_al; rw [kd_82 hs]; rfl
theorem iA_82 {h : eg_H} {i : Int32} (hs : eg_stt h) (h1 : ¬ i < 0) (h2 : i.toNatClampNeg < 20) : eg_isA h 100 82 i := ⟨Nat.le_of_ble_eq_true rfl, by rw [kd_82 hs], h1, by rw [kd_82 hs]; exact h2⟩
theorem aI_82 {h : eg_H} {i : Int32} (hs : eg_stt h) (h1 : ¬ i < 0) (h2 : i.toNatClampNeg < 20) : eg_aI h 100 82 i = some (eg_I h 82 i.toNatClampNeg) := if_pos (iA_82 hs h1 h2)
theorem wI_82 {h : eg_H} {i x : Int32} (hs : eg_stt h) (h1 : ¬ i < 0) (h2 : i.toNatClampNeg < 20) : eg_wI h 100 82 i x = some (eg_sI h 82 i.toNatClampNeg x) := if_pos (iA_82 hs h1 h2)
theorem kd_83 {h : eg_H} (hs : eg_stt h) : eg_kd h 83 = (100, 20) := hs.2.1 83 (Nat.le_of_ble_eq_true rfl)
theorem al_83 {h : eg_H} (hs : eg_stt h) : eg_al h 83 = some (nI 20) := by unfold eg_al; rw [kd_83 hs]; rfl
theorem iA_83 {h : eg_H} {i : Int32} (hs : eg_stt h) (h1 : ¬ i < 0) (h2 : i.toNatClampNeg < 20) : eg_isA h 100 83 i := ⟨Nat.le_of_ble_eq_true rfl, by rw [kd_83 hs], h1, by rw [kd_83 hs]; exact h2⟩
theorem aI_83 {h : eg_H} {i : Int32} (hs : eg_stt h) (h1 : ¬ i < 0) (h2 : i.toNatClampNeg < 20) : eg_aI h 100 83 i = some (eg_I h 83 i.toNatClampNeg) := if_pos (iA_83 hs h1 h2)
theorem wI_83 {h : eg_H} {i x : Int32} (hs : eg_stt h) (h1 : ¬ i < 0) (h2 : i.toNatClampNeg < 20) : eg_wI h 100 83 i x = some (eg_sI h 83 i.toNatClampNeg x) := if_pos (iA_83 hs h1 h2)
theorem kd_84 {h : eg_H} (hs : eg_stt h) : eg_kd h 84 = (100, 20) := hs.2.1 84 (Nat.le_of_ble_eq_true rfl)
theorem al_84 {h : eg_H} (hs : eg_stt h) : eg_al h 84 = some (nI 20) := by unfold eg_al; rw [kd_84 hs]; rfl
theorem iA_84 {h : eg_H} {i : Int32} (hs : eg_stt h) (h1 : ¬ i < 0) (h2 : i.toNatClampNeg < 20) : eg_isA h 100 84 i := ⟨Nat.le_of_ble_eq_true rfl, by rw [kd_84 hs], h1, by rw [kd_84 hs]; exact h2⟩
theorem aI_84 {h : eg_H} {i : Int32} (hs : eg_stt h) (h1 : ¬ i < 0) (h2 : i.toNatClampNeg < 20) : eg_aI h 100 84 i = some (eg_I h 84 i.toNatClampNeg) := if_pos (iA_84 hs h1 h2)
theorem wI_84 {h : eg_H} {i x : Int32} (hs : eg_stt h) (h1 : ¬ i < 0) (h2 : i.toNatClampNeg < 20) : eg_wI h 100 84 i x = some (eg_sI h 84 i.toNatClampNeg x) := if_pos (iA_84 hs h1 h2)
theorem kd_85 {h : eg_H} (hs : eg_stt h) : eg_kd h 85 = (100, 20) := hs.2.1 85 (Nat.le_of_ble_eq_true rfl)
theorem al_85 {h : eg_H} (hs : eg_stt h) : eg_al h 85 = some (nI 20) := by unfold eg_al; rw [kd_85 hs]; rfl
theorem iA_85 {h : eg_H} {i : Int32} (hs : eg_stt h) (h1 : ¬ i < 0) (h2 : i.toNatClampNeg < 20) : eg_isA h 100 85 i := ⟨Nat.le_of_ble_eq_true rfl, by rw [kd_85 hs], h1, by rw [kd_85 hs]; exact h2⟩
theorem aI_85 {h : eg_H} {i : Int32} (hs : eg_stt h) (h1 : ¬ i < 0) (h2 : i.toNatClampNeg < 20) : eg_aI h 100 85 i = some (eg_I h 85 i.toNatClampNeg) := if_pos (iA_85 hs h1 h2)
theorem wI_85 {h : eg_H} {i x : Int32} (hs : eg_stt h) (h1 : ¬ i < 0) (h2 : i.toNatClampNeg < 20) : eg_wI h 100 85 i x = some (eg_sI h 85 i.toNatClampNeg x) := if_pos (iA_85 hs h1 h2)
theorem kd_86 {h : eg_H} (hs : eg_stt h) : eg_kd h 86 = (100, 36) := hs.2.1 86 (Nat.le_of_ble_eq_true rfl)
theorem al_86 {h : eg_H} (hs : eg_stt h) : eg_al h 86 = some (nI 36) := by unfold eg_al; rw [kd_86 hs]; rfl
theorem iA_86 {h : eg_H} {i : Int32} (hs : eg_stt h) (h1 : ¬ i < 0) (h2 : i.toNatClampNeg < 36) : eg_isA h 100 86 i := ⟨Nat.le_of_ble_eq_true rfl, by rw [kd_86 hs], h1, by rw [kd_86 hs]; exact h2⟩
theorem aI_86 {h : eg_H} {i : Int32} (hs : eg_stt h) (h1 : ¬ i < 0) (h2 : i.toNatClampNeg < 36) : eg_aI h 100 86 i = some (eg_I h 86 i.toNatClampNeg) := if_pos (iA_86 hs h1 h2)
theorem wI_86 {h : eg_H} {i x : Int32} (hs : eg_stt h) (h1 : ¬ i < 0) (h2 : i.toNatClampNeg < 36) : eg_wI h 100 86 i x = some (eg_sI h 86 i.toNatClampNeg x) := if_pos (iA_86 hs h1 h2)
theorem kd_87 {h : eg_H} (hs : eg_stt h) : eg_kd h 87 = (100, 40) := hs.2.1 87 (Nat.le_of_ble_eq_true rfl)
theorem al_87 {h : eg_H} (hs : eg_stt h) : eg_al h 87 = some (nI 40) := by unfold eg_al; rw [kd_87 hs]; rfl
theorem iA_87 {h : eg_H} {i : Int32} (hs : eg_stt h) (h1 : ¬ i < 0) (h2 : i.toNatClampNeg < 40) : eg_isA h 100 87 i := ⟨Nat.le_of_ble_eq_true rfl, by rw [kd_87 hs], h1, by rw [kd_87 hs]; exact h2⟩
theorem aI_87 {h : eg_H} {i : Int32} (hs : eg_stt h) (h1 : ¬ i < 0) (h2 : i.toNatClampNeg < 40) : eg_aI h 100 87 i = some (eg_I h 87 i.toNatClampNeg) := if_pos (iA_87 hs h1 h2)
theorem wI_87 {h : eg_H} {i x : Int32} (hs : eg_stt h) (h1 : ¬ i < 0) (h2 : i.toNatClampNeg < 40) : eg_wI h 100 87 i x = some (eg_sI h 87 i.toNatClampNeg x) := if_pos (iA_87 hs h1 h2)
theorem kd_88 {h : eg_H} (hs : eg_stt h) : eg_kd h 88 = (100, 40) := hs.2.1 88 (Nat.le_of_ble_eq_true rfl)
theorem al_88 {h : eg_H} (hs : eg_stt h) : eg_al h 88 = some (nI 40) := by unfold eg_al; rw [kd_88 hs]; rfl
theorem iA_88 {h : eg_H} {i : Int32} (hs : eg_stt h) (h1 : ¬ i < 0) (h2 : i.toNatClampNeg < 40) : eg_isA h 100 88 i := ⟨Nat.le_of_ble_eq_true rfl, by rw [kd_88 hs], h1, by rw [kd_88 hs]; exact h2⟩
theorem aI_88 {h : eg_H} {i : Int32} (hs : eg_stt h) (h1 : ¬ i < 0) (h2 : i.toNatClampNeg < 40) : eg_aI h 100 88 i = some (eg_I h 88 i.toNatClampNeg) := if_pos (iA_88 hs h1 h2)
theorem wI_88 {h : eg_H} {i x : Int32} (hs : eg_stt h) (h1 : ¬ i < 0) (h2 : i.toNatClampNeg < 40) : eg_wI h 100 88 i x = some (eg_sI h 88 i.toNatClampNeg x) := if_pos (iA_88 hs h1 h2)
theorem kd_89 {h : eg_H} (hs : eg_stt h) : eg_kd h 89 = (100, 40) := hs.2.1 89 (Nat.le_of_ble_eq_true rfl)
theorem al_89 {h : eg_H} (hs : eg_stt h) : eg_al h 89 = some (nI 40) := by unfold eg_al; rw [kd_89 hs]; rfl
theorem iA_89 {h : eg_H} {i : Int32} (hs : eg_stt h) (h1 : ¬ i < 0) (h2 : i.toNatClampNeg < 40) : eg_isA h 100 89 i := ⟨Nat.le_of_ble_eq_true rfl, by rw [kd_89 hs], h1, by rw [kd_89 hs]; exact h2⟩
theorem aI_89 {h : eg_H} {i : Int32} (hs : eg_stt h) (h1 : ¬ i < 0) (h2 : i.toNatClampNeg < 40) : eg_aI h 100 89 i = some (eg_I h 89 i.toNatClampNeg) := if_pos (iA_89 hs h1 h2)
theorem wI_89 {h : eg_H} {i x : Int32} (hs : eg_stt h) (h1 : ¬ i < 0) (h2 : i.toNatClampNeg < 40) : eg_wI h 100 89 i x = some (eg_sI h 89 i.toNatClampNeg x) := if_pos (iA_89 hs h1 h2)
theorem kd_90 {h : eg_H} (hs : eg_stt h) : eg_kd h 90 = (100, 4) := hs.2.1 90 (Nat.le_of_ble_eq_true rfl)
theorem al_90 {h : eg_H} (hs : eg_stt h) : eg_al h 90 = some (nI 4) := by unfold eg_al; rw [kd_90 hs]; rfl
theorem iA_90 {h : eg_H} {i : Int32} (hs : eg_stt h) (h1 : ¬ i < 0) (h2 : i.toNatClampNeg < 4) : eg_isA h 100 90 i := ⟨Nat.le_of_ble_eq_true rfl, by rw [kd_90 hs], h1, by rw [kd_90 hs]; exact h2⟩
theorem aI_90 {h : eg_H} {i : Int32} (hs : eg_stt h) (h1 : ¬ i < 0) (h2 : i.toNatClampNeg < 4) : eg_aI h 100 90 i = some (eg_I h 90 i.toNatClampNeg) := if_pos (iA_90 hs h1 h2)
theorem wI_90 {h : eg_H} {i x : Int32} (hs : eg_stt h) (h1 : ¬ i < 0) (h2 : i.toNatClampNeg < 4) : eg_wI h 100 90 i x = some (eg_sI h 90 i.toNatClampNeg x) := if_pos (iA_90 hs h1 h2)
theorem kd_91 {h : eg_H} (hs : eg_stt h) : eg_kd h 91 = (100, 40) := hs.2.1 91 (Nat.le_of_ble_eq_true rfl)
theorem al_91 {h : eg_H} (hs : eg_stt h) : eg_al h 91 = some (nI 40) := by unfold eg_al; rw [kd_91 hs]; rfl
theorem iA_91 {h : eg_H} {i : Int32} (hs : eg_stt h) (h1 : ¬ i < 0) (h2 : i.toNatClampNeg < 40) : eg_isA h 100 91 i := ⟨Nat.le_of_ble_eq_true rfl, by rw [kd_91 hs], h1, by rw [kd_91 hs]; exact h2⟩
theorem aI_91 {h : eg_H} {i : Int32} (hs : eg_stt h) (h1 : ¬ i < 0) (h2 : i.toNatClampNeg < 40) : eg_aI h 100 91 i = some (eg_I h 91 i.toNatClampNeg) := if_pos (iA_91 hs h1 h2)
theorem wI_91 {h : eg_H} {i x : Int32} (hs : eg_stt h) (h1 : ¬ i < 0) (h2 : i.toNatClampNeg < 40) : eg_wI h 100 91 i x = some (eg_sI h 91 i.toNatClampNeg x) := if_pos (iA_91 hs h1 h2)
theorem kd_92 {h : eg_H} (hs : eg_stt h) : eg_kd h 92 = (100, 40) := hs.2.1 92 (Nat.le_of_ble_eq_true rfl)
theorem al_92 {h : eg_H} (hs : eg_stt h) : eg_al h 92 = some (nI 40) := by unfold eg_al; rw [kd_92 hs]; rfl
theorem iA_92 {h : eg_H} {i : Int32} (hs : eg_stt h) (h1 : ¬ i < 0) (h2 : i.toNatClampNeg < 40) : eg_isA h 100 92 i := ⟨Nat.le_of_ble_eq_true rfl, by rw [kd_92 hs], h1, by rw [kd_92 hs]; exact h2⟩
theorem aI_92 {h : eg_H} {i : Int32} (hs : eg_stt h) (h1 : ¬ i < 0) (h2 : i.toNatClampNeg < 40) : eg_aI h 100 92 i = some (eg_I h 92 i.toNatClampNeg) := if_pos (iA_92 hs h1 h2)
theorem wI_92 {h : eg_H} {i x : Int32} (hs : eg_stt h) (h1 : ¬ i < 0) (h2 : i.toNatClampNeg < 40) : eg_wI h 100 92 i x = some (eg_sI h 92 i.toNatClampNeg x) := if_pos (iA_92 hs h1 h2)
theorem kd_93 {h : eg_H} (hs : eg_stt h) : eg_kd h 93 = (100, 40) := hs.2.1 93 (Nat.le_of_ble_eq_true rfl)
theorem al_93 {h : eg_H} (hs : eg_stt h) : eg_al h 93 = some (nI 40) := by unfold eg_al; rw [kd_93 hs]; rfl
theorem iA_93 {h : eg_H} {i : Int32} (hs : eg_stt h) (h1 : ¬ i < 0) (h2 : i.toNatClampNeg < 40) : eg_isA h 100 93 i := ⟨Nat.le_of_ble_eq_true rfl, by rw [kd_93 hs], h1, by rw [kd_93 hs]; exact h2⟩
theorem aI_93 {h : eg_H} {i : Int32} (hs : eg_stt h) (h1 : ¬ i < 0) (h2 : i.toNatClampNeg < 40) : eg_aI h 100 93 i = some (eg_I h 93 i.toNatClampNeg) := if_pos (iA_93 hs h1 h2)
theorem wI_93 {h : eg_H} {i x : Int32} (hs : eg_stt h) (h1 : ¬ i < 0) (h2 : i.toNatClampNeg < 40) : eg_wI h 100 93 i x = some (eg_sI h 93 i.toNatClampNeg x) := if_pos (iA_93 hs h1 h2)
theorem kd_94 {h : eg_H} (hs : eg_stt h) : eg_kd h 94 = (101, 1) := hs.2.1 94 (Nat.le_of_ble_eq_true rfl)
theorem al_94 {h : eg_H} (hs : eg_stt h) : eg_al h 94 = some (nI 1) := by unfold eg_al; rw [kd_94 hs]; rfl
theorem iA_94 {h : eg_H} {i : Int32} (hs : eg_stt h) (h1 : ¬ i < 0) (h2 : i.toNatClampNeg < 1) : eg_isA h 101 94 i := ⟨Nat.le_of_ble_eq_true rfl, by rw [kd_94 hs], h1, by rw [kd_94 hs]; exact h2⟩
theorem aL_94 {h : eg_H} {i : Int32} (hs : eg_stt h) (h1 : ¬ i < 0) (h2 : i.toNatClampNeg < 1) : eg_aL h 94 i = some (eg_L h 94 i.toNatClampNeg) := if_pos (iA_94 hs h1 h2)
theorem wL_94 {h : eg_H} {i : Int32} {x : Int64} (hs : eg_stt h) (h1 : ¬ i < 0) (h2 : i.toNatClampNeg < 1) : eg_wL h 94 i x = some (eg_sL h 94 i.toNatClampNeg x) := if_pos (iA_94 hs h1 h2)
theorem rf_16_0 {h : eg_H} (hs : eg_stt h) : eg_P h 16 0 = some 17 := hs.2.2 (16, 0, 17) (List.mem_of_getElem? (i := 0) rfl)
theorem rf_16_1 {h : eg_H} (hs : eg_stt h) : eg_P h 16 1 = some 19 := hs.2.2 (16, 1, 19) (List.mem_of_getElem? (i := 1) rfl)
theorem rf_16_2 {h : eg_H} (hs : eg_stt h) : eg_P h 16 2 = some 21 := hs.2.2 (16, 2, 21) (List.mem_of_getElem? (i := 2) rfl)
theorem rf_16_3 {h : eg_H} (hs : eg_stt h) : eg_P h 16 3 = some 23 := hs.2.2 (16, 3, 23) (List.mem_of_getElem? (i := 3) rfl)
theorem rf_16_4 {h : eg_H} (hs : eg_stt h) : eg_P h 16 4 = some 25 := hs.2.2 (16, 4, 25) (List.mem_of_getElem? (i := 4) rfl)
theorem rf_16_7 {h : eg_H} (hs : eg_stt h) : eg_P h 16 7 = some 26 := hs.2.2 (16, 7, 26) (List.mem_of_getElem? (i := 5) rfl)
theorem rf_16_9 {h : eg_H} (hs : eg_stt h) : eg_P h 16 9 = some 27 := hs.2.2 (16, 9, 27) (List.mem_of_getElem? (i := 6) rfl)
theorem rf_16_10 {h : eg_H} (hs : eg_stt h) : eg_P h 16 10 = some 29 := hs.2.2 (16, 10, 29) (List.mem_of_getElem? (i := 7) rfl)
theorem rf_16_11 {h : eg_H} (hs : eg_stt h) : eg_P h 16 11 = some 31 := hs.2.2 (16, 11, 31) (List.mem_of_getElem? (i := 8) rfl)
theorem rf_16_12 {h : eg_H} (hs : eg_stt h) : eg_P h 16 12 = some 33 := hs.2.2 (16, 12, 33) (List.mem_of_getElem? (i := 9) rfl)
theorem rf_16_13 {h : eg_H} (hs : eg_stt h) : eg_P h 16 13 = some 35 := hs.2.2 (16, 13, 35) (List.mem_of_getElem? (i := 10) rfl)
theorem rf_16_15 {h : eg_H} (hs : eg_stt h) : eg_P h 16 15 = some 36 := hs.2.2 (16, 15, 36) (List.mem_of_getElem? (i := 11) rfl)
theorem rf_16_16 {h : eg_H} (hs : eg_stt h) : eg_P h 16 16 = some 38 := hs.2.2 (16, 16, 38) (List.mem_of_getElem? (i := 12) rfl)
theorem rf_16_17 {h : eg_H} (hs : eg_stt h) : eg_P h 16 17 = some 40 := hs.2.2 (16, 17, 40) (List.mem_of_getElem? (i := 13) rfl)
theorem rf_16_18 {h : eg_H} (hs : eg_stt h) : eg_P h 16 18 = some 47 := hs.2.2 (16, 18, 47) (List.mem_of_getElem? (i := 14) rfl)
theorem rf_17_0 {h : eg_H} (hs : eg_stt h) : eg_P h 17 0 = some 18 := hs.2.2 (17, 0, 18) (List.mem_of_getElem? (i := 15) rfl)
theorem rf_19_0 {h : eg_H} (hs : eg_stt h) : eg_P h 19 0 = some 17 := hs.2.2 (19, 0, 17) (List.mem_of_getElem? (i := 16) rfl)
theorem rf_19_1 {h : eg_H} (hs : eg_stt h) : eg_P h 19 1 = some 20 := hs.2.2 (19, 1, 20) (List.mem_of_getElem? (i := 17) rfl)
theorem rf_21_0 {h : eg_H} (hs : eg_stt h) : eg_P h 21 0 = some 17 := hs.2.2 (21, 0, 17) (List.mem_of_getElem? (i := 18) rfl)
theorem rf_21_1 {h : eg_H} (hs : eg_stt h) : eg_P h 21 1 = some 22 := hs.2.2 (21, 1, 22) (List.mem_of_getElem? (i := 19) rfl)
theorem rf_23_0 {h : eg_H} (hs : eg_stt h) : eg_P h 23 0 = some 24 := hs.2.2 (23, 0, 24) (List.mem_of_getElem? (i := 20) rfl)
theorem rf_27_0 {h : eg_H} (hs : eg_stt h) : eg_P h 27 0 = some 28 := hs.2.2 (27, 0, 28) (List.mem_of_getElem? (i := 21) rfl)
theorem rf_29_0 {h : eg_H} (hs : eg_stt h) : eg_P h 29 0 = some 30 := hs.2.2 (29, 0, 30) (List.mem_of_getElem? (i := 22) rfl)
theorem rf_31_0 {h : eg_H} (hs : eg_stt h) : eg_P h 31 0 = some 32 := hs.2.2 (31, 0, 32) (List.mem_of_getElem? (i := 23) rfl)
theorem rf_33_0 {h : eg_H} (hs : eg_stt h) : eg_P h 33 0 = some 34 := hs.2.2 (33, 0, 34) (List.mem_of_getElem? (i := 24) rfl)
theorem rf_36_0 {h : eg_H} (hs : eg_stt h) : eg_P h 36 0 = some 23 := hs.2.2 (36, 0, 23) (List.mem_of_getElem? (i := 25) rfl)
theorem rf_36_1 {h : eg_H} (hs : eg_stt h) : eg_P h 36 1 = some 37 := hs.2.2 (36, 1, 37) (List.mem_of_getElem? (i := 26) rfl)
theorem rf_38_0 {h : eg_H} (hs : eg_stt h) : eg_P h 38 0 = some 23 := hs.2.2 (38, 0, 23) (List.mem_of_getElem? (i := 27) rfl)
theorem rf_38_1 {h : eg_H} (hs : eg_stt h) : eg_P h 38 1 = some 36 := hs.2.2 (38, 1, 36) (List.mem_of_getElem? (i := 28) rfl)
theorem rf_38_2 {h : eg_H} (hs : eg_stt h) : eg_P h 38 2 = some 39 := hs.2.2 (38, 2, 39) (List.mem_of_getElem? (i := 29) rfl)
theorem rf_41_0 {h : eg_H} (hs : eg_stt h) : eg_P h 41 0 = some 23 := hs.2.2 (41, 0, 23) (List.mem_of_getElem? (i := 30) rfl)
theorem rf_41_1 {h : eg_H} (hs : eg_stt h) : eg_P h 41 1 = some 42 := hs.2.2 (41, 1, 42) (List.mem_of_getElem? (i := 31) rfl)
theorem rf_43_0 {h : eg_H} (hs : eg_stt h) : eg_P h 43 0 = some 23 := hs.2.2 (43, 0, 23) (List.mem_of_getElem? (i := 32) rfl)
theorem rf_43_1 {h : eg_H} (hs : eg_stt h) : eg_P h 43 1 = some 44 := hs.2.2 (43, 1, 44) (List.mem_of_getElem? (i := 33) rfl)
theorem rf_45_0 {h : eg_H} (hs : eg_stt h) : eg_P h 45 0 = some 23 := hs.2.2 (45, 0, 23) (List.mem_of_getElem? (i := 34) rfl)
theorem rf_45_1 {h : eg_H} (hs : eg_stt h) : eg_P h 45 1 = some 46 := hs.2.2 (45, 1, 46) (List.mem_of_getElem? (i := 35) rfl)
theorem rf_47_0 {h : eg_H} (hs : eg_stt h) : eg_P h 47 0 = some 48 := hs.2.2 (47, 0, 48) (List.mem_of_getElem? (i := 36) rfl)
theorem rf_47_1 {h : eg_H} (hs : eg_stt h) : eg_P h 47 1 = some 49 := hs.2.2 (47, 1, 49) (List.mem_of_getElem? (i := 37) rfl)
theorem rf_47_2 {h : eg_H} (hs : eg_stt h) : eg_P h 47 2 = some 50 := hs.2.2 (47, 2, 50) (List.mem_of_getElem? (i := 38) rfl)
theorem rf_47_3 {h : eg_H} (hs : eg_stt h) : eg_P h 47 3 = some 51 := hs.2.2 (47, 3, 51) (List.mem_of_getElem? (i := 39) rfl)
theorem rf_47_4 {h : eg_H} (hs : eg_stt h) : eg_P h 47 4 = some 52 := hs.2.2 (47, 4, 52) (List.mem_of_getElem? (i := 40) rfl)
theorem rf_47_5 {h : eg_H} (hs : eg_stt h) : eg_P h 47 5 = some 53 := hs.2.2 (47, 5, 53) (List.mem_of_getElem? (i := 41) rfl)
theorem rf_54_1 {h : eg_H} (hs : eg_stt h) : eg_P h 54 1 = some 55 := hs.2.2 (54, 1, 55) (List.mem_of_getElem? (i := 42) rfl)
theorem rf_54_2 {h : eg_H} (hs : eg_stt h) : eg_P h 54 2 = some 56 := hs.2.2 (54, 2, 56) (List.mem_of_getElem? (i := 43) rfl)
theorem rf_54_3 {h : eg_H} (hs : eg_stt h) : eg_P h 54 3 = some 57 := hs.2.2 (54, 3, 57) (List.mem_of_getElem? (i := 44) rfl)
theorem rf_54_4 {h : eg_H} (hs : eg_stt h) : eg_P h 54 4 = some 58 := hs.2.2 (54, 4, 58) (List.mem_of_getElem? (i := 45) rfl)
theorem rf_54_15 {h : eg_H} (hs : eg_stt h) : eg_P h 54 15 = some 5 := hs.2.2 (54, 15, 5) (List.mem_of_getElem? (i := 46) rfl)
theorem rf_54_16 {h : eg_H} (hs : eg_stt h) : eg_P h 54 16 = some 6 := hs.2.2 (54, 16, 6) (List.mem_of_getElem? (i := 47) rfl)
theorem rf_54_18 {h : eg_H} (hs : eg_stt h) : eg_P h 54 18 = some 59 := hs.2.2 (54, 18, 59) (List.mem_of_getElem? (i := 48) rfl)
theorem rf_54_19 {h : eg_H} (hs : eg_stt h) : eg_P h 54 19 = some 60 := hs.2.2 (54, 19, 60) (List.mem_of_getElem? (i := 49) rfl)
theorem rf_54_20 {h : eg_H} (hs : eg_stt h) : eg_P h 54 20 = some 61 := hs.2.2 (54, 20, 61) (List.mem_of_getElem? (i := 50) rfl)
theorem rf_54_21 {h : eg_H} (hs : eg_stt h) : eg_P h 54 21 = some 62 := hs.2.2 (54, 21, 62) (List.mem_of_getElem? (i := 51) rfl)
theorem rf_54_22 {h : eg_H} (hs : eg_stt h) : eg_P h 54 22 = some 63 := hs.2.2 (54, 22, 63) (List.mem_of_getElem? (i := 52) rfl)
theorem rf_54_23 {h : eg_H} (hs : eg_stt h) : eg_P h 54 23 = some 64 := hs.2.2 (54, 23, 64) (List.mem_of_getElem? (i := 53) rfl)
theorem rf_54_29 {h : eg_H} (hs : eg_stt h) : eg_P h 54 29 = some 65 := hs.2.2 (54, 29, 65) (List.mem_of_getElem? (i := 54) rfl)
theorem rf_54_30 {h : eg_H} (hs : eg_stt h) : eg_P h 54 30 = some 66 := hs.2.2 (54, 30, 66) (List.mem_of_getElem? (i := 55) rfl)
theorem rf_54_31 {h : eg_H} (hs : eg_stt h) : eg_P h 54 31 = some 67 := hs.2.2 (54, 31, 67) (List.mem_of_getElem? (i := 56) rfl)
theorem rf_54_35 {h : eg_H} (hs : eg_stt h) : eg_P h 54 35 = some 68 := hs.2.2 (54, 35, 68) (List.mem_of_getElem? (i := 57) rfl)
theorem rf_54_39 {h : eg_H} (hs : eg_stt h) : eg_P h 54 39 = some 69 := hs.2.2 (54, 39, 69) (List.mem_of_getElem? (i := 58) rfl)
theorem rf_54_42 {h : eg_H} (hs : eg_stt h) : eg_P h 54 42 = some 70 := hs.2.2 (54, 42, 70) (List.mem_of_getElem? (i := 59) rfl)
theorem rf_54_43 {h : eg_H} (hs : eg_stt h) : eg_P h 54 43 = some 71 := hs.2.2 (54, 43, 71) (List.mem_of_getElem? (i := 60) rfl)
theorem rf_54_46 {h : eg_H} (hs : eg_stt h) : eg_P h 54 46 = some 72 := hs.2.2 (54, 46, 72) (List.mem_of_getElem? (i := 61) rfl)
theorem rf_54_47 {h : eg_H} (hs : eg_stt h) : eg_P h 54 47 = some 73 := hs.2.2 (54, 47, 73) (List.mem_of_getElem? (i := 62) rfl)
theorem rf_54_48 {h : eg_H} (hs : eg_stt h) : eg_P h 54 48 = some 74 := hs.2.2 (54, 48, 74) (List.mem_of_getElem? (i := 63) rfl)
theorem rf_54_50 {h : eg_H} (hs : eg_stt h) : eg_P h 54 50 = some 75 := hs.2.2 (54, 50, 75) (List.mem_of_getElem? (i := 64) rfl)
theorem rf_54_51 {h : eg_H} (hs : eg_stt h) : eg_P h 54 51 = some 76 := hs.2.2 (54, 51, 76) (List.mem_of_getElem? (i := 65) rfl)
theorem rf_54_52 {h : eg_H} (hs : eg_stt h) : eg_P h 54 52 = some 77 := hs.2.2 (54, 52, 77) (List.mem_of_getElem? (i := 66) rfl)
theorem rf_54_53 {h : eg_H} (hs : eg_stt h) : eg_P h 54 53 = some 78 := hs.2.2 (54, 53, 78) (List.mem_of_getElem? (i := 67) rfl)
theorem rf_54_56 {h : eg_H} (hs : eg_stt h) : eg_P h 54 56 = some 79 := hs.2.2 (54, 56, 79) (List.mem_of_getElem? (i := 68) rfl)
theorem rf_54_57 {h : eg_H} (hs : eg_stt h) : eg_P h 54 57 = some 80 := hs.2.2 (54, 57, 80) (List.mem_of_getElem? (i := 69) rfl)
theorem rf_54_58 {h : eg_H} (hs : eg_stt h) : eg_P h 54 58 = some 81 := hs.2.2 (54, 58, 81) (List.mem_of_getElem? (i := 70) rfl)
theorem rf_54_61 {h : eg_H} (hs : eg_stt h) : eg_P h 54 61 = some 82 := hs.2.2 (54, 61, 82) (List.mem_of_getElem? (i := 71) rfl)
theorem rf_54_62 {h : eg_H} (hs : eg_stt h) : eg_P h 54 62 = some 83 := hs.2.2 (54, 62, 83) (List.mem_of_getElem? (i := 72) rfl)
theorem rf_54_63 {h : eg_H} (hs : eg_stt h) : eg_P h 54 63 = some 84 := hs.2.2 (54, 63, 84) (List.mem_of_getElem? (i := 73) rfl)
theorem rf_54_64 {h : eg_H} (hs : eg_stt h) : eg_P h 54 64 = some 85 := hs.2.2 (54, 64, 85) (List.mem_of_getElem? (i := 74) rfl)
theorem rf_54_66 {h : eg_H} (hs : eg_stt h) : eg_P h 54 66 = some 86 := hs.2.2 (54, 66, 86) (List.mem_of_getElem? (i := 75) rfl)
theorem rf_54_69 {h : eg_H} (hs : eg_stt h) : eg_P h 54 69 = some 87 := hs.2.2 (54, 69, 87) (List.mem_of_getElem? (i := 76) rfl)
theorem rf_54_70 {h : eg_H} (hs : eg_stt h) : eg_P h 54 70 = some 88 := hs.2.2 (54, 70, 88) (List.mem_of_getElem? (i := 77) rfl)
theorem rf_54_71 {h : eg_H} (hs : eg_stt h) : eg_P h 54 71 = some 89 := hs.2.2 (54, 71, 89) (List.mem_of_getElem? (i := 78) rfl)
theorem rf_54_73 {h : eg_H} (hs : eg_stt h) : eg_P h 54 73 = some 90 := hs.2.2 (54, 73, 90) (List.mem_of_getElem? (i := 79) rfl)
theorem rf_54_74 {h : eg_H} (hs : eg_stt h) : eg_P h 54 74 = some 91 := hs.2.2 (54, 74, 91) (List.mem_of_getElem? (i := 80) rfl)
theorem rf_54_75 {h : eg_H} (hs : eg_stt h) : eg_P h 54 75 = some 92 := hs.2.2 (54, 75, 92) (List.mem_of_getElem? (i := 81) rfl)
theorem rf_54_76 {h : eg_H} (hs : eg_stt h) : eg_P h 54 76 = some 93 := hs.2.2 (54, 76, 93) (List.mem_of_getElem? (i := 82) rfl)
theorem rf_40_0 {h : eg_H} (hs : eg_stt h) : eg_P h 40 0 = some 41 := hs.2.2 (40, 0, 41) (List.mem_of_getElem? (i := 83) rfl)
theorem rf_40_1 {h : eg_H} (hs : eg_stt h) : eg_P h 40 1 = some 43 := hs.2.2 (40, 1, 43) (List.mem_of_getElem? (i := 84) rfl)
theorem rf_40_2 {h : eg_H} (hs : eg_stt h) : eg_P h 40 2 = some 45 := hs.2.2 (40, 2, 45) (List.mem_of_getElem? (i := 85) rfl)
