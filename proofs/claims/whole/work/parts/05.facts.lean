theorem eg_all {ws : List Cond} {ps : List Nat} (hp : ws = ps.filterMap (fun i => lw_tbl[i]?)) (hg : ws.all goodWord = true) {w : Cond} (hw : w ∈ ws) : w ∈ eg_G := by
  have h1 := List.all_eq_true.mp hg w hw
  rw [hp] at hw
  obtain ⟨i, -, hi⟩ := List.mem_filterMap.mp hw
  exact eg_in hi h1
def eg_T (c : Nat) : u_T := match c with
  | 0 => TX0
  | 1 => TX1
  | 2 => TX2
  | 3 => TX3
  | 4 => TX4
  | 5 => TX5
  | 6 => TX6
  | 7 => TX7
  | 8 => TX8
  | 9 => TX9
  | 10 => TX10
  | 11 => TX11
  | 12 => TX12
  | _ => TX13
def eg_R (c : Nat) : String := match c with
  | 0 => RX0
  | 1 => RX1
  | 2 => RX2
  | 3 => RX3
  | 4 => RX4
  | 5 => RX5
  | 6 => RX6
  | 7 => RX7
  | 8 => RX8
  | 9 => RX9
  | 10 => RX10
  | 11 => RX11
  | 12 => RX12
  | _ => RX13
def eg_nf (c : Nat) : Nat := match c with
  | 0 => 4
  | 1 => 3
  | 2 => 5
  | 3 => 2
  | 4 => 2
  | 5 => 3
  | 6 => 3
  | 7 => 3
  | 8 => 5
  | 9 => 12
  | 10 => 5
  | 11 => 10
  | 12 => 19
  | _ => 79
theorem eg_clat : ∀ c, c < 14 → eg_cl[c]? = some (eg_R c, eg_T c, eg_nf c) := by
  intro c hc
  match c, hc with
  | 0, _ => exact rfl
  | 1, _ => exact rfl
  | 2, _ => exact rfl
  | 3, _ => exact rfl
  | 4, _ => exact rfl
  | 5, _ => exact rfl
  | 6, _ => exact rfl
  | 7, _ => exact rfl
  | 8, _ => exact rfl
  | 9, _ => exact rfl
  | 10, _ => exact rfl
  | 11, _ => exact rfl
  | 12, _ => exact rfl
  | 13, _ => exact rfl
  | _ + 14, hc => omega
theorem eg_tyok : ∀ c, c < 14 → ∀ k, k < eg_nf c → parseFieldDescriptor (eg_T c k).2.2.1 = some (eg_ty c k) := by
  intro c hc
  match c, hc with
  | 0, _ => exact tyX0_ok
  | 1, _ => exact tyX1_ok
  | 2, _ => exact tyX2_ok
  | 3, _ => exact tyX3_ok
  | 4, _ => exact tyX4_ok
  | 5, _ => exact tyX5_ok
  | 6, _ => exact tyX6_ok
  | 7, _ => exact tyX7_ok
  | 8, _ => exact tyX8_ok
  | 9, _ => exact tyX9_ok
  | 10, _ => exact tyX10_ok
  | 11, _ => exact tyX11_ok
  | 12, _ => exact tyX12_ok
  | 13, _ => exact tyX13_ok
  | _ + 14, hc => omega
theorem eg_nmok : ∀ c, c < 14 → ∀ a, a < eg_nf c → ∀ b, b < eg_nf c → a ≠ b → (eg_T c a).2.1 ≠ (eg_T c b).2.1 := by
  intro c hc
  match c, hc with
  | 0, _ => exact nmX0
  | 1, _ => exact nmX1
  | 2, _ => exact nmX2
  | 3, _ => exact nmX3
  | 4, _ => exact nmX4
  | 5, _ => exact nmX5
  | 6, _ => exact nmX6
  | 7, _ => exact nmX7
  | 8, _ => exact nmX8
  | 9, _ => exact nmX9
  | 10, _ => exact nmX10
  | 11, _ => exact nmX11
  | 12, _ => exact nmX12
  | 13, _ => exact nmX13
  | _ + 14, hc => omega
theorem eg_uw0p : u_ws RX0 TX0 4 = ([280, 282, 284, 286] : List Nat).filterMap (fun i => lw_tbl[i]?) := by decide +kernel
theorem eg_uw0g : (u_ws RX0 TX0 4).all goodWord = true := by decide +kernel
theorem eg_uw0 : ∀ w ∈ u_ws RX0 TX0 4, w ∈ eg_G := fun w hw => eg_all eg_uw0p eg_uw0g hw
theorem eg_uw1p : u_ws RX1 TX1 3 = ([224, 226, 228] : List Nat).filterMap (fun i => lw_tbl[i]?) := by decide +kernel
theorem eg_uw1g : (u_ws RX1 TX1 3).all goodWord = true := by decide +kernel
theorem eg_uw1 : ∀ w ∈ u_ws RX1 TX1 3, w ∈ eg_G := fun w hw => eg_all eg_uw1p eg_uw1g hw
theorem eg_uw2p : u_ws RX2 TX2 5 = ([301, 303, 305, 307, 309] : List Nat).filterMap (fun i => lw_tbl[i]?) := by decide +kernel
theorem eg_uw2g : (u_ws RX2 TX2 5).all goodWord = true := by decide +kernel
theorem eg_uw2 : ∀ w ∈ u_ws RX2 TX2 5, w ∈ eg_G := fun w hw => eg_all eg_uw2p eg_uw2g hw
theorem eg_uw3p : u_ws RX3 TX3 2 = ([686, 688] : List Nat).filterMap (fun i => lw_tbl[i]?) := by decide +kernel
theorem eg_uw3g : (u_ws RX3 TX3 2).all goodWord = true := by decide +kernel
theorem eg_uw3 : ∀ w ∈ u_ws RX3 TX3 2, w ∈ eg_G := fun w hw => eg_all eg_uw3p eg_uw3g hw
theorem eg_uw4p : u_ws RX4 TX4 2 = ([850, 852] : List Nat).filterMap (fun i => lw_tbl[i]?) := by decide +kernel
theorem eg_uw4g : (u_ws RX4 TX4 2).all goodWord = true := by decide +kernel
theorem eg_uw4 : ∀ w ∈ u_ws RX4 TX4 2, w ∈ eg_G := fun w hw => eg_all eg_uw4p eg_uw4g hw
theorem eg_uw5p : u_ws RX5 TX5 3 = ([666, 668, 670] : List Nat).filterMap (fun i => lw_tbl[i]?) := by decide +kernel
theorem eg_uw5g : (u_ws RX5 TX5 3).all goodWord = true := by decide +kernel
theorem eg_uw5 : ∀ w ∈ u_ws RX5 TX5 3, w ∈ eg_G := fun w hw => eg_all eg_uw5p eg_uw5g hw
theorem eg_uw6p : u_ws RX6 TX6 3 = ([188, 190, 192] : List Nat).filterMap (fun i => lw_tbl[i]?) := by decide +kernel
theorem eg_uw6g : (u_ws RX6 TX6 3).all goodWord = true := by decide +kernel
theorem eg_uw6 : ∀ w ∈ u_ws RX6 TX6 3, w ∈ eg_G := fun w hw => eg_all eg_uw6p eg_uw6g hw
theorem eg_uw7p : u_ws RX7 TX7 3 = ([204, 206, 208] : List Nat).filterMap (fun i => lw_tbl[i]?) := by decide +kernel
theorem eg_uw7g : (u_ws RX7 TX7 3).all goodWord = true := by decide +kernel
theorem eg_uw7 : ∀ w ∈ u_ws RX7 TX7 3, w ∈ eg_G := fun w hw => eg_all eg_uw7p eg_uw7g hw
theorem eg_uw8p : u_ws RX8 TX8 5 = ([168, 170, 172, 174, 176] : List Nat).filterMap (fun i => lw_tbl[i]?) := by decide +kernel
theorem eg_uw8g : (u_ws RX8 TX8 5).all goodWord = true := by decide +kernel
theorem eg_uw8 : ∀ w ∈ u_ws RX8 TX8 5, w ∈ eg_G := fun w hw => eg_all eg_uw8p eg_uw8g hw
theorem eg_uw9p : u_ws RX9 TX9 12 = ([330, 332, 334, 336, 338, 340, 342, 344, 346, 348, 350, 352] : List Nat).filterMap (fun i => lw_tbl[i]?) := by decide +kernel
theorem eg_uw9g : (u_ws RX9 TX9 12).all goodWord = true := by decide +kernel
theorem eg_uw9 : ∀ w ∈ u_ws RX9 TX9 12, w ∈ eg_G := fun w hw => eg_all eg_uw9p eg_uw9g hw
theorem eg_uw10p : u_ws RX10 TX10 5 = ([145, 147, 149, 151, 153] : List Nat).filterMap (fun i => lw_tbl[i]?) := by decide +kernel
theorem eg_uw10g : (u_ws RX10 TX10 5).all goodWord = true := by decide +kernel
theorem eg_uw10 : ∀ w ∈ u_ws RX10 TX10 5, w ∈ eg_G := fun w hw => eg_all eg_uw10p eg_uw10g hw
theorem eg_uw11p : u_ws RX11 TX11 10 = ([247, 249, 251, 253, 255, 257, 259, 261, 263, 265] : List Nat).filterMap (fun i => lw_tbl[i]?) := by decide +kernel
theorem eg_uw11g : (u_ws RX11 TX11 10).all goodWord = true := by decide +kernel
theorem eg_uw11 : ∀ w ∈ u_ws RX11 TX11 10, w ∈ eg_G := fun w hw => eg_all eg_uw11p eg_uw11g hw
theorem eg_uw12p : u_ws RX12 TX12 19 = ([375, 377, 379, 381, 383, 385, 387, 389, 391, 393, 395, 397, 399, 401, 403, 405, 407, 409, 411] : List Nat).filterMap (fun i => lw_tbl[i]?) := by decide +kernel
theorem eg_uw12g : (u_ws RX12 TX12 19).all goodWord = true := by decide +kernel
theorem eg_uw12 : ∀ w ∈ u_ws RX12 TX12 19, w ∈ eg_G := fun w hw => eg_all eg_uw12p eg_uw12g hw
theorem eg_uw13p : u_ws RX13 TX13 79 = ([1513, 1515, 1517, 1519, 1521, 1523, 1525, 1527, 1529, 1531, 1533, 1535, 1537, 1539, 1541, 1543, 1545, 1547, 1549, 1551, 1553, 1555, 1557, 1559, 1561, 1563, 1565, 1567, 1569, 1571, 1573, 1575, 1577, 1579, 1581, 1583, 1585, 1587, 1589, 1591, 1593, 1595, 1597, 1599, 1601, 1603, 1605, 1607, 1609, 1611, 1613, 1615, 1617, 1619, 1621, 1623, 1625, 1627, 1629, 1631, 1633, 1635, 1637, 1639, 1641, 1643, 1645, 1647, 1649, 1651, 1653, 1655, 1657, 1659, 1661, 1663, 1665, 1667, 1669] : List Nat).filterMap (fun i => lw_tbl[i]?) := by decide +kernel
theorem eg_uw13g : (u_ws RX13 TX13 79).all goodWord = true := by decide +kernel
theorem eg_uw13 : ∀ w ∈ u_ws RX13 TX13 79, w ∈ eg_G := fun w hw => eg_all eg_uw13p eg_uw13g hw
theorem eg_uw : ∀ c, c < 14 → ∀ w ∈ u_ws (eg_R c) (eg_T c) (eg_nf c), w ∈ eg_G := by
  intro c hc
  match c, hc with
  | 0, _ => exact eg_uw0
  | 1, _ => exact eg_uw1
  | 2, _ => exact eg_uw2
  | 3, _ => exact eg_uw3
  | 4, _ => exact eg_uw4
  | 5, _ => exact eg_uw5
  | 6, _ => exact eg_uw6
  | 7, _ => exact eg_uw7
  | 8, _ => exact eg_uw8
  | 9, _ => exact eg_uw9
  | 10, _ => exact eg_uw10
  | 11, _ => exact eg_uw11
  | 12, _ => exact eg_uw12
  | 13, _ => exact eg_uw13
  | _ + 14, hc => omega
theorem eg_dfl : ∀ c, c < 14 → ∀ j, j < eg_nf c → defaultValue (eg_ty c j) = (if eg_ft c j = 0 then Value.int 0 else if eg_ft c j = 1 then Value.long 0 else Value.null) := by
  intro c hc
  match c, hc with
  | 0, _ => exact (by decide +kernel)
  | 1, _ => exact (by decide +kernel)
  | 2, _ => exact (by decide +kernel)
  | 3, _ => exact (by decide +kernel)
  | 4, _ => exact (by decide +kernel)
  | 5, _ => exact (by decide +kernel)
  | 6, _ => exact (by decide +kernel)
  | 7, _ => exact (by decide +kernel)
  | 8, _ => exact (by decide +kernel)
  | 9, _ => exact (by decide +kernel)
  | 10, _ => exact (by decide +kernel)
  | 11, _ => exact (by decide +kernel)
  | 12, _ => exact (by decide +kernel)
  | 13, _ => exact (by decide +kernel)
  | _ + 14, hc => omega
