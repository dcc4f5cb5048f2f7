def eg_s1 (σ : eg_S) (k v : Nat) : eg_S := (fun j => if j = k then v else σ.1 j, σ.2)
def eg_s2 (σ : eg_S) (a i : Nat) (x : Int32) : eg_S := (σ.1, eg_up σ.2 a i x)
def tapeX (σ : eg_S) (h : eg_H) : Prop := eg_I h 17 1 = nI (σ.1 0) ∧ ∀ i, i < σ.1 0 → eg_I h 18 i = σ.2 0 i
def tapeM (σ : eg_S) (h : eg_H) : Prop := eg_I h 54 6 = nI (σ.1 0) ∧ ∀ i, i < σ.1 0 → eg_I h 55 i = (σ.2 0 i).toInt8.toInt32
def tapeB (σ : eg_S) : Prop := σ.1 0 ≤ 160 ∧ ∀ i, i < σ.1 0 → ∃ b, 1 ≤ b ∧ b < 256 ∧ σ.2 0 i = nI b
def st_ap (σ : eg_S) (b : Nat) : eg_S := if b = 0 then σ else eg_s1 (eg_s2 σ 0 (σ.1 0) (nI b)) 0 (σ.1 0 + 1)
theorem ap_0 (σ : eg_S) : st_ap σ 0 = σ := if_pos rfl
theorem ap_len (σ : eg_S) (b : Nat) : (st_ap σ b).1 0 = σ.1 0 + (if b = 0 then 0 else 1) := by
  unfold st_ap
  by_cases hb : b = 0
  · simp [hb]
  · simp [hb, eg_s1]
theorem ap_B {σ : eg_S} {b : Nat} (h : tapeB σ) (hb : b < 256) (hr : b ≠ 0 → σ.1 0 < 160) : tapeB (st_ap σ b) := by
  by_cases h0 : b = 0
  · subst h0; rw [ap_0]; exact h
  · have hr := hr h0
    refine ⟨by rw [ap_len]; simp [h0]; omega, fun i hi => ?_⟩
    rw [ap_len, if_neg h0] at hi
    unfold st_ap
    rw [if_neg h0]
    show ∃ c, 1 ≤ c ∧ c < 256 ∧ eg_up σ.2 0 (σ.1 0) (nI b) 0 i = nI c
    by_cases hi2 : i = σ.1 0
    · subst hi2
      exact ⟨b, by omega, hb, eg_up_at⟩
    · rw [eg_up_j hi2]
      exact h.2 i (by omega)
def SX_tape : List (Nat × Option Nat) := [(17, some 1), (18, none)]
def SM_tape : List (Nat × Option Nat) := [(54, some 0), (54, some 6), (55, none)]
theorem nI_ne_0 {b : Nat} (hb : b < 256) (h0 : b ≠ 0) : ¬ nI b = 0 := nI_ne0 (by omega) (by omega)
theorem X_put_it {h : eg_H} {σ : eg_S} {n b : Nat} {w s : Int32} (hs : eg_stt h) (hX : tapeX σ h) (hb : (w.toUInt32 >>> (s.toUInt32 &&& Int32.toUInt32 31)).toInt32 &&& (255 : Int32) = nI b) (hb2 : b < 256) (hr : b ≠ 0 → σ.1 0 < 160) (hs0 : ¬ s < 0) :
    ∃ h', fX10_put_L3 (n + 1) h 17 w s = fX10_put_L3 n h' 17 w (s + (-8)) ∧ tapeX (st_ap σ b) h' ∧ eg_eq SX_tape h h' := by
  by_cases h0 : b = 0
  · subst h0
    refine ⟨h, ?_, by rw [ap_0]; exact hX, eq_rfl⟩
    rw [fX10_put_L3, if_neg hs0, hb]
    rfl
  · have hr := hr h0
    refine ⟨eg_sI (eg_sI h 18 (σ.1 0) (nI b)) 17 1 (nI (σ.1 0) + 1), ?_, ?_, ?_⟩
    · have hin : (nI (σ.1 0)).toNatClampNeg = σ.1 0 := nI_clamp (by omega)
      have e1 : eg_wI h 100 18 (nI (σ.1 0)) (nI b) = some (eg_sI h 18 (σ.1 0) (nI b)) := by
        rw [wI_18 hs (nI_pos (by omega)) (by rw [hin]; exact hr), hin]
      have hs2 : eg_stt (eg_sI h 18 (σ.1 0) (nI b)) := hs
      rw [fX10_put_L3, if_neg hs0, hb, Option.bind_some, if_neg (nI_ne_0 hb2 h0), gI_17 hs, Option.bind_some, hX.1, gR_17 hs, rf_17_0 hs, Option.bind_some, al_18 hs, Option.bind_some, if_neg (nI_ge hr (by decide)), Option.bind_some, Option.bind_some, e1, Option.bind_some, gI_17 hs2, Option.bind_some, pI_17 hs2, Option.bind_some, I_sI, if_neg (by omega), hX.1]
    · unfold st_ap
      rw [if_neg h0]
      refine ⟨?_, fun i hi => ?_⟩
      · rw [I_sI, if_pos ⟨rfl, rfl⟩, nI_1]
        rfl
      · have hi : i < σ.1 0 + 1 := hi
        show eg_I (eg_sI h 18 (σ.1 0) (nI b)) 18 i = eg_up σ.2 0 (σ.1 0) (nI b) 0 i
        rw [I_sI]
        by_cases hi2 : i = σ.1 0
        · subst hi2
          rw [if_pos ⟨rfl, rfl⟩, eg_up_at]
        · rw [if_neg (fun z => hi2 z.2), eg_up_j hi2]
          exact hX.2 i (by omega)
    · exact eq_sI (eq_sI eq_rfl rfl) rfl
theorem M_put_it {h : eg_H} {σ : eg_S} {n b : Nat} {w s : Int32} (hs : eg_stt h) (hX : tapeM σ h) (hb : (w >>> (s &&& 31)) &&& (255 : Int32) = nI b) (hb2 : b < 256) (hr : b ≠ 0 → σ.1 0 < 160) (hs0 : ¬ s < 0) :
    ∃ h', fX13_put_L3 (n + 1) h 54 w s = fX13_put_L3 n h' 54 w (s + (-8)) ∧ tapeM (st_ap σ b) h' ∧ eg_eq SM_tape h h' := by
  by_cases h0 : b = 0
  · subst h0
    refine ⟨h, ?_, by rw [ap_0]; exact hX, eq_rfl⟩
    rw [fX13_put_L3, if_neg hs0, hb]
    rfl
  · have hr := hr h0
    have e8 := by_8 _ hb hb2
    refine ⟨eg_sI (eg_sI h 55 (σ.1 0) ((nI b).toInt8.toInt32)) 54 6 (nI (σ.1 0) + 1), ?_, ?_, ?_⟩
    · have hin : (nI (σ.1 0)).toNatClampNeg = σ.1 0 := nI_clamp (by omega)
      have e1 : eg_wI h 102 55 (nI (σ.1 0)) ((nI b).toInt8.toInt32) = some (eg_sI h 55 (σ.1 0) ((nI b).toInt8.toInt32)) := by
        rw [wI_55 hs (nI_pos (by omega)) (by rw [hin]; exact hr), hin]
      have hs2 : eg_stt (eg_sI h 55 (σ.1 0) ((nI b).toInt8.toInt32)) := hs
      rw [fX13_put_L3, if_neg hs0, hb, if_neg (nI_ne_0 hb2 h0), gR_54 hs, rf_54_1 hs, Option.bind_some, gI_54 hs, Option.bind_some, hX.1, pk_vb, e8, e1, Option.bind_some, gI_54 hs2, Option.bind_some, pI_54 hs2, Option.bind_some, I_sI, if_neg (by omega), hX.1]
    · unfold st_ap
      rw [if_neg h0]
      refine ⟨?_, fun i hi => ?_⟩
      · rw [I_sI, if_pos ⟨rfl, rfl⟩, nI_1]
        rfl
      · have hi : i < σ.1 0 + 1 := hi
        show eg_I (eg_sI h 55 (σ.1 0) ((nI b).toInt8.toInt32)) 55 i = (eg_up σ.2 0 (σ.1 0) (nI b) 0 i).toInt8.toInt32
        rw [I_sI]
        by_cases hi2 : i = σ.1 0
        · subst hi2
          rw [if_pos ⟨rfl, rfl⟩, eg_up_at]
        · rw [if_neg (fun z => hi2 z.2), eg_up_j hi2]
          exact hX.2 i (by omega)
    · exact eq_sI (eq_sI eq_rfl rfl) rfl
def st_put (σ : eg_S) (w : Int32) : eg_S := st_ap (st_ap (st_ap (st_ap σ (eg_by w 24)) (eg_by w 16)) (eg_by w 8)) (eg_by w 0)
def eg_n1 (b : Nat) : Nat := if b = 0 then 0 else 1
def eg_cnt (w : Int32) : Nat := eg_n1 (eg_by w 24) + eg_n1 (eg_by w 16) + eg_n1 (eg_by w 8) + eg_n1 (eg_by w 0)
theorem n1_le (b : Nat) : eg_n1 b ≤ 1 := by unfold eg_n1; split <;> omega
theorem n1_ne {b : Nat} (h : b ≠ 0) : eg_n1 b = 1 := if_neg h
theorem put_len (σ : eg_S) (w : Int32) : (st_put σ w).1 0 = σ.1 0 + eg_cnt w := by
  unfold st_put
  rw [ap_len, ap_len, ap_len, ap_len]
  unfold eg_cnt eg_n1
  omega
theorem put_B {σ : eg_S} {w : Int32} (h : tapeB σ) (hr : σ.1 0 + eg_cnt w ≤ 160) : tapeB (st_put σ w) := by
  unfold eg_cnt at hr
  have l1 := ap_len σ (eg_by w 24)
  have l2 := ap_len (st_ap σ (eg_by w 24)) (eg_by w 16)
  have l3 := ap_len (st_ap (st_ap σ (eg_by w 24)) (eg_by w 16)) (eg_by w 8)
  change _ = _ + eg_n1 _ at l1 l2 l3
  have q1 := n1_le (eg_by w 24)
  refine ap_B (ap_B (ap_B (ap_B h (eg_by_lt _ _) (fun z => ?_)) (eg_by_lt _ _) (fun z => ?_)) (eg_by_lt _ _) (fun z => ?_)) (eg_by_lt _ _) (fun z => ?_)
  · have := n1_ne z; omega
  · have := n1_ne z; omega
  · have := n1_ne z; omega
  · have := n1_ne z; omega
theorem SXt_stt {h h' : eg_H} (a : eg_eq SX_tape h h') (hs : eg_stt h) : eg_stt h' := eq_stt a hs (by decide)
theorem SMt_stt {h h' : eg_H} (a : eg_eq SM_tape h h') (hs : eg_stt h) : eg_stt h' := eq_stt a hs (by decide)
theorem X_put {h : eg_H} {σ : eg_S} {w : Int32} (hs : eg_stt h) (hX : tapeX σ h) (hr : σ.1 0 + eg_cnt w ≤ 160) : ∃ h', fX10_put h 17 w = some h' ∧ tapeX (st_put σ w) h' ∧ eg_eq SX_tape h h' := by
  unfold eg_cnt at hr
  have l1 := ap_len σ (eg_by w 24)
  have l2 := ap_len (st_ap σ (eg_by w 24)) (eg_by w 16)
  have l3 := ap_len (st_ap (st_ap σ (eg_by w 24)) (eg_by w 16)) (eg_by w 8)
  change _ = _ + eg_n1 _ at l1 l2 l3
  obtain ⟨h1, e1, t1, g1⟩ := X_put_it (n := 4999) (s := 24) hs hX (by_x w 24 24 (by decide)) (eg_by_lt _ _) (fun z => by have := n1_ne z; omega) (by decide)
  have s1 := SXt_stt g1 hs
  obtain ⟨h2, e2, t2, g2⟩ := X_put_it (n := 4998) (s := 16) s1 t1 (by_x w 16 16 (by decide)) (eg_by_lt _ _) (fun z => by have := n1_ne z; omega) (by decide)
  have s2 := SXt_stt g2 s1
  obtain ⟨h3, e3, t3, g3⟩ := X_put_it (n := 4997) (s := 8) s2 t2 (by_x w 8 8 (by decide)) (eg_by_lt _ _) (fun z => by have := n1_ne z; omega) (by decide)
  have s3 := SXt_stt g3 s2
  obtain ⟨h4, e4, t4, g4⟩ := X_put_it (n := 4996) (s := 0) s3 t3 (by_x w 0 0 (by decide)) (eg_by_lt _ _) (fun z => by have := n1_ne z; omega) (by decide)
  refine ⟨h4, ?_, t4, eq_tr g1 (eq_tr g2 (eq_tr g3 g4))⟩
  unfold fX10_put
  rw [if_pos (iO_17 hs), show eg_F = 4999 + 1 from rfl, e1, show (24 : Int32) + (-8) = 16 from by decide, show 4999 = 4998 + 1 from rfl, e2, show (16 : Int32) + (-8) = 8 from by decide, show 4998 = 4997 + 1 from rfl, e3, show (8 : Int32) + (-8) = 0 from by decide, show 4997 = 4996 + 1 from rfl, e4, show 4996 = 4995 + 1 from rfl, fX10_put_L3, if_pos (by decide)]
  rfl
theorem M_put {h : eg_H} {σ : eg_S} {w : Int32} (hs : eg_stt h) (hX : tapeM σ h) (hr : σ.1 0 + eg_cnt w ≤ 160) : ∃ h', fX13_put h 54 w = some h' ∧ tapeM (st_put σ w) h' ∧ eg_eq SM_tape h h' := by
  unfold eg_cnt at hr
  have l1 := ap_len σ (eg_by w 24)
  have l2 := ap_len (st_ap σ (eg_by w 24)) (eg_by w 16)
  have l3 := ap_len (st_ap (st_ap σ (eg_by w 24)) (eg_by w 16)) (eg_by w 8)
  change _ = _ + eg_n1 _ at l1 l2 l3
  obtain ⟨h1, e1, t1, g1⟩ := M_put_it (n := 4999) (s := 24) hs hX (by_m24 w) (eg_by_lt _ _) (fun z => by have := n1_ne z; omega) (by decide)
  have s1 := SMt_stt g1 hs
  obtain ⟨h2, e2, t2, g2⟩ := M_put_it (n := 4998) (s := 16) s1 t1 (by_m16 w) (eg_by_lt _ _) (fun z => by have := n1_ne z; omega) (by decide)
  have s2 := SMt_stt g2 s1
  obtain ⟨h3, e3, t3, g3⟩ := M_put_it (n := 4997) (s := 8) s2 t2 (by_m8 w) (eg_by_lt _ _) (fun z => by have := n1_ne z; omega) (by decide)
  have s3 := SMt_stt g3 s2
  obtain ⟨h4, e4, t4, g4⟩ := M_put_it (n := 4996) (s := 0) s3 t3 (by_m0 w) (eg_by_lt _ _) (fun z => by have := n1_ne z; omega) (by decide)
  refine ⟨h4, ?_, t4, eq_tr g1 (eq_tr g2 (eq_tr g3 g4))⟩
  unfold fX13_put
  rw [if_pos (iO_54 hs), show eg_F = 4999 + 1 from rfl, e1, show (24 : Int32) + (-8) = 16 from by decide, show 4999 = 4998 + 1 from rfl, e2, show (16 : Int32) + (-8) = 8 from by decide, show 4998 = 4997 + 1 from rfl, e3, show (8 : Int32) + (-8) = 0 from by decide, show 4997 = 4996 + 1 from rfl, e4, show 4996 = 4995 + 1 from rfl, fX13_put_L3, if_pos (by decide)]
  rfl
