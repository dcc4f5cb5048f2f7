theorem X_bi_it {h : eg_H} {n b a : Nat} {w s : Int32} (hb : (w.toUInt32 >>> (s.toUInt32 &&& Int32.toUInt32 31)).toInt32 &&& (255 : Int32) = nI b) (hb2 : b < 256) (hs0 : ¬ s < 0) :
    fX10_bytesIn_L5 (n + 1) h w (nI a) s = fX10_bytesIn_L5 n h w (nI (a + eg_n1 b)) (s + (-8)) := by
  rw [fX10_bytesIn_L5, if_neg hs0, hb]
  by_cases h0 : b = 0
  · subst h0
    rw [if_pos nI_0]
    rfl
  · rw [if_neg (nI_ne_0 hb2 h0), n1_ne h0, nI_1]
theorem M_bi_it {h : eg_H} {n b a : Nat} {w s : Int32} (hb : (w >>> (s &&& 31)) &&& (255 : Int32) = nI b) (hb2 : b < 256) (hs0 : ¬ s < 0) :
    fX13_bytesIn_L5 (n + 1) h w (nI a) s = fX13_bytesIn_L5 n h w (nI (a + eg_n1 b)) (s + (-8)) := by
  rw [fX13_bytesIn_L5, if_neg hs0, hb]
  by_cases h0 : b = 0
  · subst h0
    rw [if_pos nI_0, Option.bind_some, Int32.add_zero]
    rfl
  · rw [if_neg (nI_ne_0 hb2 h0), n1_ne h0, Option.bind_some, nI_1]
theorem X_bi {h : eg_H} {w : Int32} (hs : eg_stt h) : fX10_bytesIn h 17 w = some (nI (eg_cnt w), h) := by
  unfold fX10_bytesIn
  rw [if_pos (iO_17 hs), show eg_F = 4999 + 1 from rfl, ← nI_0, X_bi_it (s := 24) (by_x w 24 24 (by decide)) (eg_by_lt _ _) (by decide), show (24 : Int32) + (-8) = 16 from by decide, show 4999 = 4998 + 1 from rfl, X_bi_it (s := 16) (by_x w 16 16 (by decide)) (eg_by_lt _ _) (by decide), show (16 : Int32) + (-8) = 8 from by decide, show 4998 = 4997 + 1 from rfl, X_bi_it (s := 8) (by_x w 8 8 (by decide)) (eg_by_lt _ _) (by decide), show (8 : Int32) + (-8) = 0 from by decide, show 4997 = 4996 + 1 from rfl, X_bi_it (s := 0) (by_x w 0 0 (by decide)) (eg_by_lt _ _) (by decide), show 4996 = 4995 + 1 from rfl, fX10_bytesIn_L5, if_pos (by decide)]
  show some (nI _, h) = some (nI _, h)
  unfold eg_cnt
  rw [Nat.zero_add]
theorem M_bi {h : eg_H} {w : Int32} : fX13_bytesIn h w = some (nI (eg_cnt w), h) := by
  unfold fX13_bytesIn
  rw [show eg_F = 4999 + 1 from rfl, ← nI_0, M_bi_it (s := 24) (by_m24 w) (eg_by_lt _ _) (by decide), show (24 : Int32) + (-8) = 16 from by decide, show 4999 = 4998 + 1 from rfl, M_bi_it (s := 16) (by_m16 w) (eg_by_lt _ _) (by decide), show (16 : Int32) + (-8) = 8 from by decide, show 4998 = 4997 + 1 from rfl, M_bi_it (s := 8) (by_m8 w) (eg_by_lt _ _) (by decide), show (8 : Int32) + (-8) = 0 from by decide, show 4997 = 4996 + 1 from rfl, M_bi_it (s := 0) (by_m0 w) (eg_by_lt _ _) (by decide), show 4996 = 4995 + 1 from rfl, fX13_bytesIn_L5, if_pos (by decide)]
  show some (nI _, h) = some (nI _, h)
  unfold eg_cnt
  rw [Nat.zero_add]
theorem cnt_le (w : Int32) : eg_cnt w ≤ 4 := by
  unfold eg_cnt
  have := n1_le (eg_by w 24); have := n1_le (eg_by w 16); have := n1_le (eg_by w 8); have := n1_le (eg_by w 0)
  omega
def st_feed (σ : eg_S) (a b c d e : Int32) : eg_S := st_put (st_put (st_put (st_put (st_put σ a) b) c) d) e
def feed_n (σ : eg_S) (a b c d e : Int32) : Nat := σ.1 0 + eg_cnt a + eg_cnt b + eg_cnt c + eg_cnt d + eg_cnt e
theorem feed_len (σ : eg_S) (a b c d e : Int32) : (st_feed σ a b c d e).1 0 = feed_n σ a b c d e := by
  unfold st_feed feed_n
  rw [put_len, put_len, put_len, put_len, put_len]
theorem feed_B {σ : eg_S} {a b c d e : Int32} (h : tapeB σ) (hr : feed_n σ a b c d e ≤ 160) : tapeB (st_feed σ a b c d e) := by
  unfold feed_n at hr
  refine put_B (put_B (put_B (put_B (put_B h (by omega)) ?_) ?_) ?_) ?_
  · rw [put_len]; omega
  · rw [put_len, put_len]; omega
  · rw [put_len, put_len, put_len]; omega
  · rw [put_len, put_len, put_len, put_len]; omega
theorem X_feed_yes {h : eg_H} {σ : eg_S} {a b c d e : Int32} (hs : eg_stt h) (hX : tapeX σ h) (hB : tapeB σ) (hr : feed_n σ a b c d e ≤ 160) : ∃ h', fX12_feed h 16 a b c d e = some (nI (feed_n σ a b c d e), h') ∧ tapeX (st_feed σ a b c d e) h' ∧ eg_eq SX_tape h h' := by
  have hr0 := hr
  unfold feed_n at hr0
  obtain ⟨h1, e1, t1, g1⟩ := X_put (w := a) hs hX (by omega)
  have s1 := SXt_stt g1 hs
  obtain ⟨h2, e2, t2, g2⟩ := X_put (w := b) s1 t1 (by rw [put_len]; omega)
  have s2 := SXt_stt g2 s1
  obtain ⟨h3, e3, t3, g3⟩ := X_put (w := c) s2 t2 (by rw [put_len, put_len]; omega)
  have s3 := SXt_stt g3 s2
  obtain ⟨h4, e4, t4, g4⟩ := X_put (w := d) s3 t3 (by rw [put_len, put_len, put_len]; omega)
  have s4 := SXt_stt g4 s3
  obtain ⟨h5, e5, t5, g5⟩ := X_put (w := e) s4 t4 (by rw [put_len, put_len, put_len, put_len]; omega)
  have s5 := SXt_stt g5 s4
  have q1 := cnt_le a; have q2 := cnt_le b; have q3 := cnt_le c; have q4 := cnt_le d; have q5 := cnt_le e
  refine ⟨h5, ?_, t5, eq_tr g1 (eq_tr g2 (eq_tr g3 (eq_tr g4 g5)))⟩
  have el : ∀ {h : eg_H}, eg_stt h → fX10_length h 17 = some (eg_I h 17 1, h) := fun hs => by
    unfold fX10_length
    rw [if_pos (iO_17 hs), gI_17 hs]
    rfl
  unfold fX12_feed
  rw [if_pos (iO_16 hs)]
  simp only [gR_16 hs, rf_16_0 hs, X_bi hs, Option.bind_some, nI_add, el hs, hX.1]
  rw [show (160 : Int32) = nI 160 from rfl, if_pos (nI_le (b := 160) (by omega) (by decide))]
  simp only [e1, gR_16 s1, rf_16_0 s1, e2, gR_16 s2, rf_16_0 s2, e3, gR_16 s3, rf_16_0 s3, e4, gR_16 s4, rf_16_0 s4, e5, gR_16 s5, rf_16_0 s5, el s5, Option.bind_some]
  have e9 := t5.1
  change _ = nI ((st_feed σ a b c d e).1 0) at e9
  rw [e9, feed_len]
theorem X_feed_no {h : eg_H} {σ : eg_S} {a b c d e : Int32} (hs : eg_stt h) (hX : tapeX σ h) (hB : tapeB σ) (hr : ¬ feed_n σ a b c d e ≤ 160) : fX12_feed h 16 a b c d e = some (-1, h) := by
  unfold feed_n at hr
  have q1 := cnt_le a; have q2 := cnt_le b; have q3 := cnt_le c; have q4 := cnt_le d; have q5 := cnt_le e
  have q0 := hB.1
  have el : ∀ {h : eg_H}, eg_stt h → fX10_length h 17 = some (eg_I h 17 1, h) := fun hs => by
    unfold fX10_length
    rw [if_pos (iO_17 hs), gI_17 hs]
    rfl
  unfold fX12_feed
  rw [if_pos (iO_16 hs)]
  simp only [gR_16 hs, rf_16_0 hs, X_bi hs, Option.bind_some, nI_add, el hs, hX.1]
  rw [show (160 : Int32) = nI 160 from rfl, if_neg (nI_ge (a := 160) (by omega) (by omega))]
theorem M_feed_yes {h : eg_H} {σ : eg_S} {a b c d e : Int32} (hs : eg_stt h) (hX : tapeM σ h) (hB : tapeB σ) (hr : feed_n σ a b c d e ≤ 160) : ∃ h', fX13_feed h 54 a b c d e = some (nI (feed_n σ a b c d e), h') ∧ tapeM (st_feed σ a b c d e) h' ∧ eg_eq SM_tape h h' := by
  have hr0 := hr
  unfold feed_n at hr0
  have g0 : eg_eq SM_tape h (eg_sI h 54 0 0) := eq_sI eq_rfl rfl
  have s0 : eg_stt (eg_sI h 54 0 0) := hs
  have t0 : tapeM σ (eg_sI h 54 0 0) := hX
  obtain ⟨h1, e1, t1, g1⟩ := M_put (w := a) s0 t0 (by omega)
  have s1 := SMt_stt g1 s0
  obtain ⟨h2, e2, t2, g2⟩ := M_put (w := b) s1 t1 (by rw [put_len]; omega)
  have s2 := SMt_stt g2 s1
  obtain ⟨h3, e3, t3, g3⟩ := M_put (w := c) s2 t2 (by rw [put_len, put_len]; omega)
  have s3 := SMt_stt g3 s2
  obtain ⟨h4, e4, t4, g4⟩ := M_put (w := d) s3 t3 (by rw [put_len, put_len, put_len]; omega)
  have s4 := SMt_stt g4 s3
  obtain ⟨h5, e5, t5, g5⟩ := M_put (w := e) s4 t4 (by rw [put_len, put_len, put_len, put_len]; omega)
  have s5 := SMt_stt g5 s4
  have q1 := cnt_le a; have q2 := cnt_le b; have q3 := cnt_le c; have q4 := cnt_le d; have q5 := cnt_le e
  refine ⟨h5, ?_, t5, eq_tr g0 (eq_tr g1 (eq_tr g2 (eq_tr g3 (eq_tr g4 g5))))⟩
  unfold fX13_feed
  rw [if_pos (iO_54 hs)]
  simp only [pI_54 hs, gI_54 s0, M_bi, Option.bind_some, t0.1, nI_add]
  rw [show (160 : Int32) = nI 160 from rfl, if_pos (nI_le (b := 160) (by omega) (by decide))]
  simp only [e1, e2, e3, e4, e5, gI_54 s5, Option.bind_some]
  have e9 := t5.1
  change _ = nI ((st_feed σ a b c d e).1 0) at e9
  rw [e9, feed_len]
theorem M_feed_no {h : eg_H} {σ : eg_S} {a b c d e : Int32} (hs : eg_stt h) (hX : tapeM σ h) (hB : tapeB σ) (hr : ¬ feed_n σ a b c d e ≤ 160) : fX13_feed h 54 a b c d e = some (-1, eg_sI h 54 0 0) := by
  unfold feed_n at hr
  have q1 := cnt_le a; have q2 := cnt_le b; have q3 := cnt_le c; have q4 := cnt_le d; have q5 := cnt_le e
  have q0 := hB.1
  have s0 : eg_stt (eg_sI h 54 0 0) := hs
  have t0 : tapeM σ (eg_sI h 54 0 0) := hX
  unfold fX13_feed
  rw [if_pos (iO_54 hs)]
  simp only [pI_54 hs, gI_54 s0, M_bi, Option.bind_some, t0.1, nI_add]
  rw [show (160 : Int32) = nI 160 from rfl, if_neg (nI_ge (a := 160) (by omega) (by omega))]
