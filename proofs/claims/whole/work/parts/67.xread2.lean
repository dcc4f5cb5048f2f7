theorem X_readM {n : Nat} {t : Nat → Int32} {h : eg_H} (H : Tp n t h) :
    ∃ g' a s w, fX8_read h 19 = some (mdA (mdF t n 14 (skp t n 0) 0 0 0 (vUs 0 0 (eg_I h 20))), fin g' a s w) ∧ eg_eq S19 h g' ∧ mdX (mdF t n 14 (skp t n 0) 0 0 0 (vUs 0 0 (eg_I h 20))) g' := by
  have hs := H.1
  have hn := H.2.1
  obtain ⟨a0, s0, w0, e0⟩ : ∃ a s w, fin h a s w = h := ⟨_, _, _, fin_id h⟩
  generalize hg0 : eg_sI (eg_sI (eg_sI h 19 2 0) 19 3 0) 19 4 0 = g0
  have E0 : eg_eq S19 h g0 := by rw [← hg0]; exact eq_sI (eq_sI (eq_sI eq_rfl rfl) rfl) rfl
  have H0 := Tp_S19 H E0
  have eg0 : fin g0 a0 s0 w0 = g0 := by
    rw [← hg0]
    conv => rhs; rw [← e0]
    rw [fin_sI _ _ _ _ _ (by decide), fin_sI _ _ _ _ _ (by decide), fin_sI _ _ _ _ _ (by decide)]
  obtain ⟨g1, e1, E1, v1⟩ := X_usual (k := 0) (b := 0) (by decide) (by decide) (a := a0) (s := s0) (w := w0) H0 (V := eg_I h 20) (fun x hx => by rw [← hg0, I_sI, if_neg (by omega), I_sI, if_neg (by omega), I_sI, if_neg (by omega)])
  have H1 := Tp_S20 H0 E1
  have s1 : ∀ a b c, eg_stt (fin g1 a b c) := fun _ _ _ => H1.1
  have R1 : RX g1 0 0 0 (vUs 0 0 (eg_I h 20)) := by
    refine ⟨?_, ?_, ?_, v1⟩
    · rw [(E1.2 19 2 rfl).1, ← hg0]; rfl
    · rw [(E1.2 19 3 rfl).1, ← hg0]; rfl
    · rw [(E1.2 19 4 rfl).1, ← hg0]; rfl
  obtain ⟨g2, a, s, w, i1, i2, i3⟩ := X_md 14 (skp t n 0) 0 0 0 _ g1 0 eg_F (by decide) (by omega) (by omega) (by omega) (skp_le t n 0 (Nat.zero_le _)) H1 R1 (by omega) (by rw [eg_F_eq]; omega)
  refine ⟨g2, a, s, w, ?_, eq_tr (eq_tr E0 (S20_19 E1)) i2, i3⟩
  unfold fX8_read
  have hsA : eg_stt (eg_sI h 19 2 0) := hs
  have hsB : eg_stt (eg_sI (eg_sI h 19 2 0) 19 3 0) := hs
  rw [if_pos (iO_19 hs), pI_19 hs, Option.bind_some, pI_19 hsA, Option.bind_some, pZ_19 hsB (Or.inl rfl), Option.bind_some, hg0, ← eg0]
  change fX8_putUsual (fin g0 a0 s0 w0) 19 0 0 4 = some (fin g1 a0 s0 w0) at e1
  rw [e1, Option.bind_some, gR_19 (s1 _ _ _), rf_19_0 (s1 _ _ _), Option.bind_some, X_rewind H1, Option.bind_some]
  exact i1
