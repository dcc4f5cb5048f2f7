section XC
variable {n : Nat} {t : Nat → Int32}
def Xst (n : Nat) (t : Nat → Int32) (rd : eg_H → Option eg_H) (q : eg_PV) (r : eg_PR) : Prop := ∀ g C, Tp n t g → LR g (C ++ q.2.1) → C.length + q.2.1.length ≤ q.1 → q.1 ≤ n → skp t n q.1 = q.1 → ∃ g' a s w, rd (fin g (nI q.1) (sg t n q.1) (-1)) = some (fin g' a s w) ∧ eg_eq S21 g g' ∧ oX t n r C g' a s w
theorem Xs_seq {r1 r2 : eg_H → Option eg_H} {q : eg_PV} {r : eg_PR} {k : eg_PV → eg_PR} (h1 : Xst n t r1 q r) (h2 : Xdead n t r2) (hk : ∀ q', Xst n t r2 q' (k q')) : Xst n t (fun h => (r1 h).bind r2) q (pB r k) := by
  intro g C H hL hC hq hsk
  obtain ⟨g1, a, s, w, e1, E1, o1⟩ := h1 g C H hL hC hq hsk
  have H1 := Tp_S21 H E1
  show ∃ g' a s w, (r1 _).bind r2 = _ ∧ _
  rw [e1, Option.bind_some]
  cases r with
  | inl e =>
    obtain ⟨o2, o3, o4, o5, o6⟩ := o1
    subst o2; subst o3; subst o4
    obtain ⟨g2, e2, E2, l2⟩ := h2 g1 (nI e) H1 o6 (nI_nm1 (by have := H.2.1; omega))
    exact ⟨g2, _, _, _, e2, eq_tr E1 E2, rfl, rfl, rfl, o5, l2⟩
  | inr q =>
    obtain ⟨o2, o3, o4, o5, o6, o7, o8⟩ := o1
    subst o2; subst o3; subst o4
    obtain ⟨g2, a, s, w, e2, E2, o⟩ := hk q g1 C H1 o5 o6 o7 o8
    exact ⟨g2, a, s, w, e2, eq_tr E1 E2, o⟩
theorem Xs_loop {L : Nat → eg_H → Int32 → Option eg_H} {nr : eg_H → Option eg_H} {ops : Int32 → Option Int32} {nx : Nat → eg_PR} (h0 : ops 0 = none)
    (hstop : ∀ F g a s w c, Tp n t g → (ops s = none ∨ (160 : Int32) ≤ c) → L (F + 1) (fin g a s w) c = some (fin g a s w))
    (hgo : ∀ F g j s w c o, Tp n t g → j ≤ 900 → ops s = some o → ¬ (160 : Int32) ≤ c → L (F + 1) (fin g (nI j) s w) c = (nr (fin g (nI (skp t n (j + 1))) (sg t n (skp t n (j + 1))) w)).bind fun h => (fX6_emit h 21 o).bind fun h => L F h (c + 1))
    (hl : ∀ i, i ≤ n → skp t n i = i → Xlive n t nr i (nx i)) (hok : ∀ i, i ≤ n → skp t n i = i → pOk t n i (nx i)) (q : eg_PV) : Xst n t (fun h => L eg_F h 0) q (pL t n ops nx 161 q) := fun g C H l1 l2 l3 l4 => by
  have hn := H.2.1
  exact X_loop h0 hstop hgo hl hok 161 eg_F q 0 g C H l1 l2 l3 l4 (Nat.zero_le _) (by omega) (by rw [eg_F_eq]; omega)
theorem Xl_st {r1 r2 : eg_H → Option eg_H} {i : Nat} {r : eg_PR} {k : eg_PV → eg_PR} (h1 : Xlive n t r1 i r) (h2 : Xdead n t r2) (hk : ∀ q', Xst n t r2 q' (k q')) : Xlive n t (fun h => (r1 h).bind r2) i (pB r k) := X_seq h1 h2 (fun q g C H l1 l2 l3 l4 => hk q g C H l1 l2 l3 l4)
theorem Xs_cg {r1 r2 : eg_H → Option eg_H} {q : eg_PV} {r : eg_PR} (h : Xst n t r1 q r) (e : ∀ g a s w, Tp n t g → r2 (fin g a s w) = r1 (fin g a s w)) : Xst n t r2 q r := fun g C H l1 l2 l3 l4 => by
  obtain ⟨g', a, s, w, z⟩ := h g C H l1 l2 l3 l4
  exact ⟨g', a, s, w, (e _ _ _ _ H).trans z.1, z.2⟩
theorem Xs_of_l {rd : eg_H → Option eg_H} {q : eg_PV} {r : eg_PR} {f : eg_PV → eg_PV} (h : Xlive n t rd q.1 r) (hf : ∀ w, (f w).1 = w.1 ∧ (f w).2.1 = q.2.1 ++ w.2.1) : Xst n t rd q (pB r (fun w => .inr (f w))) := by
  intro g C H l1 l2 l3 l4
  obtain ⟨g1, a, s, w, e1, E1, o1⟩ := h g (C ++ q.2.1) H l1 (by simp; omega)
  refine ⟨g1, a, s, w, e1, E1, ?_⟩
  cases r with
  | inl e => exact o1
  | inr v =>
    obtain ⟨o2, o3, o4, o5, o6, o7, o8⟩ := o1
    obtain ⟨f1, f2⟩ := hf v
    show a = nI (f v).1 ∧ s = sg t n (f v).1 ∧ w = -1 ∧ LR g1 (C ++ (f v).2.1) ∧ C.length + (f v).2.1.length ≤ (f v).1 ∧ (f v).1 ≤ n ∧ skp t n (f v).1 = (f v).1
    rw [f1, f2, ← List.append_assoc]
    simp only [List.length_append] at o6 ⊢
    exact ⟨o2, o3, o4, o5, by omega, o7, o8⟩
theorem X_takes0 {g : eg_H} (H : Tp n t g) {a s w c : Int32} (hc : ¬ s = c) : fX10_takes (fin g a s w) 17 c = some (0, fin g a s w) := by
  have hs' : ∀ a b c, eg_stt (fin g a b c) := fun _ _ _ => H.1
  unfold fX10_takes
  rw [if_pos (iO_17 (hs' _ _ _)), gI_17 (hs' _ _ _), Option.bind_some, fin_i3, if_neg hc]
theorem opA_s {s o : Int32} (h : opA s = some o) : s = 38 ∧ o = -13 := by
  unfold opA at h
  split at h
  · next z => cases h; exact ⟨z, rfl⟩
  · cases h
theorem opA_n {s : Int32} (h : opA s = none) : ¬ s = 38 := fun z => by rw [z] at h; cases h
theorem opO_s {s o : Int32} (h : opO s = some o) : s = 124 ∧ o = -14 := by
  unfold opO at h
  split at h
  · next z => cases h; exact ⟨z, rfl⟩
  · cases h
theorem opO_n {s : Int32} (h : opO s = none) : ¬ s = 124 := fun z => by rw [z] at h; cases h
theorem LA_stop (rc : eg_H → Nat → Int32 → Int32 → Option eg_H) (d : Int32) : ∀ F g a s w c, Tp n t g → (opA s = none ∨ (160 : Int32) ≤ c) → fX6_readTruth_L8 rc (F + 1) (fin g a s w) 21 d c = some (fin g a s w) := by
  intro F g a s w c H hc
  have hs' : ∀ a b c, eg_stt (fin g a b c) := fun _ _ _ => H.1
  rw [fX6_readTruth_L8]
  by_cases h1 : (160 : Int32) ≤ c
  · rw [if_pos h1]
  · rcases hc with hc | hc
    · rw [if_neg h1, gR_21 (hs' _ _ _), rf_21_0 (hs' _ _ _), Option.bind_some, X_takes0 H (opA_n hc), Option.bind_some]
      rfl
    · exact absurd hc h1
theorem LO_stop (rc : eg_H → Nat → Int32 → Int32 → Option eg_H) (d : Int32) : ∀ F g a s w c, Tp n t g → (opO s = none ∨ (160 : Int32) ≤ c) → fX6_readCondition_L8 rc (F + 1) (fin g a s w) 21 d c = some (fin g a s w) := by
  intro F g a s w c H hc
  have hs' : ∀ a b c, eg_stt (fin g a b c) := fun _ _ _ => H.1
  rw [fX6_readCondition_L8]
  by_cases h1 : (160 : Int32) ≤ c
  · rw [if_pos h1]
  · rcases hc with hc | hc
    · rw [if_neg h1, gR_21 (hs' _ _ _), rf_21_0 (hs' _ _ _), Option.bind_some, X_takes0 H (opO_n hc), Option.bind_some]
      rfl
    · exact absurd hc h1
theorem LA_go (rc : eg_H → Nat → Int32 → Int32 → Option eg_H) (d : Int32) : ∀ F g j s w c o, Tp n t g → j ≤ 900 → opA s = some o → ¬ (160 : Int32) ≤ c → fX6_readTruth_L8 rc (F + 1) (fin g (nI j) s w) 21 d c = (rc (fin g (nI (skp t n (j + 1))) (sg t n (skp t n (j + 1))) w) 21 d 0).bind fun h => (fX6_emit h 21 o).bind fun h => fX6_readTruth_L8 rc F h 21 d (c + 1) := by
  intro F g j s w c o H hj ho hc
  have hs' : ∀ a b c, eg_stt (fin g a b c) := fun _ _ _ => H.1
  obtain ⟨rfl, rfl⟩ := opA_s ho
  rw [fX6_readTruth_L8, if_neg hc, gR_21 (hs' _ _ _), rf_21_0 (hs' _ _ _), Option.bind_some, X_takes H (by omega), if_pos rfl, Option.bind_some]
  show (if (1 : Int32) = 0 then _ else _) = _
  rw [if_neg (by decide), if_pos (iO_21 (hs' _ _ _))]
theorem LO_go (rc : eg_H → Nat → Int32 → Int32 → Option eg_H) (d : Int32) : ∀ F g j s w c o, Tp n t g → j ≤ 900 → opO s = some o → ¬ (160 : Int32) ≤ c → fX6_readCondition_L8 rc (F + 1) (fin g (nI j) s w) 21 d c = (fX6_readTruth rc (fin g (nI (skp t n (j + 1))) (sg t n (skp t n (j + 1))) w) 21 d 0).bind fun h => (fX6_emit h 21 o).bind fun h => fX6_readCondition_L8 rc F h 21 d (c + 1) := by
  intro F g j s w c o H hj ho hc
  have hs' : ∀ a b c, eg_stt (fin g a b c) := fun _ _ _ => H.1
  obtain ⟨rfl, rfl⟩ := opO_s ho
  rw [fX6_readCondition_L8, if_neg hc, gR_21 (hs' _ _ _), rf_21_0 (hs' _ _ _), Option.bind_some, X_takes H (by omega), if_pos rfl, Option.bind_some]
  show (if (1 : Int32) = 0 then _ else _) = _
  rw [if_neg (by decide)]
theorem truth_eq (rc : eg_H → Nat → Int32 → Int32 → Option eg_H) (d b : Int32) {g : eg_H} {a s w : Int32} (H : Tp n t g) : fX6_readTruth rc (fin g a s w) 21 d b = (rc (fin g a s w) 21 d b).bind fun h => fX6_readTruth_L8 rc eg_F h 21 d 0 := by
  have hs' : ∀ a b c, eg_stt (fin g a b c) := fun _ _ _ => H.1
  unfold fX6_readTruth
  rw [if_pos (iO_21 (hs' _ _ _)), if_pos (iO_21 (hs' _ _ _))]
  congr 1
  funext h
  cases fX6_readTruth_L8 rc eg_F h 21 d 0 <;> rfl
theorem cond_eq (rc : eg_H → Nat → Int32 → Int32 → Option eg_H) (d b : Int32) {g : eg_H} {a s w : Int32} (H : Tp n t g) : fX6_readCondition rc (fin g a s w) 21 d b = (fX6_readTruth rc (fin g a s w) 21 d b).bind fun h => fX6_readCondition_L8 rc eg_F h 21 d 0 := by
  have hs' : ∀ a b c, eg_stt (fin g a b c) := fun _ _ _ => H.1
  unfold fX6_readCondition
  rw [if_pos (iO_21 (hs' _ _ _))]
  congr 1
  funext h
  cases fX6_readCondition_L8 rc eg_F h 21 d 0 <;> rfl
theorem Xl_truth {rc : eg_H → Nat → Int32 → Int32 → Option eg_H} {d : Int32} {un : Nat → eg_PR} (hu : ∀ i, i ≤ n → Xlive n t (fun h => rc h 21 d 0) i (un i)) (hk : ∀ i, i ≤ n → pOk t n i (un i)) : ∀ i, i ≤ n → Xlive n t (fun h => fX6_readTruth rc h 21 d 0) i (pB (un i) (pL t n opA un 161)) := fun i hi =>
  Xl_cg (X_lp (L := fun F h c => fX6_readTruth_L8 rc F h 21 d c) rfl (hu i hi) (LA_stop rc d) (LA_go rc d) (fun j hj _ => hu j hj) (fun j hj _ => hk j hj)) (fun g a s w H => truth_eq rc d 0 H)
theorem pOk_tr {un : Nat → eg_PR} (hk : ∀ i, i ≤ n → pOk t n i (un i)) : ∀ i, i ≤ n → pOk t n i (pB (un i) (pL t n opA un 161)) := fun i hi => pOk_B (hk i hi) (fun q _ q1 q2 q3 => pOk_L rfl (fun j hj _ => hk j hj) 161 q i q1 q2 q3)
theorem Xl_cond {rc : eg_H → Nat → Int32 → Int32 → Option eg_H} {d : Int32} {un : Nat → eg_PR} (hu : ∀ i, i ≤ n → Xlive n t (fun h => rc h 21 d 0) i (un i)) (hk : ∀ i, i ≤ n → pOk t n i (un i)) {i : Nat} (hi : i ≤ n) : Xlive n t (fun h => fX6_readCondition rc h 21 d 0) i (pCondF t n un (un i)) :=
  Xl_cg (X_lp (L := fun F h c => fX6_readCondition_L8 rc F h 21 d c) rfl (Xl_truth hu hk i hi) (LO_stop rc d) (LO_go rc d) (fun j hj _ => Xl_truth hu hk j hj) (fun j hj _ => pOk_tr hk j hj)) (fun g a s w H => cond_eq rc d 0 H)
theorem Xs_truth {rc : eg_H → Nat → Int32 → Int32 → Option eg_H} {d b : Int32} {un : Nat → eg_PR} {q : eg_PV} {r : eg_PR} (hu : ∀ i, i ≤ n → Xlive n t (fun h => rc h 21 d 0) i (un i)) (hk : ∀ i, i ≤ n → pOk t n i (un i)) (h1 : Xst n t (fun h => rc h 21 d b) q r) : Xst n t (fun h => fX6_readTruth rc h 21 d b) q (pB r (pL t n opA un 161)) :=
  Xs_cg (Xs_seq h1 (fun g w H hL _ => ⟨g, LA_stop rc d 4999 g _ _ _ _ H (Or.inl rfl), eq_rfl, hL⟩) (fun q' => Xs_loop (L := fun F h c => fX6_readTruth_L8 rc F h 21 d c) rfl (LA_stop rc d) (LA_go rc d) (fun j hj _ => hu j hj) (fun j hj _ => hk j hj) q')) (fun g a s w H => truth_eq rc d b H)
theorem Xs_cond {rc : eg_H → Nat → Int32 → Int32 → Option eg_H} {d b : Int32} {un : Nat → eg_PR} {q : eg_PV} {r : eg_PR} (hu : ∀ i, i ≤ n → Xlive n t (fun h => rc h 21 d 0) i (un i)) (hk : ∀ i, i ≤ n → pOk t n i (un i)) (h1 : Xst n t (fun h => rc h 21 d b) q r) : Xst n t (fun h => fX6_readCondition rc h 21 d b) q (pCondF t n un r) := by
  have h2 := Xs_truth hu hk h1
  exact Xs_cg (Xs_seq h2 (fun g w H hL _ => ⟨g, LO_stop rc d 4999 g _ _ _ _ H (Or.inl rfl), eq_rfl, hL⟩) (fun q' => Xs_loop (L := fun F h c => fX6_readCondition_L8 rc F h 21 d c) rfl (LO_stop rc d) (LO_go rc d) (fun j hj _ => Xl_truth hu hk j hj) (fun j hj _ => pOk_tr hk j hj) q')) (fun g a s w H => cond_eq rc d b H)
theorem Xd_truth {rc : eg_H → Nat → Int32 → Int32 → Option eg_H} {d b : Int32} (h : Xdead n t (fun h => rc h 21 d b)) : Xdead n t (fun h => fX6_readTruth rc h 21 d b) := Xd_cg (Xd_lp (L := fun F h c => fX6_readTruth_L8 rc F h 21 d c) (ops := opA) rfl h (LA_stop rc d)) (fun g a s w H => truth_eq rc d b H)
theorem Xd_cond {rc : eg_H → Nat → Int32 → Int32 → Option eg_H} {d b : Int32} (h : Xdead n t (fun h => rc h 21 d b)) : Xdead n t (fun h => fX6_readCondition rc h 21 d b) := by
  have h2 := Xd_truth h
  exact Xd_cg (Xd_lp (L := fun F h c => fX6_readCondition_L8 rc F h 21 d c) (ops := opO) rfl h2 (LO_stop rc d)) (fun g a s w H => cond_eq rc d b H)
def cpI (o : Option Int32) : Int32 := match o with
  | some c => c
  | none => 0
theorem X_comparison {g : eg_H} (H : Tp n t g) {a s w : Int32} : fX6_comparison (fin g a s w) 21 = some (cpI (opC s), fin g a s w) := by
  have hs' : ∀ a b c, eg_stt (fin g a b c) := fun _ _ _ => H.1
  unfold fX6_comparison
  rw [if_pos (iO_21 (hs' _ _ _)), gR_21 (hs' _ _ _), rf_21_0 (hs' _ _ _), Option.bind_some, X_sign H, Option.bind_some]
  show (if s = 60 then _ else _) = _
  unfold opC
  by_cases c1 : s = 60
  · subst c1; rfl
  · rw [if_neg c1]
    by_cases c2 : s = 61
    · subst c2; rfl
    · rw [if_neg c2]
      by_cases c3 : s = 62
      · subst c3; rfl
      · rw [if_neg c3, if_neg c2, if_neg c1, if_neg c3]
        rfl
theorem cp_ne {s o : Int32} (h : opC s = some o) : ¬ cpI (opC s) = 0 := by
  rw [h]
  unfold opC at h
  split at h
  · cases h; decide
  · split at h
    · cases h; decide
    · split at h
      · cases h; decide
      · cases h
theorem X_cmp (rc : eg_H → Nat → Int32 → Int32 → Option eg_H) {d dep : Nat} (hd : dep + d = 6) (q : eg_PV) : Xst n t (fun h => fX6_readUnit_j40 rc h 21 (nI dep)) q (pCmp t n d q) := by
  intro g C H l1 l2 l3 l4
  have hn := H.2.1
  have hs' : ∀ a b c, eg_stt (fin g a b c) := fun _ _ _ => H.1
  show ∃ g' a s w, fX6_readUnit_j40 rc _ _ _ = _ ∧ _
  unfold fX6_readUnit_j40 pCmp
  rw [X_comparison H, Option.bind_some]
  show ∃ g' a s w, (if cpI (opC (sg t n q.1)) = 0 then _ else _) = _ ∧ _
  cases ho : opC (sg t n q.1) with
  | none =>
    rw [if_pos (show cpI none = 0 from rfl), gR_21 (hs' _ _ _), rf_21_0 (hs' _ _ _), Option.bind_some, X_markH H, if_pos rfl, Option.bind_some]
    exact ⟨g, _, _, _, rfl, eq_rfl, rfl, rfl, rfl, l3, LR_LL l1⟩
  | some o =>
    have hne := cp_ne ho
    rw [ho] at hne
    have hlt := op_n (ops := opC) rfl ho
    have hge := skp_ge t n (q.1 + 1)
    have hok := pOk_sum (t := t) d (skp t n (q.1 + 1)) (skp_le t n _ hlt)
    rw [if_neg hne, gR_21 (hs' _ _ _), rf_21_0 (hs' _ _ _), Option.bind_some, X_step H (by omega), Option.bind_some]
    obtain ⟨g1, a, s, w, e1, E1, o1⟩ := X_sum d eg_D dep (skp t n (q.1 + 1)) hd (by rw [eg_D_eq]; omega) (skp_le t n _ hlt) g (C ++ q.2.1) H l1 (by simp; omega)
    have H1 := Tp_S21 H E1
    change fX6_readSum eg_D _ 21 (nI dep) = _ at e1
    rw [e1, Option.bind_some]
    dsimp only
    cases hr : pSum t n d (skp t n (q.1 + 1)) with
    | inl e =>
      rw [hr] at o1
      obtain ⟨o2, o3, o4, o5, o6⟩ := o1
      subst o2; subst o3; subst o4
      obtain ⟨g2, e2, E2, k2⟩ := X_emitL H1 o6 (nI n) 0 (nI e) o
      change fX6_emit _ 21 (cpI (some o)) = _ at e2
      rw [e2]
      exact ⟨g2, _, _, _, rfl, eq_tr E1 E2, rfl, rfl, rfl, o5, k2⟩
    | inr v =>
      rw [hr] at o1 hok
      obtain ⟨o2, o3, o4, o5, o6, o7, o8⟩ := o1
      obtain ⟨k1, k2, k3'⟩ := hok
      subst o2; subst o3; subst o4
      obtain ⟨g2, e2, E2, m2⟩ := X_emit H1 o5 (by simp only [List.length_append]; omega) (nI v.1) (sg t n v.1) (-1) o
      change fX6_emit _ 21 (cpI (some o)) = _ at e2
      rw [e2]
      refine ⟨g2, _, _, _, rfl, eq_tr E1 E2, rfl, rfl, rfl, ?_, ?_, k2, k3'⟩
      · have e : C ++ (q.2.1 ++ v.2.1 ++ [o]) = C ++ q.2.1 ++ v.2.1 ++ [o] := by simp only [List.append_assoc]
        show LR g2 (C ++ (q.2.1 ++ v.2.1 ++ [o]))
        rw [e]; exact m2
      · show C.length + (q.2.1 ++ v.2.1 ++ [o]).length ≤ v.1
        simp only [List.length_append, List.length_cons, List.length_nil]; omega
theorem Xd_cmp (rc : eg_H → Nat → Int32 → Int32 → Option eg_H) (d : Int32) : Xdead n t (fun h => fX6_readUnit_j40 rc h 21 d) := by
  intro g w H hL hw
  have hs' : ∀ a b c, eg_stt (fin g a b c) := fun _ _ _ => H.1
  refine ⟨g, ?_, eq_rfl, hL⟩
  show fX6_readUnit_j40 rc _ _ _ = _
  unfold fX6_readUnit_j40
  rw [X_comparison H, Option.bind_some]
  show (if cpI (opC 0) = 0 then _ else _) = _
  rw [if_pos (by decide), gR_21 (hs' _ _ _), rf_21_0 (hs' _ _ _), Option.bind_some, X_markH H, if_neg hw, Option.bind_some]
theorem unit_1 (rc : eg_H → Nat → Int32 → Int32 → Option eg_H) (d : Int32) {g : eg_H} {a s w : Int32} (H : Tp n t g) : fX6_readUnitB rc (fin g a s w) 21 d 1 = fX6_readUnit_j40 rc (fin g a s w) 21 d := by
  have hs' : ∀ a b c, eg_stt (fin g a b c) := fun _ _ _ => H.1
  unfold fX6_readUnitB
  rw [if_pos (iO_21 (hs' _ _ _)), gR_21 (hs' _ _ _), rf_21_0 (hs' _ _ _), Option.bind_some, X_sign H, Option.bind_some]
  rfl
theorem unit_0 (rc : eg_H → Nat → Int32 → Int32 → Option eg_H) (d : Int32) {g : eg_H} {a s w : Int32} (H : Tp n t g) : fX6_readUnitB rc (fin g a s w) 21 d 0 = if s = 33 then fX6_readNested rc (fin g a s w) 21 d s else if s = 40 then fX6_readNested rc (fin g a s w) 21 d s else (fX6_readSum eg_D (fin g a s w) 21 d).bind fun h => fX6_readUnit_j40 rc h 21 d := by
  have hs' : ∀ a b c, eg_stt (fin g a b c) := fun _ _ _ => H.1
  unfold fX6_readUnitB
  rw [if_pos (iO_21 (hs' _ _ _)), gR_21 (hs' _ _ _), rf_21_0 (hs' _ _ _), Option.bind_some, X_sign H, Option.bind_some]
  show (if s = 33 then _ else _) = _
  by_cases c1 : s = 33
  · rw [if_pos c1, if_pos c1]
    cases fX6_readNested rc (fin g a s w) 21 d s <;> rfl
  · rw [if_neg c1, if_neg c1]
    by_cases c2 : s = 40
    · rw [if_pos c2, if_pos c2]
      cases fX6_readNested rc (fin g a s w) 21 d s <;> rfl
    · rw [if_neg c2, if_neg c2]
      rfl
theorem Xd_unit0 (m : Nat) (d : Int32) : Xdead n t (fun h => fX6_readUnit (m + 1) h 21 d 0) := by
  intro g w H hL hw
  have q := Xd_bind (Xd_sum 63 d) (Xd_cmp (fX6_readUnit m) d) g w H hL hw
  obtain ⟨g', e, E⟩ := q
  refine ⟨g', ?_, E⟩
  show fX6_readUnitB (fX6_readUnit m) _ 21 d 0 = _
  rw [unit_0 _ _ H, if_neg (by decide), if_neg (by decide)]
  exact e
theorem Xd_unit1 (m : Nat) (d : Int32) : Xdead n t (fun h => fX6_readUnit (m + 1) h 21 d 1) := Xd_cg (Xd_cmp (fX6_readUnit m) d) (fun g a s w H => unit_1 _ d H)
end XC
