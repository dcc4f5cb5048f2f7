section XU
variable {n : Nat} {t : Nat → Int32}
theorem nested_eq (rc : eg_H → Nat → Int32 → Int32 → Option eg_H) {dep i : Nat} (hd : dep < 6) {g : eg_H} (s : Int32) (H : Tp n t g) (hi : i < n) : fX6_readNested rc (fin g (nI i) s (-1)) 21 (nI dep) s = if s = 33 then ((rc (fin g (nI (skp t n (i + 1))) (sg t n (skp t n (i + 1))) (-1)) 21 (nI (dep + 1)) 0).bind fun h => fX6_emit h 21 (-15)) else ((fX6_readCondition rc (fin g (nI (skp t n (i + 1))) (sg t n (skp t n (i + 1))) (-1)) 21 (nI (dep + 1)) 0).bind fun h12 => (eg_gR h12 6 0 21).bind fun p14 => fX10_need h12 p14 41) := by
  have hs' : ∀ a b c, eg_stt (fin g a b c) := fun _ _ _ => H.1
  have hn := H.2.1
  unfold fX6_readNested
  rw [if_pos (iO_21 (hs' _ _ _)), if_pos (show nI dep < (6 : Int32) from nI_lt (b := 6) hd (by decide)), gR_21 (hs' _ _ _), rf_21_0 (hs' _ _ _), Option.bind_some, X_step H (by omega), Option.bind_some]
  by_cases c1 : s = 33
  · rw [if_pos c1, if_pos c1, if_pos (iO_21 (hs' _ _ _)), nI_1]
    congr 1
    funext h
    cases fX6_emit h 21 (-15) <;> rfl
  · rw [if_neg c1, if_neg c1, nI_1]
    congr 1
    funext h
    congr 1
    funext p
    cases fX10_need h p 41 <;> rfl
theorem nested_6 (rc : eg_H → Nat → Int32 → Int32 → Option eg_H) {g : eg_H} (a s : Int32) (H : Tp n t g) : fX6_readNested rc (fin g a s (-1)) 21 (nI 6) s = some (fin g (nI n) 0 a) := by
  have hs' : ∀ a b c, eg_stt (fin g a b c) := fun _ _ _ => H.1
  unfold fX6_readNested
  rw [if_pos (iO_21 (hs' _ _ _)), if_neg (by decide), gR_21 (hs' _ _ _), rf_21_0 (hs' _ _ _), Option.bind_some, X_markH H, if_pos rfl]
  rfl
theorem need_eq {c : Int32} {g : eg_H} {a s w : Int32} (H : Tp n t g) : ((eg_gR (fin g a s w) 6 0 21).bind fun p => fX10_need (fin g a s w) p c) = fX10_need (fin g a s w) 17 c := by
  have hs' : ∀ a b c, eg_stt (fin g a b c) := fun _ _ _ => H.1
  rw [gR_21 (hs' _ _ _), rf_21_0 (hs' _ _ _), Option.bind_some]
theorem Xl_unitB {rc : eg_H → Nat → Int32 → Int32 → Option eg_H} {d dep : Nat} {no pa : Nat → eg_PR} (hd : dep + d = 6)
    (hn : ∀ i, i < n → sg t n i = 33 → Xlive n t (fun h => fX6_readNested rc h 21 (nI dep) 33) i (no i)) (hp : ∀ i, i < n → sg t n i = 40 → Xlive n t (fun h => fX6_readNested rc h 21 (nI dep) 40) i (pa i)) {i : Nat} (hi : i ≤ n) : Xlive n t (fun h => fX6_readUnitB rc h 21 (nI dep) 0) i (pUnitB t n d no pa i) := by
  intro g C H hL hC
  show ∃ g' a s w, fX6_readUnitB rc _ _ _ _ = _ ∧ _
  rw [unit_0 _ _ H]
  unfold pUnitB
  by_cases c1 : sg t n i = 33
  · rw [if_pos c1, if_pos c1]
    have q := hn i (sg_n c1 (by decide)) c1 g C H hL hC
    rw [← c1] at q
    exact q
  · rw [if_neg c1, if_neg c1]
    by_cases c2 : sg t n i = 40
    · rw [if_pos c2, if_pos c2]
      have q := hp i (sg_n c2 (by decide)) c2 g C H hL hC
      rw [← c2] at q
      exact q
    · rw [if_neg c2, if_neg c2]
      exact Xl_st (X_sum d eg_D dep i hd (by rw [eg_D_eq]; omega) hi) (Xd_cmp rc (nI dep)) (fun q' => X_cmp rc hd q') g C H hL hC
theorem X_unit : ∀ d m dep i, dep + d = 6 → d < m → i ≤ n → Xlive n t (fun h => fX6_readUnit m h 21 (nI dep) 0) i (pUnit t n d i) := by
  intro d
  induction d with
  | zero =>
    intro m dep i h1 h2 hi
    obtain ⟨m, rfl⟩ : ∃ m', m = m' + 1 := ⟨m - 1, by omega⟩
    obtain rfl : dep = 6 := by omega
    refine Xl_unitB rfl (fun j hj hs g C H hL hC => ?_) (fun j hj hs g C H hL hC => ?_) hi
    · rw [hs]
      exact ⟨g, _, _, _, nested_6 _ _ 33 H, eq_rfl, rfl, rfl, rfl, by omega, LR_LL hL⟩
    · rw [hs]
      exact ⟨g, _, _, _, nested_6 _ _ 40 H, eq_rfl, rfl, rfl, rfl, by omega, LR_LL hL⟩
  | succ d ih =>
    intro m dep i h1 h2 hi
    obtain ⟨m, rfl⟩ : ∃ m', m = m' + 2 := ⟨m - 2, by omega⟩
    have hu : ∀ j, j ≤ n → Xlive n t (fun h => fX6_readUnit (m + 1) h 21 (nI (dep + 1)) 0) j (pUnit t n d j) := fun j hj => ih (m + 1) (dep + 1) j (by omega) (by omega) hj
    refine Xl_unitB h1 (fun j hj hs g C H hL hC => ?_) (fun j hj hs g C H hL hC => ?_) hi
    · rw [hs]
      show ∃ g' a s w, fX6_readNested (fX6_readUnit (m + 1)) _ _ _ _ = _ ∧ _
      rw [nested_eq (fX6_readUnit (m + 1)) (by omega) 33 H hj, if_pos rfl]
      have hge := skp_ge t n (j + 1)
      have hn := H.2.1
      obtain ⟨g1, a, s, w, e1, E1, o1⟩ := hu (skp t n (j + 1)) (skp_le t n _ hj) g C H hL (by omega)
      have H1 := Tp_S21 H E1
      change fX6_readUnit (m + 1) _ 21 (nI (dep + 1)) 0 = _ at e1
      rw [e1, Option.bind_some]
      have ok := pOk_unit (t := t) d (skp t n (j + 1)) (skp_le t n _ hj)
      cases hr : pUnit t n d (skp t n (j + 1)) with
      | inl e =>
        rw [hr] at o1
        obtain ⟨o2, o3, o4, o5, o6⟩ := o1
        subst o2; subst o3; subst o4
        obtain ⟨g2, e2, E2, l2⟩ := X_emitL H1 o6 (nI n) 0 (nI e) (-15)
        rw [e2]
        exact ⟨g2, _, _, _, rfl, eq_tr E1 E2, rfl, rfl, rfl, o5, l2⟩
      | inr q =>
        rw [hr] at o1 ok
        obtain ⟨o2, o3, o4, o5, o6, o7, o8⟩ := o1
        obtain ⟨k1, k2, k3'⟩ := ok
        subst o2; subst o3; subst o4
        obtain ⟨g2, e2, E2, l2⟩ := X_emit H1 o5 (by simp only [List.length_append]; omega) (nI q.1) (sg t n q.1) (-1) (-15)
        rw [e2]
        refine ⟨g2, _, _, _, rfl, eq_tr E1 E2, rfl, rfl, rfl, ?_, ?_, k2, k3'⟩
        · show LR g2 (C ++ (q.2.1 ++ [-15]))
          rw [← List.append_assoc]; exact l2
        · show C.length + (q.2.1 ++ [-15]).length ≤ q.1
          simp only [List.length_append, List.length_cons, List.length_nil]; omega
    · rw [hs]
      show ∃ g' a s w, fX6_readNested (fX6_readUnit (m + 1)) _ _ _ _ = _ ∧ _
      rw [nested_eq (fX6_readUnit (m + 1)) (by omega) 40 H hj, if_neg (by decide)]
      have hge := skp_ge t n (j + 1)
      have q := Xl_st (r2 := fun h12 => (eg_gR h12 6 0 21).bind fun p14 => fX10_need h12 p14 41) (k := fun q => pN t n 41 q (fun j => .inr (j, q.2))) (Xl_cond hu (fun i hi => pOk_unit d i hi) (skp_le t n (j + 1) hj)) (Xd_cg (Xd_need 41 (by decide)) (fun g a s w H => need_eq H)) (fun q' => Xs_cg (r1 := fun h => fX10_need h 17 41) (fun g C H l1 l2 l3 l4 => X_needN (c := 41) (by decide) H l1 l2 l3) (fun g a s w H => need_eq H))
      exact q g C H hL (by omega)
theorem X_unit1 {d m dep : Nat} (hd : dep + d = 6) (q : eg_PV) : Xst n t (fun h => fX6_readUnit (m + 1) h 21 (nI dep) 1) q (pCmp t n d q) := Xs_cg (X_cmp (fX6_readUnit m) hd q) (fun g a s w H => unit_1 _ _ H)
def oC (t : Nat → Int32) (n : Nat) (r : Nat ⊕ eg_CV) (C : List Int32) (g : eg_H) (a s w : Int32) : Prop := match r with
  | .inl e => a = nI n ∧ s = 0 ∧ w = nI e ∧ e ≤ n ∧ LL g
  | .inr q => a = nI q.1 ∧ s = sg t n q.1 ∧ w = -1 ∧ LR g (C ++ q.2.1) ∧ C.length + q.2.1.length ≤ q.1 ∧ q.1 ≤ n ∧ skp t n q.1 = q.1
def X_wh (h : eg_H) : Option eg_H := (fX10_need h 17 63).bind fun h5 => (fX6_emit h5 21 (-16)).bind fun h7 => (fX6_readSum eg_D h7 21 0).bind fun h9 => fX6_emit h9 21 (-17)
theorem Xd_wh : Xdead n t X_wh := Xd_bind (Xd_need 63 (by decide)) (Xd_bind (Xd_emit (-16)) (Xd_bind (Xd_sum 63 0) (Xd_emit (-17))))
theorem X_when {i : Nat} {r : eg_PR} {g : eg_H} {C : List Int32} {a s w : Int32} (H : Tp n t g) (o1 : oX t n r C g a s w) (ok : pOk t n i r) (hC : C.length + 2 ≤ i) : ∃ g' a' s' w', X_wh (fin g a s w) = some (fin g' a' s' w') ∧ eg_eq S21 g g' ∧ oC t n (pWhen t n r) C g' a' s' w' := by
  have hn := H.2.1
  cases r with
  | inl e =>
    obtain ⟨o2, o3, o4, o5, o6⟩ := o1
    subst o2; subst o3; subst o4
    obtain ⟨g2, e2, E2, l2⟩ := Xd_wh g (nI e) H o6 (nI_nm1 (by omega))
    exact ⟨g2, _, _, _, e2, E2, rfl, rfl, rfl, o5, l2⟩
  | inr q =>
    obtain ⟨o2, o3, o4, o5, o6, o7, o8⟩ := o1
    obtain ⟨k1, k2, k3'⟩ := ok
    subst o2; subst o3; subst o4
    unfold pWhen X_wh
    rw [X_need H (by omega)]
    dsimp only
    by_cases c1 : sg t n q.1 = 63
    · have hlt := sg_n c1 (by decide)
      have hge := skp_ge t n (q.1 + 1)
      rw [if_pos c1, if_pos c1, Option.bind_some]
      obtain ⟨g1, e1, E1, l1⟩ := X_emit H o5 (by simp only [List.length_append]; omega) (nI (skp t n (q.1 + 1))) (sg t n (skp t n (q.1 + 1))) (-1) (-16)
      have H1 := Tp_S21 H E1
      obtain ⟨g2, a, s, w, e2, E2, o2⟩ := X_sum 6 eg_D 0 (skp t n (q.1 + 1)) rfl (by rw [eg_D_eq]; omega) (skp_le t n _ hlt) g1 (C ++ q.2.1 ++ [-16]) H1 l1 (by simp only [List.length_append, List.length_cons, List.length_nil]; omega)
      have H2 := Tp_S21 H1 E2
      change fX6_readSum eg_D _ 21 0 = _ at e2
      rw [e1, Option.bind_some, e2, Option.bind_some]
      have ok2 := pOk_sum (t := t) 6 (skp t n (q.1 + 1)) (skp_le t n _ hlt)
      cases hr : pSum t n 6 (skp t n (q.1 + 1)) with
      | inl e =>
        rw [hr] at o2
        obtain ⟨u2, u3, u4, u5, u6⟩ := o2
        subst u2; subst u3; subst u4
        obtain ⟨g3, e3, E3, l3⟩ := X_emitL H2 u6 (nI n) 0 (nI e) (-17)
        rw [e3]
        exact ⟨g3, _, _, _, rfl, eq_tr E1 (eq_tr E2 E3), rfl, rfl, rfl, u5, l3⟩
      | inr v =>
        rw [hr] at o2 ok2
        obtain ⟨u2, u3, u4, u5, u6, u7, u8⟩ := o2
        obtain ⟨m1, m2, m3⟩ := ok2
        subst u2; subst u3; subst u4
        obtain ⟨g3, e3, E3, l3⟩ := X_emit H2 u5 (by simp only [List.length_append, List.length_cons, List.length_nil]; omega) (nI v.1) (sg t n v.1) (-1) (-17)
        rw [e3]
        refine ⟨g3, _, _, _, rfl, eq_tr E1 (eq_tr E2 E3), rfl, rfl, rfl, ?_, ?_, m2, m3⟩
        · have e : C ++ (q.2.1 ++ [-16] ++ v.2.1 ++ [-17]) = C ++ q.2.1 ++ [-16] ++ v.2.1 ++ [-17] := by simp only [List.append_assoc]
          show LR g3 (C ++ (q.2.1 ++ [-16] ++ v.2.1 ++ [-17]))
          rw [e]; exact l3
        · show C.length + (q.2.1 ++ [-16] ++ v.2.1 ++ [-17]).length ≤ v.1
          simp only [List.length_append, List.length_cons, List.length_nil]; omega
    · rw [if_neg c1, if_neg c1, if_pos rfl, Option.bind_some]
      obtain ⟨g2, e2, E2, l2⟩ := Xd_bind (Xd_emit (-16)) (Xd_bind (Xd_sum 63 0) (Xd_emit (-17))) g (nI q.1) H (LR_LL o5) (nI_nm1 (by omega))
      exact ⟨g2, _, _, _, e2, E2, rfl, rfl, rfl, k2, l2⟩
theorem j68_eq (b : Int32) {g : eg_H} {a s w : Int32} (H : Tp n t g) {g1 : eg_H} {a1 s1 w1 : Int32} (e1 : fX6_readCondition (fX6_readUnit eg_D) (fin g a s w) 21 0 b = some (fin g1 a1 s1 w1)) (H1 : Tp n t g1) : fX6_readClause_j68 (fin g a s w) 21 b = X_wh (fin g1 a1 s1 w1) := by
  have hs' : ∀ a b c, eg_stt (fin g1 a b c) := fun _ _ _ => H1.1
  unfold fX6_readClause_j68 X_wh
  rw [e1, Option.bind_some, gR_21 (hs' _ _ _), rf_21_0 (hs' _ _ _), Option.bind_some]
  congr 1
  funext h
  congr 1
  funext h
  congr 1
  funext h
  cases fX6_emit h 21 (-17) <;> rfl
theorem Xd_cond0 : Xdead n t (fun h => fX6_readCondition (fX6_readUnit eg_D) h 21 0 0) := Xd_cond (Xd_unit0 63 0)
theorem Xd_cond1 : Xdead n t (fun h => fX6_readCondition (fX6_readUnit eg_D) h 21 0 1) := Xd_cond (Xd_unit1 63 0)
theorem Xd_j57 : Xdead n t (fun h => fX6_readClause_j57 h 21 1) := by
  intro g w H hL hw
  obtain ⟨g', e, E⟩ := Xd_emit (-17) g w H hL hw
  refine ⟨g', ?_, E⟩
  show fX6_readClause_j57 _ _ _ = _
  unfold fX6_readClause_j57
  rw [if_neg (by decide), X_comparison H, Option.bind_some]
  show (if cpI (opC 0) = 0 then _ else _) = _
  rw [if_pos (by decide)]
  change fX6_emit _ 21 (-17) = _ at e
  rw [e]
  rfl
theorem Xd_j47 : Xdead n t (fun h => fX6_readClause_j47 h 21 1) := Xd_cg (Xd_bind (Xd_sum 63 0) Xd_j57) (fun g a s w H => by
  show fX6_readClause_j47 _ _ _ = _
  unfold fX6_readClause_j47
  rw [if_neg (by decide)]
  rfl)
theorem X_clauseL {i : Nat} {g : eg_H} {C : List Int32} (H : Tp n t g) (hL : LR g C) (hC : C.length ≤ i) (hi : i ≤ n) : ∃ g' a s w, fX6_readClause (fin g (nI i) (sg t n i) (-1)) 21 = some (fin g' a s w) ∧ eg_eq S21 g g' ∧ oC t n (pClause t n i) C g' a s w := by
  have hs' : ∀ a b c, eg_stt (fin g a b c) := fun _ _ _ => H.1
  have hn := H.2.1
  have tail : fX6_readClause (fin g (nI i) (sg t n i) (-1)) 21 = (fX10_need (fin g (nI i) (sg t n i) (-1)) 17 121).bind fun h3 => (eg_gR h3 6 0 21).bind fun p5 => (fX10_need h3 p5 58).bind fun h7 => (eg_gR h7 6 0 21).bind fun p9 => (fX10_sign h7 p9).bind fun ⟨v12, h11⟩ => if v12 = (33 : Int32) then fX6_readClause_j46 h11 21 else (eg_gR h11 6 0 21).bind fun p15 => (fX10_sign h11 p15).bind fun ⟨v18, h17⟩ => if v18 = (40 : Int32) then fX6_readClause_j46 h17 21 else fX6_readClause_j47 h17 21 (1 : Int32) := by
    unfold fX6_readClause
    rw [if_pos (iO_21 (hs' _ _ _)), gR_21 (hs' _ _ _), rf_21_0 (hs' _ _ _), Option.bind_some]
  rw [tail, X_need H (by omega)]
  have dead : ∀ e, e ≤ n → ∃ g' a s w, ((eg_gR (fin g (nI n) 0 (nI e)) 6 0 21).bind fun p9 => (fX10_sign (fin g (nI n) 0 (nI e)) p9).bind fun ⟨v12, h11⟩ => if v12 = (33 : Int32) then fX6_readClause_j46 h11 21 else (eg_gR h11 6 0 21).bind fun p15 => (fX10_sign h11 p15).bind fun ⟨v18, h17⟩ => if v18 = (40 : Int32) then fX6_readClause_j46 h17 21 else fX6_readClause_j47 h17 21 (1 : Int32)) = some (fin g' a s w) ∧ eg_eq S21 g g' ∧ oC t n (.inl e) C g' a s w := by
    intro e he
    obtain ⟨g', e1, E1, l1⟩ := Xd_j47 g (nI e) H (LR_LL hL) (nI_nm1 (by omega))
    refine ⟨g', _, _, _, ?_, E1, rfl, rfl, rfl, he, l1⟩
    rw [gR_21 (hs' _ _ _), rf_21_0 (hs' _ _ _), Option.bind_some, X_sign H, Option.bind_some]
    show (if (0 : Int32) = 33 then _ else _) = _
    rw [if_neg (by decide), gR_21 (hs' _ _ _), rf_21_0 (hs' _ _ _), Option.bind_some, X_sign H, Option.bind_some]
    show (if (0 : Int32) = 40 then _ else _) = _
    rw [if_neg (by decide)]
    exact e1
  unfold pClause
  by_cases c1 : sg t n i = 121
  · have hlt := sg_n c1 (by decide)
    have hge := skp_ge t n (i + 1)
    have hj := skp_le t n (i + 1) hlt
    rw [if_pos c1, if_pos c1, Option.bind_some, gR_21 (hs' _ _ _), rf_21_0 (hs' _ _ _), Option.bind_some, X_need H (by omega)]
    generalize hjj : skp t n (i + 1) = j at hge hj
    by_cases c2 : sg t n j = 58
    · have hlt2 := sg_n c2 (by decide)
      have hge2 := skp_ge t n (j + 1)
      have hk := skp_le t n (j + 1) hlt2
      have hkk := skp_id t n (j + 1)
      rw [if_pos c2, if_pos c2, Option.bind_some, gR_21 (hs' _ _ _), rf_21_0 (hs' _ _ _), Option.bind_some, X_sign H, Option.bind_some]
      generalize skp t n (j + 1) = k at hge2 hk hkk
      have hcond : sg t n k = 33 ∨ sg t n k = 40 → ∃ g' a s w, fX6_readClause_j46 (fin g (nI k) (sg t n k) (-1)) 21 = some (fin g' a s w) ∧ eg_eq S21 g g' ∧ oC t n (pWhen t n (pCondF t n (pUnit t n 6) (pUnit t n 6 k))) C g' a s w := by
        intro hz
        have q := Xl_cond (rc := fX6_readUnit eg_D) (d := nI 0) (un := pUnit t n 6) (fun i hi => X_unit 6 eg_D 0 i rfl (by rw [eg_D_eq]; omega) hi) (fun i hi => pOk_unit 6 i hi) hk
        obtain ⟨g1, a, s, w, e1, E1, o1⟩ := q g C H hL (by omega)
        have H1 := Tp_S21 H E1
        obtain ⟨g2, a2, s2, w2, e2, E2, o2⟩ := X_when H1 o1 (pOk_condF (fun i hi => pOk_unit 6 i hi) (pOk_unit 6 k hk)) (by omega)
        refine ⟨g2, a2, s2, w2, ?_, eq_tr E1 E2, o2⟩
        show fX6_readClause_j57 _ 21 0 = _
        unfold fX6_readClause_j57
        rw [if_pos rfl, j68_eq 0 H e1 H1, e2]
      show ∃ g' a s w, (if sg t n k = (33 : Int32) then _ else _) = _ ∧ _
      by_cases c3 : sg t n k = 33
      · rw [if_pos c3, if_pos (Or.inl c3)]
        exact hcond (Or.inl c3)
      · rw [if_neg c3, gR_21 (hs' _ _ _), rf_21_0 (hs' _ _ _), Option.bind_some, X_sign H, Option.bind_some]
        show ∃ g' a s w, (if sg t n k = (40 : Int32) then _ else _) = _ ∧ _
        by_cases c4 : sg t n k = 40
        · rw [if_pos c4, if_pos (Or.inr c4)]
          exact hcond (Or.inr c4)
        · rw [if_neg c4, if_neg (by intro z; rcases z with z | z; exact c3 z; exact c4 z)]
          show ∃ g' a s w, fX6_readClause_j47 (fin g (nI k) (sg t n k) (-1)) 21 1 = _ ∧ _
          unfold fX6_readClause_j47
          rw [if_neg (by decide)]
          obtain ⟨g1, a, s, w, e1, E1, o1⟩ := X_sum 6 eg_D 0 k rfl (by rw [eg_D_eq]; omega) hk g C H hL (by omega)
          have H1 := Tp_S21 H E1
          have s1 : ∀ a b c, eg_stt (fin g1 a b c) := fun _ _ _ => H1.1
          have ok := pOk_sum (t := t) 6 k hk
          change fX6_readSum eg_D _ 21 0 = _ at e1
          rw [e1, Option.bind_some]
          cases hr : pSum t n 6 k with
          | inl e =>
            rw [hr] at o1
            obtain ⟨u2, u3, u4, u5, u6⟩ := o1
            subst u2; subst u3; subst u4
            obtain ⟨g2, e2, E2, l2⟩ := Xd_j57 g1 (nI e) H1 u6 (nI_nm1 (by omega))
            exact ⟨g2, _, _, _, e2, eq_tr E1 E2, rfl, rfl, rfl, u5, l2⟩
          | inr q =>
            rw [hr] at o1 ok
            obtain ⟨u2, u3, u4, u5, u6, u7, u8⟩ := o1
            obtain ⟨m1, m2, m3⟩ := ok
            subst u2; subst u3; subst u4
            dsimp only
            unfold fX6_readClause_j57
            rw [if_neg (by decide), X_comparison H1, Option.bind_some]
            show ∃ g' a s w, (if cpI (opC (sg t n q.1)) = 0 then _ else _) = _ ∧ _
            cases ho : opC (sg t n q.1) with
            | none =>
              rw [if_pos (show cpI none = 0 from rfl), if_neg (by simp)]
              obtain ⟨g2, e2, E2, l2⟩ := X_emit H1 u5 (by simp only [List.length_append]; omega) (nI q.1) (sg t n q.1) (-1) (-17)
              rw [e2]
              refine ⟨g2, _, _, _, rfl, eq_tr E1 E2, rfl, rfl, rfl, ?_, ?_, m2, m3⟩
              · show LR g2 (C ++ (q.2.1 ++ [-17]))
                rw [← List.append_assoc]; exact l2
              · show C.length + (q.2.1 ++ [-17]).length ≤ q.1
                simp only [List.length_append, List.length_cons, List.length_nil]; omega
            | some o =>
              have hne := cp_ne ho
              rw [ho] at hne
              rw [if_neg hne, if_pos (show (some o).isSome = true from rfl)]
              have z := Xs_cond (rc := fX6_readUnit eg_D) (d := nI 0) (b := 1) (un := pUnit t n 6) (fun i hi => X_unit 6 eg_D 0 i rfl (by rw [eg_D_eq]; omega) hi) (fun i hi => pOk_unit 6 i hi) (X_unit1 (m := 63) (d := 6) (dep := 0) rfl q) g1 C H1 u5 u6 u7 u8
              obtain ⟨g2, a, s, w, e2, E2, o2⟩ := z
              have H2 := Tp_S21 H1 E2
              obtain ⟨g3, a3, s3, w3, e3, E3, o3⟩ := X_when (i := k) H2 o2 (pOk_condF (fun i hi => pOk_unit 6 i hi) (pOk_cmp 6 m1 m2)) (by omega)
              refine ⟨g3, a3, s3, w3, ?_, eq_tr E1 (eq_tr E2 E3), o3⟩
              rw [j68_eq 1 H1 e2 H2, e3]
    · rw [if_neg c2, if_neg c2, if_pos rfl, Option.bind_some]
      exact dead j hj
  · rw [if_neg c1, if_neg c1, if_pos rfl, Option.bind_some, gR_21 (hs' _ _ _), rf_21_0 (hs' _ _ _), Option.bind_some, X_need H (by omega), if_neg (by decide), if_neg (nI_nm1 (by omega)), Option.bind_some]
    exact dead i hi
end XU
