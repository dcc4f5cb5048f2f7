section XS
variable {n : Nat} {t : Nat → Int32}
def ltI (o : Option Nat) : Int32 := match o with
  | some l => -1 - nI l
  | none => 0
theorem ltI_0 {s : Int32} {l : Nat} (h : lt5 s = some l) : ¬ ltI (lt5 s) = 0 ∧ l < 5 := by
  rw [h]
  unfold lt5 at h
  split at h
  · cases h; decide
  · split at h
    · cases h; decide
    · split at h
      · cases h; decide
      · split at h
        · cases h; decide
        · split at h
          · cases h; decide
          · cases h
theorem X_letter {g : eg_H} (H : Tp n t g) {a s w : Int32} : fX6_letterUnder (fin g a s w) 21 = some (ltI (lt5 s), fin g a s w) := by
  have hs' : ∀ a b c, eg_stt (fin g a b c) := fun _ _ _ => H.1
  unfold fX6_letterUnder
  rw [if_pos (iO_21 (hs' _ _ _)), gR_21 (hs' _ _ _), rf_21_0 (hs' _ _ _), Option.bind_some, X_sign H, Option.bind_some]
  show (if s = 97 then _ else _) = _
  unfold lt5
  by_cases c1 : s = 97
  · subst c1; rfl
  · rw [if_neg c1]
    by_cases c2 : s = 98
    · subst c2; rfl
    · rw [if_neg c2]
      by_cases c3 : s = 100
      · subst c3; rfl
      · rw [if_neg c3]
        by_cases c4 : s = 114
        · subst c4; rfl
        · rw [if_neg c4]
          by_cases c5 : s = 119
          · subst c5; rfl
          · rw [if_neg c5, if_neg c3, if_neg c2, if_neg c1, if_neg c5, if_neg c4]
            rfl
theorem X_needN {c : Int32} (hc : ¬ c = 0) {q : eg_PV} {g : eg_H} {C : List Int32} (H : Tp n t g) (l1 : LR g (C ++ q.2.1)) (l2 : C.length + q.2.1.length ≤ q.1) (l3 : q.1 ≤ n) : ∃ g' a s w, fX10_need (fin g (nI q.1) (sg t n q.1) (-1)) 17 c = some (fin g' a s w) ∧ eg_eq S21 g g' ∧ oX t n (pN t n c q (fun j => .inr (j, q.2))) C g' a s w := by
  have hn := H.2.1
  rw [X_need H (by omega)]
  unfold pN
  by_cases hs : sg t n q.1 = c
  · rw [if_pos hs, if_pos hs]
    have hlt := sg_n hs hc
    have hge := skp_ge t n (q.1 + 1)
    exact ⟨g, _, _, _, rfl, eq_rfl, rfl, rfl, rfl, l1, by show C.length + q.2.1.length ≤ skp t n (q.1 + 1); omega, skp_le t n _ hlt, skp_id t n _⟩
  · rw [if_neg hs, if_neg hs, if_pos rfl]
    exact ⟨g, _, _, _, rfl, eq_rfl, rfl, rfl, rfl, l3, LR_LL l1⟩
theorem Xd_need (c : Int32) (hc : ¬ c = 0) : Xdead n t (fun h => fX10_need h 17 c) := fun g w H hL hw => ⟨g, by
  have hn := H.2.1
  show fX10_need _ _ _ = _
  rw [X_need H (by omega), if_neg (fun z => hc z.symm), if_neg hw], eq_rfl, hL⟩
def brOk (n : Nat) (t : Nat → Int32) (rc : eg_H → Nat → Int32 → Option eg_H) (dep : Nat) (br : Nat → eg_PR) : Prop :=
  (dep = 6 ∧ br = fun i => .inl i) ∨ (dep < 6 ∧ ∃ sub : Nat → eg_PR, br = (fun i => pB (sub (skp t n (i + 1))) (fun q => pN t n 93 q (fun j => .inr (j, q.2)))) ∧ ∀ j, j ≤ n → skp t n j = j → Xlive n t (fun h => rc h 21 (nI (dep + 1))) j (sub j))
theorem X_atom {rc : eg_H → Nat → Int32 → Option eg_H} {dep : Nat} {br : Nat → eg_PR} (hd : brOk n t rc dep br) {i : Nat} (hi : i ≤ n) : Xlive n t (fun h => fX6_readAtom rc h 21 (nI dep)) i (pAtom t n br i) := by
  intro g C H hL hC
  have hs' : ∀ a b c, eg_stt (fin g a b c) := fun _ _ _ => H.1
  have hn := H.2.1
  show ∃ g' a s w, fX6_readAtom rc _ _ _ = _ ∧ _
  unfold fX6_readAtom
  rw [if_pos (iO_21 (hs' _ _ _)), gR_21 (hs' _ _ _), rf_21_0 (hs' _ _ _), Option.bind_some, X_isDigit H, Option.bind_some]
  show ∃ g' a s w, (if (if dg (sg t n i) then (1 : Int32) else 0) = 0 then _ else _) = _ ∧ _
  unfold pAtom
  by_cases hdg : dg (sg t n i)
  · have hlt := sg_lt hdg
    rw [if_pos hdg, if_pos hdg, if_neg (by decide)]
    have en := X_number H (s := sg t n i) (lo := 0) (hi := 1000000) (M := 4) (i := i) (by decide) (by omega)
    rw [show nI 4 = (4 : Int32) from rfl] at en
    rw [gR_21 (hs' _ _ _), rf_21_0 (hs' _ _ _), Option.bind_some, en, Option.bind_some]
    cases hq : numE t n 4 i 0 1000000 with
    | some e =>
      obtain ⟨g1, e1, E1, l1⟩ := X_emitL H (LR_LL hL) (nI n) 0 (nI e) (nvF t n 4 i 0)
      refine ⟨g1, _, _, _, ?_, E1, rfl, rfl, rfl, numE_n hq hi, l1⟩
      show ((fX6_emit (fin g (nI n) 0 (nI e)) 21 (nvF t n 4 i 0)).bind _) = _
      rw [e1]
      rfl
    | none =>
      have hh := pOk_atom (t := t) (n := n) (br := fun i => .inl i) (fun i hi => by show i ≤ n; omega) hi
      unfold pAtom at hh
      rw [if_pos hdg, hq] at hh
      obtain ⟨k1, k2, k3'⟩ := hh
      obtain ⟨g1, e1, E1, l1⟩ := X_emit H hL (by omega) (nI (skp t n (i + ndF t n 4 i))) (sg t n (skp t n (i + ndF t n 4 i))) (-1) (nvF t n 4 i 0)
      refine ⟨g1, _, _, _, ?_, E1, rfl, rfl, rfl, l1, ?_, k2, k3'⟩
      · show ((fX6_emit (fin g (nI (skp t n (i + ndF t n 4 i))) (sg t n (skp t n (i + ndF t n 4 i))) (-1)) 21 (nvF t n 4 i 0)).bind _) = _
        rw [e1]
        rfl
      · simp only [List.length_cons, List.length_nil] at *; omega
  · rw [if_neg hdg, if_neg hdg, if_pos rfl, X_letter H, Option.bind_some]
    show ∃ g' a s w, (if ltI (lt5 (sg t n i)) = 0 then _ else _) = _ ∧ _
    cases hl : lt5 (sg t n i) with
    | some l =>
      have hl0 := (ltI_0 hl).1
      rw [hl] at hl0
      have hlt : i < n := by
        rcases Nat.lt_or_ge i n with z | z
        · exact z
        · have : sg t n i = 0 := if_neg (by omega)
          rw [this] at hl
          cases hl
      have hge := skp_ge t n (i + 1)
      obtain ⟨g1, e1, E1, l1⟩ := X_emit H hL (by omega) (nI (skp t n (i + 1))) (sg t n (skp t n (i + 1))) (-1) (-1 - nI l)
      refine ⟨g1, _, _, _, ?_, E1, rfl, rfl, rfl, l1, ?_, skp_le t n _ hlt, skp_id t n _⟩
      · rw [if_neg hl0, gR_21 (hs' _ _ _), rf_21_0 (hs' _ _ _), Option.bind_some, X_step H (by omega), Option.bind_some]
        show ((fX6_emit (fin g (nI (skp t n (i + 1))) (sg t n (skp t n (i + 1))) (-1)) 21 (-1 - nI l)).bind _) = _
        rw [e1]
        rfl
      · simp only [List.length_cons, List.length_nil] at *; omega
    | none =>
      rw [if_pos (show ltI none = 0 from rfl), gR_21 (hs' _ _ _), rf_21_0 (hs' _ _ _), Option.bind_some, X_sign H, Option.bind_some]
      show ∃ g' a s w, (if sg t n i = 91 then _ else _) = _ ∧ _
      dsimp only
      by_cases h91 : sg t n i = 91
      · have hlt := sg_n h91 (by decide)
        rw [if_pos h91, if_pos h91]
        rcases hd with ⟨d1, d2⟩ | ⟨d1, sub, d2, d3⟩
        · rw [d1, if_neg (show ¬ nI 6 < (6 : Int32) by decide), d2, gR_21 (hs' _ _ _), rf_21_0 (hs' _ _ _), Option.bind_some, X_markH H, if_pos rfl, Option.bind_some]
          exact ⟨g, _, _, _, rfl, eq_rfl, rfl, rfl, rfl, hi, LR_LL hL⟩
        · rw [if_pos (show nI dep < (6 : Int32) from nI_lt (b := 6) d1 (by decide)), d2, gR_21 (hs' _ _ _), rf_21_0 (hs' _ _ _), Option.bind_some, X_step H (by omega), Option.bind_some, if_pos (iO_21 (hs' _ _ _)), nI_1]
          have hge := skp_ge t n (i + 1)
          have q := X_seq (r2 := fun h => fX10_need h 17 93) (k := fun q => pN t n 93 q (fun j => .inr (j, q.2))) (d3 (skp t n (i + 1)) (skp_le t n _ hlt) (skp_id t n _)) (Xd_need 93 (by decide)) (fun q g C H l1 l2 l3 l4 => X_needN (by decide) H l1 l2 l3) g C H hL (by omega)
          obtain ⟨g1, a, s, w, e1, E1, o1⟩ := q
          refine ⟨g1, a, s, w, ?_, E1, o1⟩
          change ((rc (fin g (nI (skp t n (i + 1))) (sg t n (skp t n (i + 1))) (-1)) 21 (nI (dep + 1))).bind fun h => fX10_need h 17 93) = _ at e1
          cases hr : rc (fin g (nI (skp t n (i + 1))) (sg t n (skp t n (i + 1))) (-1)) 21 (nI (dep + 1)) with
          | none => rw [hr] at e1; cases e1
          | some h22 =>
            obtain ⟨g0, a0, s0, w0, e0, E0, _⟩ := d3 (skp t n (i + 1)) (skp_le t n _ hlt) (skp_id t n _) g C H hL (by omega)
            change rc (fin g (nI (skp t n (i + 1))) (sg t n (skp t n (i + 1))) (-1)) 21 (nI (dep + 1)) = _ at e0
            rw [hr] at e0
            have H0 := Tp_S21 H E0
            have s0' : ∀ a b c, eg_stt (fin g0 a b c) := fun _ _ _ => H0.1
            cases e0
            rw [hr, Option.bind_some] at e1
            rw [Option.bind_some, gR_21 (s0' _ _ _), rf_21_0 (s0' _ _ _), Option.bind_some, e1]
            rfl
      · rw [if_neg h91, if_neg h91, gR_21 (hs' _ _ _), rf_21_0 (hs' _ _ _), Option.bind_some, X_markH H, if_pos rfl, Option.bind_some]
        exact ⟨g, _, _, _, rfl, eq_rfl, rfl, rfl, rfl, hi, LR_LL hL⟩
theorem Xd_atom (rc : eg_H → Nat → Int32 → Option eg_H) (d : Int32) : Xdead n t (fun h => fX6_readAtom rc h 21 d) := by
  intro g w H hL hw
  have hs' : ∀ a b c, eg_stt (fin g a b c) := fun _ _ _ => H.1
  refine ⟨g, ?_, eq_rfl, hL⟩
  show fX6_readAtom rc _ _ _ = _
  unfold fX6_readAtom
  rw [if_pos (iO_21 (hs' _ _ _)), gR_21 (hs' _ _ _), rf_21_0 (hs' _ _ _), Option.bind_some, X_isDigit H, Option.bind_some]
  show (if (if dg (0 : Int32) then (1 : Int32) else 0) = 0 then _ else _) = _
  rw [if_pos (by decide), X_letter H, Option.bind_some]
  show (if ltI (lt5 0) = 0 then _ else _) = _
  rw [if_pos (by decide), gR_21 (hs' _ _ _), rf_21_0 (hs' _ _ _), Option.bind_some, X_sign H, Option.bind_some]
  show (if (0 : Int32) = 91 then _ else _) = _
  rw [if_neg (by decide), gR_21 (hs' _ _ _), rf_21_0 (hs' _ _ _), Option.bind_some, X_markH H, Option.bind_some, if_neg hw]
def LTm (rc : eg_H → Nat → Int32 → Option eg_H) (d : Int32) (F : Nat) (h : eg_H) (c : Int32) : Option eg_H := (fX6_readTerm_L7 rc F h 21 d c).bind fun e => match e with
  | .inl h5 => some h5
  | .inr h7 => some h7
def LSm (rc : eg_H → Nat → Int32 → Option eg_H) (d : Int32) (F : Nat) (h : eg_H) (c : Int32) : Option eg_H := (fX6_readSum_L7 rc F h 21 d c).bind fun e => match e with
  | .inl h5 => some h5
  | .inr h7 => some h7
theorem LTm_stop (rc : eg_H → Nat → Int32 → Option eg_H) (d : Int32) : ∀ F g a s w c, Tp n t g → (opT s = none ∨ (160 : Int32) ≤ c) → LTm rc d (F + 1) (fin g a s w) c = some (fin g a s w) := by
  intro F g a s w c H hc
  have hs' : ∀ a b c, eg_stt (fin g a b c) := fun _ _ _ => H.1
  unfold LTm
  rw [fX6_readTerm_L7]
  by_cases h1 : (160 : Int32) ≤ c
  · rw [if_pos h1]; rfl
  · rcases hc with hc | hc
    · rw [if_neg h1, gR_21 (hs' _ _ _), rf_21_0 (hs' _ _ _), Option.bind_some, X_sign H, Option.bind_some]
      unfold opT at hc
      by_cases c1 : s = 42
      · rw [if_pos c1] at hc; cases hc
      · by_cases c2 : s = 47
        · rw [if_neg c1, if_pos c2] at hc; cases hc
        · show (((if s = 42 then _ else _) : Option (eg_H ⊕ eg_H)).bind _) = _
          rw [if_neg c1, if_neg c2]; rfl
    · exact absurd hc h1
theorem LSm_stop (rc : eg_H → Nat → Int32 → Option eg_H) (d : Int32) : ∀ F g a s w c, Tp n t g → (opS s = none ∨ (160 : Int32) ≤ c) → LSm rc d (F + 1) (fin g a s w) c = some (fin g a s w) := by
  intro F g a s w c H hc
  have hs' : ∀ a b c, eg_stt (fin g a b c) := fun _ _ _ => H.1
  unfold LSm
  rw [fX6_readSum_L7]
  by_cases h1 : (160 : Int32) ≤ c
  · rw [if_pos h1]; rfl
  · rcases hc with hc | hc
    · rw [if_neg h1, gR_21 (hs' _ _ _), rf_21_0 (hs' _ _ _), Option.bind_some, X_sign H, Option.bind_some]
      unfold opS at hc
      by_cases c1 : s = 43
      · rw [if_pos c1] at hc; cases hc
      · by_cases c2 : s = 45
        · rw [if_neg c1, if_pos c2] at hc; cases hc
        · show (((if s = 43 then _ else _) : Option (eg_H ⊕ eg_H)).bind _) = _
          rw [if_neg c1, if_neg c2]; rfl
    · exact absurd hc h1
theorem LTm_go (rc : eg_H → Nat → Int32 → Option eg_H) (d : Int32) : ∀ F g j s w c o, Tp n t g → j ≤ 900 → opT s = some o → ¬ (160 : Int32) ≤ c → LTm rc d (F + 1) (fin g (nI j) s w) c = (fX6_readAtom rc (fin g (nI (skp t n (j + 1))) (sg t n (skp t n (j + 1))) w) 21 d).bind fun h => (fX6_emit h 21 o).bind fun h => LTm rc d F h (c + 1) := by
  intro F g j s w c o H hj ho hc
  have hs' : ∀ a b c, eg_stt (fin g a b c) := fun _ _ _ => H.1
  unfold LTm
  rw [fX6_readTerm_L7, if_neg hc, gR_21 (hs' _ _ _), rf_21_0 (hs' _ _ _), Option.bind_some, X_sign H, Option.bind_some]
  unfold opT at ho
  by_cases c1 : s = 42
  · rw [if_pos c1] at ho
    cases ho
    subst c1
    show ((fX6_readTerm_j35 rc (fX6_readTerm_L7 rc F) (fin g (nI j) 42 w) 21 d c 42).bind _) = _
    unfold fX6_readTerm_j35
    rw [gR_21 (hs' _ _ _), rf_21_0 (hs' _ _ _), Option.bind_some, X_step H (by omega), Option.bind_some, Option.bind_assoc]
    congr 1
    funext h
    rw [if_pos rfl, Option.bind_assoc]
  · rw [if_neg c1] at ho
    by_cases c2 : s = 47
    · rw [if_pos c2] at ho
      cases ho
      subst c2
      show ((fX6_readTerm_j35 rc (fX6_readTerm_L7 rc F) (fin g (nI j) 47 w) 21 d c 47).bind _) = _
      unfold fX6_readTerm_j35
      rw [gR_21 (hs' _ _ _), rf_21_0 (hs' _ _ _), Option.bind_some, X_step H (by omega), Option.bind_some, Option.bind_assoc]
      congr 1
      funext h
      rw [if_neg (by decide), Option.bind_assoc]
    · rw [if_neg c2] at ho; cases ho
theorem LSm_go (rc : eg_H → Nat → Int32 → Option eg_H) (d : Int32) : ∀ F g j s w c o, Tp n t g → j ≤ 900 → opS s = some o → ¬ (160 : Int32) ≤ c → LSm rc d (F + 1) (fin g (nI j) s w) c = (fX6_readTerm rc (fin g (nI (skp t n (j + 1))) (sg t n (skp t n (j + 1))) w) 21 d).bind fun h => (fX6_emit h 21 o).bind fun h => LSm rc d F h (c + 1) := by
  intro F g j s w c o H hj ho hc
  have hs' : ∀ a b c, eg_stt (fin g a b c) := fun _ _ _ => H.1
  unfold LSm
  rw [fX6_readSum_L7, if_neg hc, gR_21 (hs' _ _ _), rf_21_0 (hs' _ _ _), Option.bind_some, X_sign H, Option.bind_some]
  unfold opS at ho
  by_cases c1 : s = 43
  · rw [if_pos c1] at ho
    cases ho
    subst c1
    show ((fX6_readSum_j35 rc (fX6_readSum_L7 rc F) (fin g (nI j) 43 w) 21 d c 43).bind _) = _
    unfold fX6_readSum_j35
    rw [gR_21 (hs' _ _ _), rf_21_0 (hs' _ _ _), Option.bind_some, X_step H (by omega), Option.bind_some, Option.bind_assoc]
    congr 1
    funext h
    rw [if_pos rfl, Option.bind_assoc]
  · rw [if_neg c1] at ho
    by_cases c2 : s = 45
    · rw [if_pos c2] at ho
      cases ho
      subst c2
      show ((fX6_readSum_j35 rc (fX6_readSum_L7 rc F) (fin g (nI j) 45 w) 21 d c 45).bind _) = _
      unfold fX6_readSum_j35
      rw [gR_21 (hs' _ _ _), rf_21_0 (hs' _ _ _), Option.bind_some, X_step H (by omega), Option.bind_some, Option.bind_assoc]
      congr 1
      funext h
      rw [if_neg (by decide), Option.bind_assoc]
    · rw [if_neg c2] at ho; cases ho
theorem Xl_cg {r1 r2 : eg_H → Option eg_H} {i : Nat} {r : eg_PR} (h : Xlive n t r1 i r) (e : ∀ g a s w, Tp n t g → r2 (fin g a s w) = r1 (fin g a s w)) : Xlive n t r2 i r := fun g C H hL hC => by
  obtain ⟨g', a, s, w, q⟩ := h g C H hL hC
  exact ⟨g', a, s, w, (e _ _ _ _ H).trans q.1, q.2⟩
theorem Xd_cg {r1 r2 : eg_H → Option eg_H} (h : Xdead n t r1) (e : ∀ g a s w, Tp n t g → r2 (fin g a s w) = r1 (fin g a s w)) : Xdead n t r2 := fun g w H hL hw => by
  obtain ⟨g', q⟩ := h g w H hL hw
  exact ⟨g', (e _ _ _ _ H).trans q.1, q.2⟩
theorem term_eq (rc : eg_H → Nat → Int32 → Option eg_H) (d : Int32) {g : eg_H} {a s w : Int32} (H : Tp n t g) : fX6_readTerm rc (fin g a s w) 21 d = (fX6_readAtom rc (fin g a s w) 21 d).bind fun h => LTm rc d eg_F h 0 := by
  have hs' : ∀ a b c, eg_stt (fin g a b c) := fun _ _ _ => H.1
  unfold fX6_readTerm LTm
  rw [if_pos (iO_21 (hs' _ _ _))]
  rfl
theorem sum_eq (rc : eg_H → Nat → Int32 → Option eg_H) (d : Int32) {g : eg_H} {a s w : Int32} (H : Tp n t g) : fX6_readSumB rc (fin g a s w) 21 d = (fX6_readTerm rc (fin g a s w) 21 d).bind fun h => LSm rc d eg_F h 0 := by
  have hs' : ∀ a b c, eg_stt (fin g a b c) := fun _ _ _ => H.1
  unfold fX6_readSumB LSm
  rw [if_pos (iO_21 (hs' _ _ _))]
  rfl
theorem br_ok {rc : eg_H → Nat → Int32 → Option eg_H} {dep : Nat} {br : Nat → eg_PR} (hd : brOk n t rc dep br) (hs : ∀ d, ∀ i, i ≤ n → pOk t n i (pSum t n d i)) (hb : ∀ i, i < n → pOk t n i (br i)) : ∀ i, i ≤ n → pOk t n i (pTerm t n br i) := fun i hi => pOk_B (pOk_atom hb hi) (fun q _ q1 q2 q3 => pOk_L rfl (fun j hj _ => pOk_atom hb hj) 161 q i q1 q2 q3)
theorem X_term {rc : eg_H → Nat → Int32 → Option eg_H} {dep : Nat} {br : Nat → eg_PR} (hd : brOk n t rc dep br) (hb : ∀ i, i < n → pOk t n i (br i)) {i : Nat} (hi : i ≤ n) : Xlive n t (fun h => fX6_readTerm rc h 21 (nI dep)) i (pTerm t n br i) :=
  Xl_cg (X_lp (L := LTm rc (nI dep)) rfl (X_atom hd hi) (LTm_stop rc _) (fun F g j s w c o H hj ho hc => LTm_go rc (nI dep) F g j s w c o H hj ho hc) (fun j hj _ => X_atom hd hj) (fun j hj _ => pOk_atom hb hj)) (fun g a s w H => term_eq rc (nI dep) H)
theorem Xd_term (rc : eg_H → Nat → Int32 → Option eg_H) (d : Int32) : Xdead n t (fun h => fX6_readTerm rc h 21 d) := Xd_cg (Xd_lp (L := LTm rc d) (ops := opT) rfl (Xd_atom rc d) (LTm_stop rc d)) (fun g a s w H => term_eq rc d H)
theorem X_sumB {rc : eg_H → Nat → Int32 → Option eg_H} {dep : Nat} {br : Nat → eg_PR} (hd : brOk n t rc dep br) (hb : ∀ i, i < n → pOk t n i (br i)) {i : Nat} (hi : i ≤ n) : Xlive n t (fun h => fX6_readSumB rc h 21 (nI dep)) i (pSumB t n br i) :=
  Xl_cg (X_lp (L := LSm rc (nI dep)) rfl (X_term hd hb hi) (LSm_stop rc _) (fun F g j s w c o H hj ho hc => LSm_go rc (nI dep) F g j s w c o H hj ho hc) (fun j hj _ => X_term hd hb hj) (fun j hj _ => br_ok hd (fun d i hi => pOk_sum d i hi) hb j hj)) (fun g a s w H => sum_eq rc (nI dep) H)
theorem Xd_sum (m : Nat) (d : Int32) : Xdead n t (fun h => fX6_readSum (m + 1) h 21 d) := Xd_cg (Xd_lp (L := LSm (fX6_readSum m) d) (ops := opS) rfl (Xd_term (fX6_readSum m) d) (LSm_stop _ d)) (fun g a s w H => sum_eq (fX6_readSum m) d H)
theorem X_sum : ∀ d m dep i, dep + d = 6 → d < m → i ≤ n → Xlive n t (fun h => fX6_readSum m h 21 (nI dep)) i (pSum t n d i) := by
  intro d
  induction d with
  | zero =>
    intro m dep i h1 h2 hi
    obtain ⟨m, rfl⟩ : ∃ m', m = m' + 1 := ⟨m - 1, by omega⟩
    exact X_sumB (Or.inl ⟨by omega, rfl⟩) (fun i hi => by show i ≤ n; omega) hi
  | succ d ih =>
    intro m dep i h1 h2 hi
    obtain ⟨m, rfl⟩ : ∃ m', m = m' + 1 := ⟨m - 1, by omega⟩
    refine X_sumB (Or.inr ⟨by omega, pSum t n d, rfl, fun j hj _ => ih m (dep + 1) j (by omega) (by omega) hj⟩) (fun j hj => ?_) hi
    have := skp_ge t n (j + 1)
    exact pOk_B (pOk_up (pOk_sum d (skp t n (j + 1)) (skp_le t n _ hj)) (by omega)) (fun q _ q1 q2 q3 => pOk_N (by decide) q1 q2)
end XS
