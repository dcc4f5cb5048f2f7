def Lt5 (h : eg_H) (p : Nat) (env : Nat → Int32) : Prop := ∀ l, l < 5 → eg_I h (p + 2) l = env l
def Sg (env : Nat → Int32) (c : List Int32) (v : Int32) (nd : Nat) : Prop := ∀ h p C A B k F, Lw h p C → Lt5 h p env → C = A ++ c ++ B → k + nd ≤ 40 → ∃ h', Wr (F + c.length) h p k A.length = Wr F h' p (k + 1) (A.length + c.length) ∧ eg_eq (Sw p) h h' ∧ (∀ j, j < k → eg_I h' (p + 1) j = eg_I h (p + 1) j) ∧ eg_I h' (p + 1) k = v
def pSg (env : Nat → Int32) (nd : Nat) (r : eg_PR) : Prop := match r with
  | .inl _ => True
  | .inr q => Sg env q.2.1 (q.2.2 env) nd
def pNE (r : eg_PR) : Prop := match r with
  | .inl _ => True
  | .inr q => ∀ x ∈ q.2.1, ¬ x = -17
theorem Lt5_eq {h h' : eg_H} {p : Nat} {env : Nat → Int32} (L : Lt5 h p env) (E : eg_eq (Sw p) h h') : Lt5 h' p env := fun l hl => by
  rw [(E.2 (p + 2) l (by rw [cov_Sw]; simp)).1]; exact L l hl
theorem gd_mid (A B : List Int32) (x : Int32) : (A ++ [x] ++ B).getD A.length 0 = x := by simp
section SG
variable {env : Nat → Int32}
theorem Sg_mono {c : List Int32} {v : Int32} {m m' : Nat} (h : Sg env c v m) (hm : m ≤ m') : Sg env c v m' := fun h0 p C A B k F a1 a2 a3 a4 => h h0 p C A B k F a1 a2 a3 (by omega)
theorem Sg_num {x : Int32} (h5 : ¬ x < -5) (h0 : ¬ x < 0) : Sg env [x] x 1 := by
  intro h p C A B k F L T hC hk
  have hi : A.length < C.length := by rw [hC]; simp
  refine ⟨eg_sI h (p + 1) k x, W_num L hi (by rw [hC, gd_mid]) h5 h0 (by omega), Sw_w, fun j hj => ?_, ?_⟩
  · rw [I_sI, if_neg (by omega)]
  · rw [I_sI, if_pos ⟨rfl, rfl⟩]
theorem Sg_let {l : Nat} (hl : l < 5) : Sg env [-1 - nI l] (env l) 1 := by
  intro h p C A B k F L T hC hk
  have hi : A.length < C.length := by rw [hC]; simp
  refine ⟨eg_sI h (p + 1) k (eg_I h (p + 2) l), W_let L hi hl (by rw [hC, gd_mid]) (by omega), Sw_w, fun j hj => ?_, ?_⟩
  · rw [I_sI, if_neg (by omega)]
  · rw [I_sI, if_pos ⟨rfl, rfl⟩, T l hl]
theorem Sg_bin {c1 c2 : List Int32} {v1 v2 o : Int32} {m : Nat} (h1 : Sg env c1 v1 (m + 1)) (h2 : Sg env c2 v2 m) (hm : 1 ≤ m) (ho : o ∈ oB) : Sg env (c1 ++ c2 ++ [o]) (opV o v1 v2) (m + 1) := by
  intro h p C A B k F L T hC hk
  obtain ⟨g1, e1, E1, f1, v1'⟩ := h1 h p C A (c2 ++ [o] ++ B) k (F + 1 + c2.length) L T (by rw [hC]; simp) (by omega)
  have L1 := Lw_eq L E1
  obtain ⟨g2, e2, E2, f2, v2'⟩ := h2 g1 p C (A ++ c1) ([o] ++ B) (k + 1) (F + 1) L1 (Lt5_eq T E1) (by rw [hC]; simp) (by omega)
  have L2 := Lw_eq L1 E2
  rw [List.length_append] at e2
  have hi : (A ++ c1 ++ c2).length < C.length := by rw [hC]; simp only [List.length_append, List.length_cons, List.length_nil]; omega
  have e3 := W_bin L2 (i := (A ++ c1 ++ c2).length) (k := k) (F := F) ho hi (by rw [hC]; have := gd_mid (A ++ c1 ++ c2) B o; simpa using this) (by omega)
  refine ⟨eg_sI g2 (p + 1) k (opV o (eg_I g2 (p + 1) k) (eg_I g2 (p + 1) (k + 1))), ?_, eq_tr E1 (eq_tr E2 Sw_w), fun j hj => ?_, ?_⟩
  · show Wr (F + (c1 ++ c2 ++ [o]).length) h p k A.length = _
    have hl : F + (c1 ++ c2 ++ [o]).length = F + 1 + c2.length + c1.length := by simp only [List.length_append, List.length_cons, List.length_nil]; omega
    rw [hl, e1, e2]
    have hl2 : A.length + c1.length + c2.length = (A ++ c1 ++ c2).length := by rw [List.length_append, List.length_append]
    rw [hl2, e3]
    congr 1
    simp only [List.length_append, List.length_cons, List.length_nil]; omega
  · rw [I_sI, if_neg (by omega), f2 j (by omega), f1 j hj]
  · rw [I_sI, if_pos ⟨rfl, rfl⟩, f2 k (by omega), v1', v2']
theorem Sg_not {c : List Int32} {v : Int32} {m : Nat} (h1 : Sg env c v m) (hm : 1 ≤ m) : Sg env (c ++ [-15]) (1 - v) m := by
  intro h p C A B k F L T hC hk
  obtain ⟨g1, e1, E1, f1, v1'⟩ := h1 h p C A ([-15] ++ B) k (F + 1) L T (by rw [hC]; simp) (by omega)
  have L1 := Lw_eq L E1
  have hi : (A ++ c).length < C.length := by rw [hC]; simp only [List.length_append, List.length_cons, List.length_nil]; omega
  have e3 := W_not L1 (i := (A ++ c).length) (k := k) (F := F) hi (by rw [hC]; have := gd_mid (A ++ c) B (-15); simpa using this) (by omega)
  refine ⟨eg_sI g1 (p + 1) k (1 - eg_I g1 (p + 1) k), ?_, eq_tr E1 Sw_w, fun j hj => ?_, ?_⟩
  · show Wr (F + (c ++ [-15]).length) h p k A.length = _
    have hl : F + (c ++ [-15]).length = F + 1 + c.length := by simp only [List.length_append, List.length_cons, List.length_nil]; omega
    rw [hl, e1]
    have hl2 : A.length + c.length = (A ++ c).length := by rw [List.length_append]
    rw [hl2, e3]
    congr 1
    simp only [List.length_append, List.length_cons, List.length_nil]; omega
  · rw [I_sI, if_neg (by omega), f1 j hj]
  · rw [I_sI, if_pos ⟨rfl, rfl⟩, v1']
theorem pSg_mono {m m' : Nat} {r : eg_PR} (h : pSg env m r) (hm : m ≤ m') : pSg env m' r := by
  cases r with
  | inl e => trivial
  | inr q => exact Sg_mono h hm
theorem pSg_B {m : Nat} {r : eg_PR} {k : eg_PV → eg_PR} (h : ∀ q, r = .inr q → pSg env m (k q)) : pSg env m (pB r k) := by
  cases r with
  | inl e => trivial
  | inr q => exact h q rfl
section
variable {t : Nat → Int32} {n : Nat}
theorem pSg_L {ops : Int32 → Option Int32} (hb : ∀ s o, ops s = some o → o ∈ oB) {nx : Nat → eg_PR} {m : Nat} (hm : 1 ≤ m) (hx : ∀ i, pSg env m (nx i)) : ∀ f r, Sg env r.2.1 (r.2.2 env) (m + 1) → pSg env (m + 1) (pL t n ops nx f r) := by
  intro f
  induction f with
  | zero => intro r h; exact h
  | succ f ih =>
    intro r h
    unfold pL
    cases ho : ops (sg t n r.1) with
    | none => exact h
    | some o =>
      have q := hx (skp t n (r.1 + 1))
      dsimp only
      cases hr : nx (skp t n (r.1 + 1)) with
      | inl e => trivial
      | inr w =>
        rw [hr] at q
        exact ih _ (Sg_bin h q hm (hb _ _ ho))
theorem oT_B (s o : Int32) (h : opT s = some o) : o ∈ oB := by
  unfold opT at h
  by_cases c1 : s = 42
  · rw [if_pos c1] at h; cases h; decide
  · rw [if_neg c1] at h
    by_cases c2 : s = 47
    · rw [if_pos c2] at h; cases h; decide
    · rw [if_neg c2] at h; cases h
theorem oS_B (s o : Int32) (h : opS s = some o) : o ∈ oB := by
  unfold opS at h
  by_cases c1 : s = 43
  · rw [if_pos c1] at h; cases h; decide
  · rw [if_neg c1] at h
    by_cases c2 : s = 45
    · rw [if_pos c2] at h; cases h; decide
    · rw [if_neg c2] at h; cases h
theorem oA_B (s o : Int32) (h : opA s = some o) : o ∈ oB := by
  unfold opA at h
  by_cases c1 : s = 38
  · rw [if_pos c1] at h; cases h; decide
  · rw [if_neg c1] at h; cases h
theorem oO_B (s o : Int32) (h : opO s = some o) : o ∈ oB := by
  unfold opO at h
  by_cases c1 : s = 124
  · rw [if_pos c1] at h; cases h; decide
  · rw [if_neg c1] at h; cases h
theorem oC_B (s o : Int32) (h : opC s = some o) : o ∈ oB := by
  unfold opC at h
  by_cases c1 : s = 61
  · rw [if_pos c1] at h; cases h; decide
  · rw [if_neg c1] at h
    by_cases c2 : s = 60
    · rw [if_pos c2] at h; cases h; decide
    · rw [if_neg c2] at h
      by_cases c3 : s = 62
      · rw [if_pos c3] at h; cases h; decide
      · rw [if_neg c3] at h; cases h
theorem nI_n5 {k : Nat} (hk : k ≤ 9999) : ¬ nI k < -5 ∧ ¬ nI k < 0 ∧ ¬ nI k = -17 := by
  have h3 : i3 (k : Int) := by unfold i3; omega
  rw [← iI_n]
  refine ⟨fun w => ?_, fun w => ?_, fun w => ?_⟩
  · rw [show (-5 : Int32) = iI (-5) by decide] at w; have := (iI_lt (b := -5) h3 (by unfold i3; omega)).mp w; omega
  · have := (iI_lt (b := 0) h3 (by unfold i3; omega)).mp w; omega
  · rw [show (-17 : Int32) = iI (-17) by decide] at w; have := (iI_eq (b := -17) h3 (by unfold i3; omega)).mp w; omega
theorem pSg_atom {br : Nat → eg_PR} {m : Nat} (hm : 1 ≤ m) (hb : ∀ i, pSg env m (br i)) (i : Nat) : pSg env m (pAtom t n br i) := by
  unfold pAtom
  by_cases hd : dg (sg t n i)
  · rw [if_pos hd]
    cases hq : numE t n 4 i 0 1000000 with
    | some e => trivial
    | none =>
      obtain ⟨k, v1, v2⟩ := nv_4 t n i
      have := nI_n5 v2
      show Sg env [nvF t n 4 i 0] (nvF t n 4 i 0) m
      rw [v1]
      exact Sg_mono (Sg_num this.1 this.2.1) hm
  · rw [if_neg hd]
    cases hl : lt5 (sg t n i) with
    | some l => exact Sg_mono (Sg_let (lt5_c hl).1) hm
    | none =>
      dsimp only
      by_cases hs : sg t n i = 91
      · rw [if_pos hs]; exact hb i
      · rw [if_neg hs]; trivial
theorem pSg_sumB {br : Nat → eg_PR} {m : Nat} (hm : 1 ≤ m) (hb : ∀ i, pSg env m (br i)) (i : Nat) : pSg env (m + 2) (pSumB t n br i) := by
  have hA := fun i => pSg_atom (t := t) (n := n) hm hb i
  have hT : ∀ i, pSg env (m + 1) (pTerm t n br i) := fun i => pSg_B (fun q hq => pSg_L oT_B hm hA 161 q (by have := hA i; rw [hq] at this; exact Sg_mono this (by omega)))
  exact pSg_B (fun q hq => pSg_L oS_B (by omega) hT 161 q (by have := hT i; rw [hq] at this; exact Sg_mono this (by omega)))
theorem pSg_N {m : Nat} {q : eg_PV} (c : Int32) (h : Sg env q.2.1 (q.2.2 env) m) : pSg env m (pN t n c q (fun j => .inr (j, q.2))) := by
  unfold pN
  split
  · exact h
  · trivial
theorem pSg_sum : ∀ d i, pSg env (3 + 2 * d) (pSum t n d i) := by
  intro d
  induction d with
  | zero => intro i; exact pSg_sumB (br := fun i => .inl i) (m := 1) (Nat.le_refl _) (fun _ => trivial) i
  | succ d ih =>
    intro i
    have := pSg_sumB (t := t) (n := n) (env := env) (br := fun i => pB (pSum t n d (skp t n (i + 1))) (fun q => pN t n 93 q (fun j => .inr (j, q.2)))) (m := 3 + 2 * d) (by omega) (fun j => pSg_B (fun q hq => pSg_N 93 (by have := ih (skp t n (j + 1)); rw [hq] at this; exact this))) i
    exact pSg_mono this (by omega)
theorem pSg_cmp (d : Nat) {q : eg_PV} (h : Sg env q.2.1 (q.2.2 env) (3 + 2 * d)) : pSg env (4 + 2 * d) (pCmp t n d q) := by
  unfold pCmp
  cases ho : opC (sg t n q.1) with
  | none => trivial
  | some o =>
    refine pSg_B (fun w hw => ?_)
    have hs := pSg_sum (t := t) (n := n) (env := env) d (skp t n (q.1 + 1))
    rw [hw] at hs
    exact Sg_mono (Sg_bin (m := 3 + 2 * d) (Sg_mono h (by omega)) hs (by omega) (oC_B _ _ ho)) (by omega)
theorem pSg_condF {un : Nat → eg_PR} {m : Nat} (hm : 1 ≤ m) (hu : ∀ i, pSg env m (un i)) {r : eg_PR} (hr : pSg env m r) : pSg env (m + 2) (pCondF t n un r) := by
  have hT : ∀ r, pSg env m r → pSg env (m + 1) (pB r (pL t n opA un 161)) := fun r h => pSg_B (fun q hq => pSg_L oA_B hm hu 161 q (by rw [hq] at h; exact Sg_mono h (by omega)))
  exact pSg_B (fun q hq => pSg_L oO_B (by omega) (fun i => hT _ (hu i)) 161 q (by have := hT r hr; rw [hq] at this; exact Sg_mono this (by omega)))
theorem pSg_unit : ∀ d i, pSg env (4 + 2 * d) (pUnit t n d i) := by
  intro d
  induction d with
  | zero =>
    intro i
    show pSg env 4 (pUnitB t n 0 (fun i => .inl i) (fun i => .inl i) i)
    unfold pUnitB
    split
    · trivial
    · split
      · trivial
      · exact pSg_B (fun q hq => pSg_cmp 0 (by have := pSg_sum (t := t) (n := n) (env := env) 0 i; rw [hq] at this; exact this))
  | succ d ih =>
    intro i
    show pSg env (4 + 2 * (d + 1)) (pUnitB t n (d + 1) _ _ i)
    unfold pUnitB
    split
    · refine pSg_B (fun q hq => ?_)
      have := ih (skp t n (i + 1))
      rw [hq] at this
      exact Sg_mono (Sg_not this (by omega)) (by omega)
    · split
      · refine pSg_B (fun q hq => pSg_N 41 ?_)
        have := pSg_condF (t := t) (n := n) (by omega) ih (ih (skp t n (i + 1)))
        rw [hq] at this
        exact Sg_mono this (by omega)
      · exact pSg_B (fun q hq => pSg_cmp (d + 1) (by have := pSg_sum (t := t) (n := n) (env := env) (d + 1) i; rw [hq] at this; exact this))
theorem pNE_L {ops : Int32 → Option Int32} (hb : ∀ s o, ops s = some o → ¬ o = -17) {nx : Nat → eg_PR} (hx : ∀ i, pNE (nx i)) : ∀ f r, (∀ x ∈ r.2.1, ¬ x = -17) → pNE (pL t n ops nx f r) := by
  intro f
  induction f with
  | zero => intro r h; exact h
  | succ f ih =>
    intro r h
    unfold pL
    cases ho : ops (sg t n r.1) with
    | none => exact h
    | some o =>
      have q := hx (skp t n (r.1 + 1))
      dsimp only
      cases hr : nx (skp t n (r.1 + 1)) with
      | inl e => trivial
      | inr w =>
        rw [hr] at q
        refine ih _ (fun x hx => ?_)
        rw [List.mem_append, List.mem_append] at hx
        rcases hx with (hx | hx) | hx
        · exact h x hx
        · exact q x hx
        · rw [List.mem_singleton] at hx; rw [hx]; exact hb _ _ ho
theorem pNE_B {r : eg_PR} {k : eg_PV → eg_PR} (h : ∀ q, r = .inr q → pNE (k q)) : pNE (pB r k) := by
  cases r with
  | inl e => trivial
  | inr q => exact h q rfl
theorem oB_17 : ∀ o ∈ oB, ¬ o = -17 := by decide
theorem pNE_sumB {br : Nat → eg_PR} (hb : ∀ i, pNE (br i)) (i : Nat) : pNE (pSumB t n br i) := by
  have hl : ∀ l, l < 5 → ¬ (-1 - nI l : Int32) = -17 := by decide
  have hA : ∀ i, pNE (pAtom t n br i) := by
    intro i
    unfold pAtom
    by_cases hd : dg (sg t n i)
    · rw [if_pos hd]
      cases hq : numE t n 4 i 0 1000000 with
      | some e => trivial
      | none =>
        obtain ⟨k, v1, v2⟩ := nv_4 t n i
        intro x hx
        have hx : x ∈ [nvF t n 4 i 0] := hx
        rw [List.mem_singleton] at hx
        rw [hx, v1]; exact (nI_n5 v2).2.2
    · rw [if_neg hd]
      cases hl5 : lt5 (sg t n i) with
      | some l =>
        intro x hx
        have hx : x ∈ [-1 - nI l] := hx
        rw [List.mem_singleton] at hx
        rw [hx]; exact hl l (lt5_c hl5).1
      | none =>
        dsimp only
        by_cases hs : sg t n i = 91
        · rw [if_pos hs]; exact hb i
        · rw [if_neg hs]; trivial
  have hT : ∀ i, pNE (pTerm t n br i) := fun i => pNE_B (fun q hq => pNE_L (fun s o h => oB_17 o (oT_B s o h)) hA 161 q (by have := hA i; rw [hq] at this; exact this))
  exact pNE_B (fun q hq => pNE_L (fun s o h => oB_17 o (oS_B s o h)) hT 161 q (by have := hT i; rw [hq] at this; exact this))
theorem pNE_sum : ∀ d i, pNE (pSum t n d i) := by
  intro d
  induction d with
  | zero => intro i; exact pNE_sumB (br := fun i => .inl i) (fun _ => trivial) i
  | succ d ih =>
    intro i
    refine pNE_sumB (fun j => pNE_B (fun q hq => ?_)) i
    unfold pN
    split
    · have := ih (skp t n (j + 1)); rw [hq] at this; exact this
    · trivial
end
end SG
