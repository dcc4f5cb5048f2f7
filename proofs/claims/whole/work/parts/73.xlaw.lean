def S21 : List (Nat × Option Nat) := [(21, some 2), (22, none)]
theorem Tp_S21 {n : Nat} {t : Nat → Int32} {g g' : eg_H} (H : Tp n t g) (E : eg_eq S21 g g') : Tp n t g' := Tp_eq H E (eq_stt E H.1 (by decide)) rfl (fun _ => rfl)
def LL (g : eg_H) : Prop := ∃ L, L ≤ 160 ∧ eg_I g 21 2 = nI L
def LR (g : eg_H) (C : List Int32) : Prop := C.length ≤ 160 ∧ eg_I g 21 2 = nI C.length ∧ ∀ k, k < C.length → eg_I g 22 k = C.getD k 0
theorem LR_LL {g : eg_H} {C : List Int32} (h : LR g C) : LL g := ⟨C.length, h.1, h.2.1⟩
def oX (t : Nat → Int32) (n : Nat) (r : eg_PR) (C : List Int32) (g : eg_H) (a s w : Int32) : Prop := match r with
  | .inl e => a = nI n ∧ s = 0 ∧ w = nI e ∧ e ≤ n ∧ LL g
  | .inr q => a = nI q.1 ∧ s = sg t n q.1 ∧ w = -1 ∧ LR g (C ++ q.2.1) ∧ C.length + q.2.1.length ≤ q.1 ∧ q.1 ≤ n ∧ skp t n q.1 = q.1
section XL
variable {n : Nat} {t : Nat → Int32}
theorem X_emit0 {g : eg_H} {L : Nat} (H : Tp n t g) (hL : eg_I g 21 2 = nI L) (a s w x : Int32) : fX6_emit (fin g a s w) 21 x = if 160 ≤ L ∧ L ≤ 160 then some (fin g a s w) else if L < 160 then some (fin (eg_sI (eg_sI g 22 L x) 21 2 (nI (L + 1))) a s w) else fX6_emit (fin g a s w) 21 x := by
  have hs' : ∀ a b c, eg_stt (fin g a b c) := fun _ _ _ => H.1
  by_cases h1 : 160 ≤ L ∧ L ≤ 160
  · rw [if_pos h1]
    unfold fX6_emit
    rw [if_pos (iO_21 (hs' _ _ _)), gI_21 (hs' _ _ _), Option.bind_some, gR_21 (hs' _ _ _), rf_21_1 (hs' _ _ _), Option.bind_some, al_22 (hs' _ _ _), Option.bind_some, fin_i _ _ _ _ (by decide), hL, if_pos (nI_le (by omega) (by omega))]
  · rw [if_neg h1]
    by_cases h2 : L < 160
    · rw [if_pos h2]
      have hcl : (nI L).toNatClampNeg = L := nI_clamp (by omega)
      have s1 : ∀ a b c, eg_stt (fin (eg_sI g 22 L x) a b c) := fun _ _ _ => H.1
      unfold fX6_emit
      rw [if_pos (iO_21 (hs' _ _ _)), gI_21 (hs' _ _ _), Option.bind_some, gR_21 (hs' _ _ _), rf_21_1 (hs' _ _ _), Option.bind_some, al_22 (hs' _ _ _), Option.bind_some, fin_i _ _ _ _ (by decide), hL, if_neg (nI_ge h2 (by decide)), Option.bind_some, Option.bind_some, wI_22 (hs' _ _ _) (nI_pos (by omega)) (by rw [hcl]; exact h2), hcl, Option.bind_some, fin_sI _ _ _ _ _ (by decide), gI_21 (s1 _ _ _), Option.bind_some, fin_i _ _ _ _ (by decide), I_sI, if_neg (by omega), hL, pI_21 (s1 _ _ _), Option.bind_some, fin_sI _ _ _ _ _ (by decide), nI_1]
    · rw [if_neg h2]
theorem X_emitL {g : eg_H} (H : Tp n t g) (hL : LL g) (a s w x : Int32) : ∃ g', fX6_emit (fin g a s w) 21 x = some (fin g' a s w) ∧ eg_eq S21 g g' ∧ LL g' := by
  obtain ⟨L, h1, h2⟩ := hL
  rw [X_emit0 H h2]
  by_cases h : 160 ≤ L ∧ L ≤ 160
  · rw [if_pos h]; exact ⟨g, rfl, eq_rfl, L, h1, h2⟩
  · rw [if_neg h, if_pos (by omega)]
    exact ⟨_, rfl, eq_sI (eq_sI eq_rfl rfl) rfl, L + 1, by omega, by rw [I_sI, if_pos ⟨rfl, rfl⟩]⟩
theorem X_emit {g : eg_H} {C : List Int32} (H : Tp n t g) (hL : LR g C) (hC : C.length < 160) (a s w x : Int32) : ∃ g', fX6_emit (fin g a s w) 21 x = some (fin g' a s w) ∧ eg_eq S21 g g' ∧ LR g' (C ++ [x]) := by
  obtain ⟨h1, h2, h3⟩ := hL
  rw [X_emit0 H h2, if_neg (by omega), if_pos hC]
  refine ⟨_, rfl, eq_sI (eq_sI eq_rfl rfl) rfl, ?_, ?_, fun k hk => ?_⟩
  · simp; omega
  · rw [I_sI, if_pos ⟨rfl, rfl⟩]; simp
  · rw [I_sI, if_neg (by omega), I_sI]
    simp at hk
    by_cases c : k = C.length
    · rw [if_pos ⟨rfl, c⟩, c]; simp
    · rw [if_neg (by omega), h3 k (by omega)]
      simp [List.getElem?_append_left (show k < C.length by omega)]
def Xdead (n : Nat) (t : Nat → Int32) (rd : eg_H → Option eg_H) : Prop := ∀ g w, Tp n t g → LL g → ¬ w = -1 → ∃ g', rd (fin g (nI n) 0 w) = some (fin g' (nI n) 0 w) ∧ eg_eq S21 g g' ∧ LL g'
def Xlive (n : Nat) (t : Nat → Int32) (rd : eg_H → Option eg_H) (i : Nat) (r : eg_PR) : Prop := ∀ g C, Tp n t g → LR g C → C.length ≤ i → ∃ g' a s w, rd (fin g (nI i) (sg t n i) (-1)) = some (fin g' a s w) ∧ eg_eq S21 g g' ∧ oX t n r C g' a s w
theorem Xd_emit (x : Int32) : Xdead n t (fun h => fX6_emit h 21 x) := fun g w H hL _ => X_emitL H hL _ _ _ x
theorem Xd_mark : Xdead n t (fun h => fX10_markWrongHere h 17) := fun g w H hL hw => ⟨g, by show fX10_markWrongHere _ _ = _; rw [X_markH H, if_neg hw], eq_rfl, hL⟩
theorem Xd_bind {r1 r2 : eg_H → Option eg_H} (h1 : Xdead n t r1) (h2 : Xdead n t r2) : Xdead n t (fun h => (r1 h).bind r2) := by
  intro g w H hL hw
  obtain ⟨g1, e1, E1, l1⟩ := h1 g w H hL hw
  obtain ⟨g2, e2, E2, l2⟩ := h2 g1 w (Tp_S21 H E1) l1 hw
  exact ⟨g2, by show (r1 _).bind r2 = _; rw [e1, Option.bind_some, e2], eq_tr E1 E2, l2⟩
theorem X_seq {r1 r2 : eg_H → Option eg_H} {i : Nat} {r : eg_PR} {k : eg_PV → eg_PR} (h1 : Xlive n t r1 i r) (h2 : Xdead n t r2)
    (hk : ∀ q, ∀ g C, Tp n t g → LR g (C ++ q.2.1) → C.length + q.2.1.length ≤ q.1 → q.1 ≤ n → skp t n q.1 = q.1 → ∃ g' a s w, r2 (fin g (nI q.1) (sg t n q.1) (-1)) = some (fin g' a s w) ∧ eg_eq S21 g g' ∧ oX t n (k q) C g' a s w) : Xlive n t (fun h => (r1 h).bind r2) i (pB r k) := by
  intro g C H hL hC
  obtain ⟨g1, a, s, w, e1, E1, o1⟩ := h1 g C H hL hC
  have H1 := Tp_S21 H E1
  show ∃ g' a s w, (r1 _).bind r2 = _ ∧ _
  rw [e1, Option.bind_some]
  cases r with
  | inl e =>
    obtain ⟨o2, o3, o4, o5, o6⟩ := o1
    subst o2; subst o3; subst o4
    obtain ⟨g2, e2, E2, l2⟩ := h2 g1 (nI e) H1 o6 (nI_nm1 (by have := H.2.1; omega))
    exact ⟨g2, _, _, _, e2, eq_tr E1 E2, rfl, rfl, rfl, o5, l2⟩
  | inr q =>
    obtain ⟨o2, o3, o4, o5, o6, o7, o8⟩ := o1
    subst o2; subst o3; subst o4
    obtain ⟨g2, a, s, w, e2, E2, o⟩ := hk q g1 C H1 o5 o6 o7 o8
    exact ⟨g2, a, s, w, e2, eq_tr E1 E2, o⟩
theorem X_loop {L : Nat → eg_H → Int32 → Option eg_H} {nr : eg_H → Option eg_H} {ops : Int32 → Option Int32} {nx : Nat → eg_PR} (h0 : ops 0 = none)
    (hstop : ∀ F g a s w c, Tp n t g → (ops s = none ∨ (160 : Int32) ≤ c) → L (F + 1) (fin g a s w) c = some (fin g a s w))
    (hgo : ∀ F g j s w c o, Tp n t g → j ≤ 900 → ops s = some o → ¬ (160 : Int32) ≤ c → L (F + 1) (fin g (nI j) s w) c = (nr (fin g (nI (skp t n (j + 1))) (sg t n (skp t n (j + 1))) w)).bind fun h => (fX6_emit h 21 o).bind fun h => L F h (c + 1))
    (hl : ∀ i, i ≤ n → skp t n i = i → Xlive n t nr i (nx i)) (hok : ∀ i, i ≤ n → skp t n i = i → pOk t n i (nx i)) : ∀ f F r c g C, Tp n t g → LR g (C ++ r.2.1) → C.length + r.2.1.length ≤ r.1 → r.1 ≤ n → skp t n r.1 = r.1 → c ≤ r.1 → n - r.1 < f → f < F →
      ∃ g' a s w, L F (fin g (nI r.1) (sg t n r.1) (-1)) (nI c) = some (fin g' a s w) ∧ eg_eq S21 g g' ∧ oX t n (pL t n ops nx f r) C g' a s w := by
  intro f
  induction f with
  | zero => intro F r c g C _ _ _ _ _ _ h; omega
  | succ f ih =>
    intro F r c g C H hL hC hr hsk hc hf hF
    obtain ⟨F, rfl⟩ : ∃ F', F = F' + 1 := ⟨F - 1, by omega⟩
    have hn := H.2.1
    unfold pL
    cases ho : ops (sg t n r.1) with
    | none => exact ⟨g, _, _, _, hstop F g _ _ _ _ H (Or.inl ho), eq_rfl, rfl, rfl, rfl, hL, hC, hr, hsk⟩
    | some o =>
      have hlt := op_n h0 ho
      rw [hgo F g r.1 _ _ _ o H (by omega) ho (show ¬ (160 : Int32) ≤ nI c from nI_ge (b := 160) (by omega) (by decide))]
      have hge := skp_ge t n (r.1 + 1)
      obtain ⟨g1, a, s, w, e1, E1, o1⟩ := hl (skp t n (r.1 + 1)) (skp_le t n _ hlt) (skp_id t n _) g (C ++ r.2.1) H hL (by simp; omega)
      have H1 := Tp_S21 H E1
      rw [e1, Option.bind_some]
      dsimp only
      cases hx : nx (skp t n (r.1 + 1)) with
      | inl e =>
        rw [hx] at o1
        obtain ⟨o2, o3, o4, o5, o6⟩ := o1
        subst o2; subst o3; subst o4
        obtain ⟨g2, e2, E2, l2⟩ := X_emitL H1 o6 (nI n) 0 (nI e) o
        obtain ⟨F, rfl⟩ : ∃ F', F = F' + 1 := ⟨F - 1, by omega⟩
        rw [e2, Option.bind_some]
        exact ⟨g2, _, _, _, hstop F g2 _ _ _ _ (Tp_S21 H1 E2) (Or.inl h0), eq_tr E1 E2, rfl, rfl, rfl, o5, l2⟩
      | inr q =>
        rw [hx] at o1
        obtain ⟨o2, o3, o4, o5, o6, o7, o8⟩ := o1
        subst o2; subst o3; subst o4
        have ok := hok (skp t n (r.1 + 1)) (skp_le t n _ hlt) (skp_id t n _)
        rw [hx] at ok
        obtain ⟨k1, k2, k3'⟩ := ok
        obtain ⟨g2, e2, E2, l2⟩ := X_emit H1 o5 (by simp only [List.length_append]; omega) (nI q.1) (sg t n q.1) (-1) o
        have H2 := Tp_S21 H1 E2
        obtain ⟨g3, a, s, w, i1, i2, i3⟩ := ih F (q.1, r.2.1 ++ q.2.1 ++ [o], fun env => opV o (r.2.2 env) (q.2.2 env)) (c + 1) g2 C H2 (by
          have e : C ++ (r.2.1 ++ q.2.1 ++ [o]) = C ++ r.2.1 ++ q.2.1 ++ [o] := by simp only [List.append_assoc]
          show LR g2 (C ++ (r.2.1 ++ q.2.1 ++ [o]))
          rw [e]; exact l2) (by simp only [List.length_append, List.length_cons, List.length_nil]; omega) k2 k3' (by show c + 1 ≤ q.1; omega) (by show n - q.1 < f; omega) (by omega)
        refine ⟨g3, a, s, w, ?_, eq_tr E1 (eq_tr E2 i2), i3⟩
        rw [e2, Option.bind_some, nI_1]
        exact i1
theorem X_lp {L : Nat → eg_H → Int32 → Option eg_H} {r1 nr : eg_H → Option eg_H} {ops : Int32 → Option Int32} {nx : Nat → eg_PR} {i : Nat} {r : eg_PR} (h0 : ops 0 = none) (h1 : Xlive n t r1 i r)
    (hstop : ∀ F g a s w c, Tp n t g → (ops s = none ∨ (160 : Int32) ≤ c) → L (F + 1) (fin g a s w) c = some (fin g a s w))
    (hgo : ∀ F g j s w c o, Tp n t g → j ≤ 900 → ops s = some o → ¬ (160 : Int32) ≤ c → L (F + 1) (fin g (nI j) s w) c = (nr (fin g (nI (skp t n (j + 1))) (sg t n (skp t n (j + 1))) w)).bind fun h => (fX6_emit h 21 o).bind fun h => L F h (c + 1))
    (hl : ∀ i, i ≤ n → skp t n i = i → Xlive n t nr i (nx i)) (hok : ∀ i, i ≤ n → skp t n i = i → pOk t n i (nx i)) : Xlive n t (fun h => (r1 h).bind fun h => L eg_F h 0) i (pB r (pL t n ops nx 161)) :=
  X_seq h1 (fun g w H hL _ => ⟨g, hstop 4999 g _ _ _ _ H (Or.inl h0), eq_rfl, hL⟩) (fun q g C H l1 l2 l3 l4 => by
    have hn := H.2.1
    exact X_loop h0 hstop hgo hl hok 161 eg_F q 0 g C H l1 l2 l3 l4 (Nat.zero_le _) (by omega) (by rw [eg_F_eq]; omega))
theorem Xd_lp {L : Nat → eg_H → Int32 → Option eg_H} {r1 : eg_H → Option eg_H} {ops : Int32 → Option Int32} (h0 : ops 0 = none) (h1 : Xdead n t r1)
    (hstop : ∀ F g a s w c, Tp n t g → (ops s = none ∨ (160 : Int32) ≤ c) → L (F + 1) (fin g a s w) c = some (fin g a s w)) : Xdead n t (fun h => (r1 h).bind fun h => L eg_F h 0) :=
  Xd_bind h1 (fun g w H hL _ => ⟨g, hstop 4999 g _ _ _ _ H (Or.inl h0), eq_rfl, hL⟩)
end XL
