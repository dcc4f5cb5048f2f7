def kL (k : Nat) : Int32 := if k = 0 then 109 else if k = 1 then 112 else 101
def aP (k : Nat) : Nat := 60 + 2 * k
def aN (k : Nat) : Nat := if k = 0 then 4 else if k = 1 then 24 else 12
def aB (k : Nat) : Nat := if k = 0 then 0 else if k = 1 then 4 else 28
def vM (g : eg_H) (x : Nat) : Int32 := if x < 4 then eg_I g 60 x else if x < 28 then eg_I g 62 (x - 4) else eg_I g 64 (x - 28)
theorem k3 {k : Nat} (hk : k < 3) : k = 0 ∨ k = 1 ∨ k = 2 := by omega
theorem vM_w {g : eg_H} {k pl : Nat} {v : Int32} (hk : k < 3) (hp : pl < aN k) {x : Nat} (hx : x < 40) : vM (eg_sI g (aP k) pl v) x = if x = aB k + pl then v else vM g x := by
  unfold vM
  rcases k3 hk with rfl | rfl | rfl
  · have hp : pl < 4 := hp
    simp only [I_sI, show aP 0 = 60 from rfl, show aB 0 = 0 from rfl, true_and, false_and, reduceIte, Nat.reduceEqDiff]
    repeat' split
    all_goals first | rfl | (exfalso; omega)
  · have hp : pl < 24 := hp
    simp only [I_sI, show aP 1 = 62 from rfl, show aB 1 = 4 from rfl, true_and, false_and, reduceIte, Nat.reduceEqDiff]
    repeat' split
    all_goals first | rfl | (exfalso; omega)
  · have hp : pl < 12 := hp
    simp only [I_sI, show aP 2 = 64 from rfl, show aB 2 = 28 from rfl, true_and, false_and, reduceIte, Nat.reduceEqDiff]
    repeat' split
    all_goals first | rfl | (exfalso; omega)
theorem M_usual (h : eg_H) : ∀ k, k < 3 → ∀ w, w < kC k → fX13_usual h (kL k) (nI w) = some ((eg_tb 4).getD (kB k + w) 0, h) := by
  intro k hk w hw
  rcases k3 hk with rfl | rfl | rfl
  · have hw : w < 4 := hw
    rcases (show w = 0 ∨ w = 1 ∨ w = 2 ∨ w = 3 by omega) with rfl | rfl | rfl | rfl <;> rfl
  · have hw : w < 4 := hw
    rcases (show w = 0 ∨ w = 1 ∨ w = 2 ∨ w = 3 by omega) with rfl | rfl | rfl | rfl <;> rfl
  · have hw : w < 2 := hw
    rcases (show w = 0 ∨ w = 1 by omega) with rfl | rfl <;> rfl
theorem M_least (h : eg_H) : ∀ k, k < 3 → ∀ w, w < kC k → fX13_leastOf h (kL k) (nI w) = some (iLo k w, h) := by
  intro k hk w hw
  rcases k3 hk with rfl | rfl | rfl
  · have hw : w < 4 := hw
    rcases (show w = 0 ∨ w = 1 ∨ w = 2 ∨ w = 3 by omega) with rfl | rfl | rfl | rfl <;> rfl
  · have hw : w < 4 := hw
    rcases (show w = 0 ∨ w = 1 ∨ w = 2 ∨ w = 3 by omega) with rfl | rfl | rfl | rfl <;> rfl
  · have hw : w < 2 := hw
    rcases (show w = 0 ∨ w = 1 by omega) with rfl | rfl <;> rfl
theorem M_most (h : eg_H) : ∀ k, k < 3 → ∀ w, w < kC k → fX13_mostOf h (kL k) (nI w) = some (iHi k w, h) := by
  intro k hk w hw
  rcases k3 hk with rfl | rfl | rfl
  · have hw : w < 4 := hw
    rcases (show w = 0 ∨ w = 1 ∨ w = 2 ∨ w = 3 by omega) with rfl | rfl | rfl | rfl <;> rfl
  · have hw : w < 4 := hw
    rcases (show w = 0 ∨ w = 1 ∨ w = 2 ∨ w = 3 by omega) with rfl | rfl | rfl | rfl <;> rfl
  · have hw : w < 2 := hw
    rcases (show w = 0 ∨ w = 1 by omega) with rfl | rfl <;> rfl
theorem M_aw {h : eg_H} (hs : eg_stt h) {k pl : Nat} (hk : k < 3) (hp : pl < aN k) (a f v : Int32) : eg_wI (mfi h a f) 100 (aP k) (nI pl) v = some (mfi (eg_sI h (aP k) pl v) a f) := by
  have hs' : eg_stt (mfi h a f) := hs
  rcases k3 hk with rfl | rfl | rfl
  · have hp : pl < 4 := hp
    have hcl : (nI pl).toNatClampNeg = pl := nI_clamp (by omega)
    show eg_wI (mfi h a f) 100 60 (nI pl) v = _
    rw [wI_60 hs' (nI_pos (by omega)) (by rw [hcl]; exact hp), hcl, mfi_sI _ _ _ _ (by omega)]
    rfl
  · have hp : pl < 24 := hp
    have hcl : (nI pl).toNatClampNeg = pl := nI_clamp (by omega)
    show eg_wI (mfi h a f) 100 62 (nI pl) v = _
    rw [wI_62 hs' (nI_pos (by omega)) (by rw [hcl]; exact hp), hcl, mfi_sI _ _ _ _ (by omega)]
    rfl
  · have hp : pl < 12 := hp
    have hcl : (nI pl).toNatClampNeg = pl := nI_clamp (by omega)
    show eg_wI (mfi h a f) 100 64 (nI pl) v = _
    rw [wI_64 hs' (nI_pos (by omega)) (by rw [hcl]; exact hp), hcl, mfi_sI _ _ _ _ (by omega)]
    rfl
def S62 : List (Nat × Option Nat) := [(60, none), (62, none), (64, none)]
theorem Tm_eq {q b n : Nat} {t : Nat → Int32} {g g' : eg_H} {S : List (Nat × Option Nat)} (H : Tm q b n t g) (E : eg_eq S g g') (hst : eg_stt g') (c1 : eg_cov S 54 5 = false) (c2 : eg_cov S 54 8 = false) (c3 : eg_cov S 54 9 = false) (c4 : ∀ i, eg_cov S q i = false) : Tm q b n t g' :=
  ⟨hst, H.2.1, by rw [(E.2 54 5 c1).2.2]; exact H.2.2.1, by rw [(E.2 54 8 c2).1]; exact H.2.2.2.1, by rw [(E.2 54 9 c3).1]; exact H.2.2.2.2.1, H.2.2.2.2.2.1, fun i hi => by rw [(E.2 q (b + i) (c4 _)).1]; exact H.2.2.2.2.2.2 i hi⟩
theorem Tm_S62 {n : Nat} {t : Nat → Int32} {g g' : eg_H} (H : Tm 55 0 n t g) (E : eg_eq S62 g g') : Tm 55 0 n t g' := Tm_eq H E (eq_stt E H.1 (by decide)) rfl rfl rfl (fun _ => rfl)
theorem S62_w {g : eg_H} {k : Nat} (hk : k < 3) (pl : Nat) (v : Int32) : eg_eq S62 g (eg_sI g (aP k) pl v) := by
  rcases k3 hk with rfl | rfl | rfl <;> exact eq_sI eq_rfl rfl
def itemsM (t : Nat → Int32) (n k : Nat) (r : (Nat ⊕ Nat) × (Nat → Int32)) (g : eg_H) (a f : Int32) : Prop := match r.1 with
  | .inl e => f = nI e ∧ e ≤ n
  | .inr j => j ≤ n ∧ ((itm k (sg t n j) = none ∧ a = nI j ∧ f = -1 ∧ ∀ x, x < 40 → vM g x = r.2 x) ∨ (itm k (sg t n j) ≠ none ∧ f = nI j))
def M_tail (e : Option (eg_H ⊕ (Nat × eg_H))) : Option eg_H := e.bind fun e => match e with
  | .inl h17 => some h17
  | .inr (p19, h20) => (fX13_fails h20 p19).bind fun ⟨_, h21⟩ => some h21
theorem itm_lk {t : Nat → Int32} {n k : Nat} (hk : k < 3) (i : Nat) : itm k (lk t n i) = itm k (sg t n i) := by
  unfold lk sg
  by_cases hi : i < n
  · rw [if_pos hi, if_pos hi]
  · rw [if_neg hi, if_neg hi, (itm_0 k hk).1, (itm_0 k hk).2.1]
theorem M_items {n k row : Nat} {t : Nat → Int32} (hk : k < 3) (hB : row + kC k ≤ aN k) : ∀ j i m V g F, Tm 55 0 n t g → (∀ x, x < 40 → vM g x = V x) → n ≤ 160 → mkc m + j = kC k → m < 2 ^ kC k → i ≤ n → j + 1 < F →
    ∃ g' a f, M_tail (fX13_readClause_L256 F (mfi g (nI i) (-1)) 54 (kL k) (nI row) (aP k) (k + 7) (nI m) (oI (itm k (sg t n i)))) = some (mfi g' a f) ∧ eg_eq S62 g g' ∧ itemsM t n k (itemsF t n k (aB k + row) j i m V) g' a f := by
  have h4 := kC_le k
  have h16 := mk_16 k hk
  have hAN : aB k + aN k ≤ 40 := by rcases k3 hk with rfl | rfl | rfl <;> decide
  have stop : ∀ i m V g F, Tm 55 0 n t g → (∀ x, x < 40 → vM g x = V x) → i ≤ n → itm k (sg t n i) = none →
    ∃ g' a f, M_tail (fX13_readClause_L256 (F + 1) (mfi g (nI i) (-1)) 54 (kL k) (nI row) (aP k) (k + 7) (nI m) (oI (itm k (sg t n i)))) = some (mfi g' a f) ∧ eg_eq S62 g g' ∧ itemsM t n k (.inr i, V) g' a f := by
    intro i m V g F H hV hi h0
    refine ⟨g, nI i, -1, ?_, eq_rfl, hi, Or.inl ⟨h0, rfl, rfl, hV⟩⟩
    rw [h0, fX13_readClause_L256, if_pos (show oI none = -1 from rfl)]
    rfl
  have again : ∀ i m w V g F, Tm 55 0 n t g → i ≤ n → itm k (sg t n i) = some w → m < 16 → m.testBit w = true →
    ∃ g' a f, M_tail (fX13_readClause_L256 (F + 1) (mfi g (nI i) (-1)) 54 (kL k) (nI row) (aP k) (k + 7) (nI m) (oI (itm k (sg t n i)))) = some (mfi g' a f) ∧ eg_eq S62 g g' ∧ itemsM t n k (.inr i, V) g' a f := by
    intro i m w V g F H hi h0 hm hb
    have hs' : ∀ a c, eg_stt (mfi g a c) := fun _ _ => H.1
    have hw := itm_lt h0
    refine ⟨g, nI i, nI i, ?_, eq_rfl, hi, Or.inr ⟨by rw [h0]; simp, rfl⟩⟩
    rw [h0, show oI (some w) = nI w from rfl, fX13_readClause_L256, if_neg (nI_nm1 (e := w) (by omega)), gI_54 (hs' _ _), Option.bind_some, mfi_i11, if_pos rfl]
    have eh : fX13_has (mfi g (nI i) (-1)) (nI m) (nI w) = some (1, mfi g (nI i) (-1)) := if_pos ((mk_bit m hm w (by omega)).mpr hb)
    rw [eh, Option.bind_some]
    show M_tail (if (1 : Int32) = 0 then _ else _) = _
    rw [if_neg (by decide)]
    show ((fX13_fails (mfi g (nI i) (-1)) 54).bind fun ⟨_, h21⟩ => some h21) = _
    rw [M_fails H.1, Option.bind_some, if_pos rfl]
  intro j
  induction j with
  | zero =>
    intro i m V g F H hV hn hm hm2 hi hF
    obtain ⟨F, rfl⟩ : ∃ F', F = F' + 1 := ⟨F - 1, by omega⟩
    cases h0 : itm k (sg t n i) with
    | none => have := stop i m V g F H hV hi h0; rw [h0] at this; exact this
    | some w =>
      have hw := itm_lt h0
      have := again i m w V g F H hi h0 (by omega) (mk_all k hk m hm2 (by omega) w hw)
      rw [h0] at this
      exact this
  | succ j ih =>
    intro i m V g F H hV hn hm hm2 hi hF
    obtain ⟨F, rfl⟩ : ∃ F', F = F' + 1 := ⟨F - 1, by omega⟩
    unfold itemsF
    cases h0 : itm k (sg t n i) with
    | none => have := stop i m V g F H hV hi h0; rw [h0] at this; exact this
    | some w =>
      have hw := itm_lt h0
      have hs' : ∀ a c, eg_stt (mfi g a c) := fun _ _ => H.1
      dsimp only
      by_cases hb : m.testBit w = true
      · rw [if_pos hb]
        have := again i m w V g F H hi h0 (by omega) hb
        rw [h0] at this
        exact this
      · rw [if_neg hb]
        have hilt : i < n := by
          rcases Nat.lt_or_ge i n with z | z
          · exact z
          · have : sg t n i = 0 := if_neg (by omega)
            rw [this, (itm_0 k hk).1] at h0
            cases h0
        have hor := mk_or m (by omega) w (by omega)
        obtain ⟨a, ea⟩ := M_item (lo := iLo k w) (hi := iHi k w) (i := i) H (by omega) (M_aw H.1 hk (pl := row + w) (by omega))
        have hj1 : skp t n (i + 1) ≤ n := skp_le t n _ hilt
        rw [show oI (some w) = nI w from rfl, fX13_readClause_L256, if_neg (nI_nm1 (e := w) (by omega)), gI_54 (hs' _ _), Option.bind_some, mfi_i11, if_pos rfl]
        have eh : fX13_has (mfi g (nI i) (-1)) (nI m) (nI w) = some (0, mfi g (nI i) (-1)) := if_neg (fun z => hb ((mk_bit m (by omega) w (by omega)).mp z))
        rw [eh, Option.bind_some]
        show ∃ g' a f, M_tail (if (0 : Int32) = 0 then ((some ((nI m ||| ((1 : Int32) <<< (nI w &&& 31))))).bind fun v9 => (fX13_leastOf (mfi g (nI i) (-1)) (kL k) (nI w)).bind _) else _) = _ ∧ _
        rw [if_pos rfl, Option.bind_some, hor.1, M_least _ k hk w hw, Option.bind_some]
        show ∃ g' a f, M_tail ((fX13_mostOf (mfi g (nI i) (-1)) (kL k) (nI w)).bind _) = _ ∧ _
        rw [M_most _ k hk w hw, Option.bind_some]
        show ∃ g' a f, M_tail ((fX13_readItem (mfi g (nI i) (-1)) 54 (aP k) (nI row + nI w) (iLo k w) (iHi k w)).bind _) = _ ∧ _
        rw [nI_add, ea, Option.bind_some]
        cases hq : numE t n 2 (skp t n (i + 1)) (iLo k w) (iHi k w) with
        | some e =>
          have he := numE_n hq hj1
          refine ⟨g, a, nI e, ?_, eq_rfl, rfl, he⟩
          dsimp only
          obtain ⟨F, rfl⟩ : ∃ F', F = F' + 1 := ⟨F - 1, by omega⟩
          rw [gI_54 (hs' _ _), Option.bind_some, mfi_i11, if_neg (nI_nm1 (by omega)), fX13_readClause_L256, if_neg (nI_nm1 (e := w) (by omega)), gI_54 (hs' _ _), Option.bind_some, mfi_i11, if_neg (nI_nm1 (by omega))]
          rfl
        | none =>
          dsimp only
          have E1 := S62_w (g := g) hk (row + w) (nvF t n 2 (skp t n (i + 1)) 0)
          have H1 := Tm_S62 H E1
          have s1 : ∀ a c, eg_stt (mfi (eg_sI g (aP k) (row + w) (nvF t n 2 (skp t n (i + 1)) 0)) a c) := fun _ _ => H.1
          have hnd : skp t n (i + 1) + ndF t n 2 (skp t n (i + 1)) ≤ n := ndF_n t n 2 _ hj1
          obtain ⟨g2, a2, f2, i1, i2, i3⟩ := ih (skp t n (skp t n (i + 1) + ndF t n 2 (skp t n (i + 1)))) (m ||| 2 ^ w) (vUp V (aB k + row + w) (nvF t n 2 (skp t n (i + 1)) 0)) _ F H1 (fun x hx => by
            rw [vM_w hk (by omega) hx, vUp, Nat.add_assoc]
            split
            · rfl
            · exact hV x hx) hn (by rw [mk_c m (by omega) w (by omega) (by simpa using hb)]; omega) (mk_lt k hk m hm2 w hw) (skp_le t n _ hnd) (by omega)
          refine ⟨g2, a2, f2, ?_, eq_tr E1 i2, i3⟩
          rw [gI_54 (s1 _ _), Option.bind_some, mfi_i11, if_pos rfl, M_look H1 (by omega), Option.bind_some]
          show M_tail ((fX13_placeOf _ (k + 7) (lk t n (skp t n (skp t n (i + 1) + ndF t n 2 (skp t n (i + 1)))))).bind _) = _
          rw [M_place hk, Option.bind_some, itm_lk hk]
          exact i1
