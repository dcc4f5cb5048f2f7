def fp (t : Nat → Int32) (n : Nat) : Nat → Nat
  | 0 => skp t n 0
  | k + 1 => skp t n (fp t n k + 1)
def fcF (t : Nat → Int32) (n : Nat) : Nat → Nat → Nat
  | 0, k => k
  | m + 1, k => if dg (sg t n (fp t n k)) then fcF t n m (k + 1) else k
def fc (t : Nat → Int32) (n : Nat) : Nat := fcF t n 24 0
def flm (t : Nat → Int32) (n : Nat) : Int32 := if fc t n = 0 ∨ sg t n (fp t n (fc t n)) ≠ 0 then nI (fp t n (fc t n)) else -1
theorem dg_0 : ¬ dg 0 := by decide
theorem sg_lt {t : Nat → Int32} {n i : Nat} (h : dg (sg t n i)) : i < n := by
  rcases Nat.lt_or_ge i n with q | q
  · exact q
  · unfold sg at h
    rw [if_neg (by omega)] at h
    exact absurd h dg_0
theorem fp_next {t : Nat → Int32} {n k : Nat} (h : dg (sg t n (fp t n k))) : fp t n (k + 1) ≤ n := skp_le t n _ (sg_lt h)
theorem fp_0 (t : Nat → Int32) (n : Nat) : fp t n 0 ≤ n := skp_le t n 0 (Nat.zero_le _)
theorem fp_skp (t : Nat → Int32) (n k : Nat) : skp t n (fp t n k) = fp t n k := by
  have key : ∀ i, skp t n (skp t n i) = skp t n i := fun i => by
    rw [skp_eq]
    rw [if_neg]
    intro z
    exact skp_ne t n i z.1 z.2
  cases k with
  | zero => exact key 0
  | succ k => exact key _
theorem X_frames_L {n : Nat} {t : Nat → Int32} {h : eg_H} (H : Tp n t h) {w : Int32} : ∀ j k m, k + j = 24 → j < m → fp t n k ≤ n → fX10_readFrames_L6 m (fin h (nI (fp t n k)) (sg t n (fp t n k)) w) 17 (nI k) = some (17, nI (fcF t n j k), fin h (nI (fp t n (fcF t n j k))) (sg t n (fp t n (fcF t n j k))) w) ∧ fp t n (fcF t n j k) ≤ n := by
  have hn := H.2.1
  intro j
  induction j with
  | zero =>
    intro k m hk hm hf
    obtain ⟨m, rfl⟩ : ∃ m', m = m' + 1 := ⟨m - 1, by omega⟩
    have hk : k = 24 := by omega
    subst hk
    refine ⟨?_, hf⟩
    rw [fX10_readFrames_L6, if_pos (by decide)]
    rfl
  | succ j ih =>
    intro k m hk hm hf
    obtain ⟨m, rfl⟩ : ∃ m', m = m' + 1 := ⟨m - 1, by omega⟩
    rw [fX10_readFrames_L6, show (24 : Int32) = nI 24 from rfl, if_neg (nI_ge (by omega) (by decide)), X_isDigit H, Option.bind_some]
    unfold fcF
    by_cases hd : dg (sg t n (fp t n k))
    · obtain ⟨i1, i2⟩ := ih (k + 1) m (by omega) (by omega) (fp_next hd)
      rw [if_pos hd, if_pos hd]
      refine ⟨?_, i2⟩
      show (if (1 : Int32) = 0 then _ else _) = _
      rw [if_neg (by decide), X_step H (by omega), Option.bind_some, nI_1]
      exact i1
    · rw [if_neg hd, if_neg hd]
      exact ⟨rfl, hf⟩
theorem fcF_le (t : Nat → Int32) (n : Nat) : ∀ j k, fcF t n j k ≤ k + j := by
  intro j
  induction j with
  | zero => intro k; exact Nat.le_refl _
  | succ j ih =>
    intro k
    unfold fcF
    split
    · have := ih (k + 1); omega
    · omega
theorem fc_le (t : Nat → Int32) (n : Nat) : fc t n ≤ 24 := by
  have := fcF_le t n 24 0
  unfold fc
  omega
theorem X_frames {n : Nat} {t : Nat → Int32} {h : eg_H} (H : Tp n t h) {a s w : Int32} : ∃ a' s' , fX10_readFrames (fin h a s w) 17 = some (flm t n, fin h a' s' (flm t n)) ∧ fp t n (fc t n) ≤ n := by
  have hs' : ∀ a b c, eg_stt (fin h a b c) := fun _ _ _ => H.1
  have hn := H.2.1
  obtain ⟨e1, e2⟩ := X_frames_L H (w := -1) 24 0 eg_F rfl (by rw [eg_F_eq]; omega) (fp_0 t n)
  have hK := fc_le t n
  unfold flm fX10_readFrames
  rw [if_pos (iO_17 (hs' _ _ _)), X_rewind H, Option.bind_some]
  rw [nI_0] at e1
  change (fX10_readFrames_L6 eg_F (fin h (nI (skp t n 0)) (sg t n (skp t n 0)) (-1)) 17 0) = _ at e1
  rw [e1, Option.bind_some]
  change fp t n (fc t n) ≤ n at e2
  show ∃ a' s', fX10_readFrames_j29 (fin h (nI (fp t n (fc t n))) (sg t n (fp t n (fc t n))) (-1)) 17 (nI (fc t n)) = _ ∧ _
  generalize fc t n = K at hK e2 ⊢
  unfold fX10_readFrames_j29
  by_cases h0 : K = 0
  · subst h0
    refine ⟨nI n, 0, ?_, e2⟩
    rw [if_pos nI_0, gI_17 (hs' _ _ _), Option.bind_some, fin_i2, X_mark H, Option.bind_some, gI_17 (hs' _ _ _), Option.bind_some, fin_i4, if_pos rfl, if_pos (Or.inl rfl)]
  · rw [if_neg (nI_ne0 (by omega) (by omega)), gI_17 (hs' _ _ _), Option.bind_some, fin_i3]
    by_cases hz : sg t n (fp t n K) = 0
    · refine ⟨nI (fp t n K), 0, ?_, e2⟩
      rw [if_pos hz, gI_17 (hs' _ _ _), Option.bind_some, fin_i4, if_neg (by intro q; rcases q with q | q; exact h0 q; exact q hz), hz]
    · refine ⟨nI n, 0, ?_, e2⟩
      rw [if_neg hz, gI_17 (hs' _ _ _), Option.bind_some, fin_i2, X_mark H, Option.bind_some, gI_17 (hs' _ _ _), Option.bind_some, fin_i4, if_pos rfl, if_pos (Or.inr hz)]
def Fm (n : Nat) (t : Nat → Int32) (k : Nat) (g : eg_H) : Prop := Tm 55 0 n t g ∧ eg_I g 54 33 = nI k ∧ ∀ i, i < k → eg_I g 66 i = sg t n (fp t n i) - 48
def SM_film : List (Nat × Option Nat) := [(54, some 33), (66, none)]
theorem mfi_sI (h : eg_H) (a f x : Int32) {p i : Nat} (hp : ¬ (p = 54 ∧ i = 10) ∧ ¬ (p = 54 ∧ i = 11)) : eg_sI (mfi h a f) p i x = mfi (eg_sI h p i x) a f := by
  refine fin_ext rfl (fun q j => ?_) rfl
  show (if q = p ∧ j = i then x else if q = 54 ∧ j = 10 then a else if q = 54 ∧ j = 11 then f else h.2.1 q j) = (if q = 54 ∧ j = 10 then a else if q = 54 ∧ j = 11 then f else if q = p ∧ j = i then x else h.2.1 q j)
  by_cases h1 : q = p ∧ j = i
  · rw [if_pos h1, if_neg (fun z => hp.1 ⟨h1.1 ▸ z.1, h1.2 ▸ z.2⟩), if_neg (fun z => hp.2 ⟨h1.1 ▸ z.1, h1.2 ▸ z.2⟩), if_pos h1]
  · rw [if_neg h1]
    split
    · rfl
    · split
      · rfl
      · rfl
theorem Fm_next {n : Nat} {t : Nat → Int32} {k : Nat} {g : eg_H} (F : Fm n t k g) (hk : k < 24) : Fm n t (k + 1) (eg_sI (eg_sI g 66 k (sg t n (fp t n k) - 48)) 54 33 (nI (k + 1))) := by
  obtain ⟨⟨h1, h2, h3, h4, h5, h6, h7⟩, f1, f2⟩ := F
  refine ⟨⟨h1, h2, h3, ?_, ?_, h6, fun i hi => ?_⟩, ?_, fun i hi => ?_⟩
  · rw [I_sI, if_neg (by omega), I_sI, if_neg (by omega)]; exact h4
  · rw [I_sI, if_neg (by omega), I_sI, if_neg (by omega)]; exact h5
  · rw [I_sI, if_neg (by omega), I_sI, if_neg (by omega)]; exact h7 i hi
  · rw [I_sI, if_pos ⟨rfl, rfl⟩]
  · rw [I_sI, if_neg (by omega), I_sI]
    by_cases hik : i = k
    · rw [if_pos ⟨rfl, hik⟩, hik]
    · rw [if_neg (fun z => hik z.2)]
      exact f2 i (by omega)
theorem M_film_L {n : Nat} {t : Nat → Int32} : ∀ j k m g, k + j = 24 → j < m → fp t n k ≤ n → Fm n t k g → ∃ g', Fm n t (fcF t n j k) g' ∧ eg_eq SM_film g g' ∧
    fX13_readFilm_L23 m (mfi g (nI (fp t n k)) (-1)) 54 = some (if dg (sg t n (fp t n (fcF t n j k))) then .inr (54, mfi g' (nI (fp t n (fcF t n j k))) (-1)) else .inl (54, mfi g' (nI (fp t n (fcF t n j k))) (-1))) := by
  intro j
  induction j with
  | zero =>
    intro k m g hk hm hf F
    obtain ⟨m, rfl⟩ : ∃ m', m = m' + 1 := ⟨m - 1, by omega⟩
    have hk : k = 24 := by omega
    subst hk
    refine ⟨g, F, eq_rfl, ?_⟩
    have hn := Tm_n F.1
    have hs' : ∀ a c, eg_stt (mfi g a c) := fun _ _ => F.1.1
    rw [fX13_readFilm_L23, M_isDigit F.1 (by omega), Option.bind_some]
    unfold fcF
    by_cases hd : dg (sg t n (fp t n 24))
    · have hlt := sg_lt hd
      have hd2 : fp t n 24 < n ∧ dg (t (fp t n 24)) := ⟨hlt, by unfold sg at hd; rw [if_pos hlt] at hd; exact hd⟩
      rw [if_pos hd2, if_pos hd]
      show (if (1 : Int32) = 0 then _ else _) = _
      rw [if_neg (by decide), gI_54 (hs' _ _), Option.bind_some, mfi_i _ _ _ (by decide), F.2.1, if_pos (by decide)]
    · have hd2 : ¬ (fp t n 24 < n ∧ dg (t (fp t n 24))) := fun z => hd (by unfold sg; rw [if_pos z.1]; exact z.2)
      rw [if_neg hd2, if_neg hd]
      rfl
  | succ j ih =>
    intro k m g hk hm hf F
    obtain ⟨m, rfl⟩ : ∃ m', m = m' + 1 := ⟨m - 1, by omega⟩
    have hn := Tm_n F.1
    have hs' : ∀ a c, eg_stt (mfi g a c) := fun _ _ => F.1.1
    rw [fX13_readFilm_L23, M_isDigit F.1 (by omega), Option.bind_some]
    unfold fcF
    by_cases hd : dg (sg t n (fp t n k))
    · have hlt := sg_lt hd
      have hd2 : fp t n k < n ∧ dg (t (fp t n k)) := ⟨hlt, by unfold sg at hd; rw [if_pos hlt] at hd; exact hd⟩
      have hsg : sg t n (fp t n k) = t (fp t n k) := if_pos hlt
      have hlk : lk t n (fp t n k) = t (fp t n k) := if_pos hlt
      obtain ⟨g', i1, i2, i3⟩ := ih (k + 1) m _ (by omega) (by omega) (fp_next hd) (Fm_next F (by omega))
      refine ⟨g', by rw [if_pos hd]; exact i1, eq_tr (eq_sI (eq_sI eq_rfl rfl) rfl) i2, ?_⟩
      rw [if_pos hd2]
      show (if (1 : Int32) = 0 then _ else _) = _
      have hk24 : ¬ nI k = 24 := fun z => by
        have := (nI_eq (a := k) (b := 24) (by omega) (by decide)).mp z
        omega
      have hcl : (nI k).toNatClampNeg = k := nI_clamp (by omega)
      rw [if_neg (by decide), gI_54 (hs' _ _), Option.bind_some, mfi_i _ _ _ (by decide), F.2.1, if_neg hk24, gR_54 (hs' _ _), rf_54_30 (hs' _ _), Option.bind_some, Option.bind_some, M_here F.1 (by omega), Option.bind_some]
      show (eg_wI (mfi g (nI (fp t n k)) (-1)) 100 66 (nI k) (lk t n (fp t n k) - 48)).bind _ = _
      rw [wI_66 (hs' _ _) (nI_pos (by omega)) (by rw [hcl]; omega), hcl, Option.bind_some, mfi_sI _ _ _ _ (by omega), hlk, ← hsg]
      have s1 : ∀ a c, eg_stt (mfi (eg_sI g 66 k (sg t n (fp t n k) - 48)) a c) := fun _ _ => F.1.1
      rw [gI_54 (s1 _ _), Option.bind_some, mfi_i _ _ _ (by decide), I_sI, if_neg (by omega), F.2.1, pI_54 (s1 _ _), Option.bind_some, mfi_sI _ _ _ _ (by decide), nI_1]
      have s2 : ∀ a c, eg_stt (mfi (eg_sI (eg_sI g 66 k (sg t n (fp t n k) - 48)) 54 33 (nI (k + 1))) a c) := fun _ _ => F.1.1
      rw [gI_54 (s2 _ _), Option.bind_some, mfi_i10, pI_54 (s2 _ _), Option.bind_some, mfi_10, nI_1, M_look (Fm_next F (by omega)).1 (by omega), Option.bind_some]
      exact i3.trans (by rw [if_pos hd])
    · have hd2 : ¬ (fp t n k < n ∧ dg (t (fp t n k))) := fun z => hd (by unfold sg; rw [if_pos z.1]; exact z.2)
      refine ⟨g, by rw [if_neg hd]; exact F, eq_rfl, ?_⟩
      rw [if_neg hd2, if_neg hd, if_neg hd]
      rfl
