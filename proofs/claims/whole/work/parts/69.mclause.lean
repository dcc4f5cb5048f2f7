theorem slen_k {k : Nat} (hk : k < 3) : eg_slen (k + 7) = some (nI (kC k)) := by
  have hc0 : 0 < kC k := by unfold kC; split <;> omega
  have hlen := (sb_tb k hk 0 hc0).2
  unfold eg_slen
  rw [if_pos ⟨by omega, by omega⟩, show k + 7 - 5 = k + 2 by omega, hlen]
theorem M_us_L {k row : Nat} (hk : k < 3) (hB : row + kC k ≤ aN k) {V : Nat → Int32} {a f : Int32} : ∀ j c g F, eg_stt g → (∀ x, x < 40 → vM g x = vUc k (aB k + row) c V x) → c + j = kC k → j < F →
    ∃ g', fX13_readClause_L213 F (mfi g a f) 54 (kL k) (nI row) (aP k) (k + 7) (nI c) = some (54, kL k, nI row, aP k, k + 7, mfi g' a f) ∧ eg_eq S62 g g' ∧ ∀ x, x < 40 → vM g' x = vUs k (aB k + row) V x := by
  have h4 := kC_le k
  have hAN : aB k + aN k ≤ 40 := by rcases k3 hk with rfl | rfl | rfl <;> decide
  intro j
  induction j with
  | zero =>
    intro c g F hs hV hc hF
    obtain ⟨F, rfl⟩ : ∃ F', F = F' + 1 := ⟨F - 1, by omega⟩
    refine ⟨g, ?_, eq_rfl, fun x hx => ?_⟩
    · rw [fX13_readClause_L213, slen_k hk, Option.bind_some, if_pos (nI_le (by omega) (by omega))]
    · rw [hV x hx, show c = kC k by omega]; rfl
  | succ j ih =>
    intro c g F hs hV hc hF
    obtain ⟨F, rfl⟩ : ∃ F', F = F' + 1 := ⟨F - 1, by omega⟩
    have E1 := S62_w (g := g) hk (row + c) ((eg_tb 4).getD (kB k + c) 0)
    obtain ⟨g', i1, i2, i3⟩ := ih (c + 1) (eg_sI g (aP k) (row + c) ((eg_tb 4).getD (kB k + c) 0)) F hs (fun x hx => by
      rw [vM_w hk (by omega) hx, hV x hx]
      unfold vUc
      by_cases c1 : x = aB k + (row + c)
      · rw [if_pos c1, if_pos (by omega), show x - (aB k + row) = c by omega]
      · rw [if_neg c1]
        by_cases c2 : aB k + row ≤ x ∧ x < aB k + row + c
        · rw [if_pos c2, if_pos (by omega)]
        · rw [if_neg c2, if_neg (by omega)]) (by omega) (by omega)
    refine ⟨g', ?_, eq_tr E1 i2, i3⟩
    rw [fX13_readClause_L213, slen_k hk, Option.bind_some, if_neg (nI_ge (by omega) (by omega)), M_usual _ k hk c (by omega), Option.bind_some]
    show ((eg_wI (mfi g a f) 100 (aP k) (nI row + nI c) ((eg_tb 4).getD (kB k + c) 0)).bind _) = _
    rw [nI_add, M_aw hs hk (by omega), Option.bind_some, nI_1]
    exact i1
def SMm : List (Nat × Option Nat) := [(54, some 25), (54, some 27), (54, some 28), (60, none), (62, none), (64, none)]
theorem S62_SMm {g g' : eg_H} (E : eg_eq S62 g g') : eg_eq SMm g g' := eq_mono E (fun p i hc => by
  simp only [eg_cov, SMm, S62, List.any_cons, List.any_nil, Bool.or_eq_false_iff] at hc ⊢
  exact ⟨hc.2.2.2.1, hc.2.2.2.2.1, hc.2.2.2.2.2.1, trivial⟩)
theorem Tm_SMm {n : Nat} {t : Nat → Int32} {g g' : eg_H} (H : Tm 55 0 n t g) (E : eg_eq SMm g g') : Tm 55 0 n t g' := Tm_eq H E (eq_stt E H.1 (by decide)) rfl rfl rfl (fun _ => rfl)
def RM (g : eg_H) (M P E : Nat) (V : Nat → Int32) : Prop := eg_I g 54 25 = nI P ∧ eg_I g 54 27 = nI E ∧ eg_I g 54 28 = nI M ∧ ∀ x, x < 40 → vM g x = V x
def cN (k M P E : Nat) (g : eg_H) : Prop := eg_I g 54 25 = nI (if k = 1 then P + 1 else P) ∧ eg_I g 54 27 = nI (if k = 2 then E + 1 else E) ∧ eg_I g 54 28 = nI (if k = 0 then 1 else M)
def clM (t : Nat → Int32) (n i M P E : Nat) (V : Nat → Int32) (g : eg_H) (a f : Int32) : Prop := match clK (sg t n i) M P E with
  | none => f = nI i
  | some k => itemsM t n k (itemsA t n k (clB k P E) i V) g a f ∧ cN k M P E g
theorem clK_lk {t : Nat → Int32} {n : Nat} (i M P E : Nat) : clK (lk t n i) M P E = clK (sg t n i) M P E := by
  unfold lk sg
  by_cases hi : i < n
  · rw [if_pos hi, if_pos hi]
  · rw [if_neg hi, if_neg hi]
    unfold clK
    simp
def rO (k P E : Nat) : Nat := if k = 0 then 0 else if k = 1 then 4 * P else 2 * E
theorem clB_rO {k P E : Nat} (hk : k < 3) : clB k P E = aB k + rO k P E := by
  rcases k3 hk with rfl | rfl | rfl <;> simp [clB, aB, rO]
theorem rO_le {k P E : Nat} (hk : k < 3) (hP : k = 1 → P < 6) (hE : k = 2 → E < 6) : rO k P E + kC k ≤ aN k := by
  rcases k3 hk with rfl | rfl | rfl
  · simp [rO, kC, aN]
  · have := hP rfl; simp [rO, kC, aN]; omega
  · have := hE rfl; simp [rO, kC, aN]; omega
def gN (k P E : Nat) (g : eg_H) : eg_H := if k = 0 then eg_sI g 54 28 1 else if k = 1 then eg_sI g 54 25 (nI (P + 1)) else eg_sI g 54 27 (nI (E + 1))
theorem gN_E {k P E : Nat} {g : eg_H} : eg_eq SMm g (gN k P E g) := by
  unfold gN
  split
  · exact eq_sI eq_rfl rfl
  · split <;> exact eq_sI eq_rfl rfl
theorem gN_c {k M P E : Nat} {g : eg_H} {V : Nat → Int32} (hk : k < 3) (R : RM g M P E V) : cN k M P E (gN k P E g) := by
  obtain ⟨r1, r2, r3, r4⟩ := R
  rcases k3 hk with rfl | rfl | rfl
  · exact ⟨r1, r2, rfl⟩
  · exact ⟨rfl, r2, r3⟩
  · exact ⟨r1, rfl, r3⟩
theorem gN_v {k P E : Nat} {g : eg_H} (x : Nat) : vM (gN k P E g) x = vM g x := by
  unfold gN
  split
  · simp [vM, I_sI]
  · split <;> simp [vM, I_sI]
theorem nI_k4 (P : Nat) : (4 : Int32) * nI P = nI (4 * P) := by
  show nI 4 * nI P = _
  simp [nI]
theorem nI_k2 (P : Nat) : (2 : Int32) * nI P = nI (2 * P) := by
  show nI 2 * nI P = _
  simp [nI]
theorem M_head {k M P E i n : Nat} {t V : Nat → Int32} {g : eg_H} (hk : k < 3) (H : Tm 55 0 n t g) (R : RM g M P E V) (hi : i ≤ 1000) (hM : k = 0 → M = 0) :
    fX13_readClause_j53 (mfi g (nI i) (-1)) 54 (kL k) 1 = fX13_readClause_j210 (mfi (gN k P E g) (nI (i + 1)) (-1)) 54 (kL k) (nI (rO k P E)) (aP k) (k + 7) := by
  have hs' : ∀ a c, eg_stt (mfi g a c) := fun _ _ => H.1
  obtain ⟨r1, r2, r3, r4⟩ := R
  unfold fX13_readClause_j53
  rw [if_neg (by decide), gI_54 (hs' _ _), Option.bind_some, mfi_i10, pI_54 (hs' _ _), Option.bind_some, mfi_10, nI_1]
  rcases k3 hk with rfl | rfl | rfl
  · rw [show kL 0 = (109 : Int32) from rfl, if_neg (by decide), if_neg (by decide)]
    show fX13_readClause_j105 (mfi g (nI (i + 1)) (-1)) 54 109 0 = _
    unfold fX13_readClause_j105
    rw [if_neg (by decide), if_neg (by decide), gR_54 (hs' _ _), rf_54_19 (hs' _ _), Option.bind_some]
    unfold fX13_readClause_j136 fX13_readClause_j165
    rw [if_pos rfl, if_pos rfl, pZ_54 (hs' _ _) (Or.inr rfl), Option.bind_some, mfi_sI _ _ _ _ (by decide)]
    unfold fX13_readClause_j178 fX13_readClause_j194
    rw [if_neg (by decide), if_neg (by decide)]
    rfl
  · rw [show kL 1 = (112 : Int32) from rfl, if_pos rfl, gI_54 (hs' _ _), Option.bind_some, mfi_i _ _ _ (by decide), r1, nI_k4]
    show fX13_readClause_j105 (mfi g (nI (i + 1)) (-1)) 54 112 (nI (4 * P)) = _
    unfold fX13_readClause_j105
    rw [if_pos rfl, gR_54 (hs' _ _), rf_54_21 (hs' _ _), Option.bind_some]
    unfold fX13_readClause_j136 fX13_readClause_j165
    rw [if_neg (by decide), if_pos rfl, if_neg (by decide)]
    unfold fX13_readClause_j178
    rw [if_pos rfl, gI_54 (hs' _ _), Option.bind_some, mfi_i _ _ _ (by decide), r1, pI_54 (hs' _ _), Option.bind_some, mfi_sI _ _ _ _ (by decide), nI_1]
    unfold fX13_readClause_j194
    rw [if_neg (by decide)]
    rfl
  · rw [show kL 2 = (101 : Int32) from rfl, if_neg (by decide), if_pos rfl, gI_54 (hs' _ _), Option.bind_some, mfi_i _ _ _ (by decide), r2, nI_k2]
    show fX13_readClause_j105 (mfi g (nI (i + 1)) (-1)) 54 101 (nI (2 * E)) = _
    unfold fX13_readClause_j105
    rw [if_neg (by decide), if_pos rfl, gR_54 (hs' _ _), rf_54_23 (hs' _ _), Option.bind_some]
    unfold fX13_readClause_j136 fX13_readClause_j165
    rw [if_neg (by decide), if_neg (by decide), if_neg (by decide)]
    unfold fX13_readClause_j178
    rw [if_neg (by decide)]
    unfold fX13_readClause_j194
    rw [if_pos rfl, gI_54 (hs' _ _), Option.bind_some, mfi_i _ _ _ (by decide), r2, pI_54 (hs' _ _), Option.bind_some, mfi_sI _ _ _ _ (by decide), nI_1]
    rfl
theorem M_way {M P E n : Nat} {t V : Nat → Int32} {g : eg_H} {s : Int32} (H : Tm 55 0 n t g) (R : RM g M P E V) (hM : M ≤ 1) (hP : P ≤ 6) (hE : E ≤ 6) (a f : Int32) :
    (if s = (109 : Int32) then ((eg_gI (mfi g a f) 13 28 54).bind fun v5 => if v5 = 0 then fX13_readClause_j48 (mfi g a f) 54 s else fX13_readClause_j18 (mfi g a f) 54 s) else fX13_readClause_j18 (mfi g a f) 54 s) = fX13_readClause_j53 (mfi g a f) 54 s (if (clK s M P E).isSome then 1 else 0) := by
  have hs' : ∀ a c, eg_stt (mfi g a c) := fun _ _ => H.1
  obtain ⟨r1, r2, r3, r4⟩ := R
  have e18 : ¬ (s = 112 ∧ P < 6) → fX13_readClause_j18 (mfi g a f) 54 s = fX13_readClause_j33 (mfi g a f) 54 s := by
    intro z
    unfold fX13_readClause_j18
    by_cases c : s = 112
    · have z2 : ¬ P < 6 := fun w => z ⟨c, w⟩
      rw [if_pos c, gI_54 (hs' _ _), Option.bind_some, mfi_i _ _ _ (by decide), r1, if_neg (show ¬ nI P < (6 : Int32) from nI_nlt (b := 6) (by omega) (by omega))]
    · rw [if_neg c]
  have e33 : ¬ (s = 101 ∧ E < 6) → fX13_readClause_j33 (mfi g a f) 54 s = fX13_readClause_j53 (mfi g a f) 54 s 0 := by
    intro z
    unfold fX13_readClause_j33
    by_cases c : s = 101
    · have z2 : ¬ E < 6 := fun w => z ⟨c, w⟩
      rw [if_pos c, gI_54 (hs' _ _), Option.bind_some, mfi_i _ _ _ (by decide), r2, if_pos (show (6 : Int32) ≤ nI E from nI_le (a := 6) (by omega) (by omega))]
      rfl
    · rw [if_neg c]
      rfl
  unfold clK
  by_cases c1 : s = 109 ∧ M = 0
  · rw [if_pos c1.1, if_pos c1, gI_54 (hs' _ _), Option.bind_some, mfi_i _ _ _ (by decide), r3, c1.2, if_pos (show nI 0 = 0 from rfl)]
    rfl
  · have e1 : (if s = (109 : Int32) then ((eg_gI (mfi g a f) 13 28 54).bind fun v5 => if v5 = 0 then fX13_readClause_j48 (mfi g a f) 54 s else fX13_readClause_j18 (mfi g a f) 54 s) else fX13_readClause_j18 (mfi g a f) 54 s) = fX13_readClause_j18 (mfi g a f) 54 s := by
      by_cases c : s = 109
      · have z2 : ¬ M = 0 := fun w => c1 ⟨c, w⟩
        rw [if_pos c, gI_54 (hs' _ _), Option.bind_some, mfi_i _ _ _ (by decide), r3, if_neg (show ¬ nI M = 0 from by rw [show M = 1 by omega]; decide)]
      · rw [if_neg c]
    rw [e1, if_neg c1]
    by_cases c2 : s = 112 ∧ P < 6
    · rw [if_pos c2]
      unfold fX13_readClause_j18
      rw [if_pos c2.1, gI_54 (hs' _ _), Option.bind_some, mfi_i _ _ _ (by decide), r1, if_pos (show nI P < (6 : Int32) from nI_lt (b := 6) c2.2 (by decide))]
      rfl
    · rw [if_neg c2, e18 c2]
      by_cases c3 : s = 101 ∧ E < 6
      · rw [if_pos c3]
        unfold fX13_readClause_j33
        rw [if_pos c3.1, gI_54 (hs' _ _), Option.bind_some, mfi_i _ _ _ (by decide), r2, if_neg (show ¬ (6 : Int32) ≤ nI E from nI_ge (b := 6) c3.2 (by decide))]
        rfl
      · rw [if_neg c3, e33 c3]
        rfl
theorem clK_L {s : Int32} {M P E k : Nat} (h : clK s M P E = some k) : s = kL k ∧ (k = 0 → M = 0) := by
  unfold clK at h
  split at h
  · next z => cases h; exact ⟨z.1, fun _ => z.2⟩
  · split at h
    · next z => cases h; exact ⟨z.1, fun z => absurd z (by decide)⟩
    · split at h
      · next z => cases h; exact ⟨z.1, fun z => absurd z (by decide)⟩
      · cases h
theorem M_clause {n i M P E : Nat} {t V : Nat → Int32} {g : eg_H} (H : Tm 55 0 n t g) (hn : n ≤ 160) (R : RM g M P E V) (hM : M ≤ 1) (hP : P ≤ 6) (hE : E ≤ 6) (hi : i ≤ n) :
    ∃ g' a f, fX13_readClause (mfi g (nI i) (-1)) 54 = some (mfi g' a f) ∧ eg_eq SMm g g' ∧ clM t n (skp t n i) M P E V g' a f := by
  have hs' : ∀ a c, eg_stt (mfi g a c) := fun _ _ => H.1
  have hj := skp_le t n i hi
  unfold fX13_readClause
  rw [if_pos (iO_54 (hs' _ _)), M_look H (by omega), Option.bind_some]
  show ∃ g' a f, (if lk t n (skp t n i) = (109 : Int32) then _ else _) = _ ∧ _
  rw [M_way H R hM hP hE, clK_lk]
  unfold clM
  generalize skp t n i = j at hj
  cases hk : clK (sg t n j) M P E with
  | none =>
    refine ⟨g, nI j, nI j, ?_, eq_rfl, rfl⟩
    unfold fX13_readClause_j53
    rw [if_pos (show (if (none : Option Nat).isSome = true then (1 : Int32) else 0) = 0 from rfl), M_fails H.1, Option.bind_some, if_pos rfl]
  | some k =>
    obtain ⟨k1, k2, k3'⟩ := clK_lt hk
    obtain ⟨hs, hM0⟩ := clK_L hk
    have hjn : j < n := by
      rcases Nat.lt_or_ge j n with z | z
      · exact z
      · have : sg t n j = 0 := if_neg (by omega)
        rw [this] at hs
        rcases k3 k1 with rfl | rfl | rfl <;> exact absurd hs (by decide)
    have hlk : lk t n j = kL k := by rw [← hs]; unfold lk sg; rw [if_pos hjn, if_pos hjn]
    have hB := rO_le k1 k2 k3'
    have H1 := Tm_SMm H (gN_E (k := k) (P := P) (E := E))
    obtain ⟨g2, e2, E2, v2⟩ := M_us_L k1 hB (V := V) (a := nI (j + 1)) (f := -1) (kC k) 0 (gN k P E g) eg_F H1.1 (fun x hx => by
      rw [gN_v, R.2.2.2 x hx]; unfold vUc; rw [if_neg (by omega)]) (by omega) (by rw [eg_F_eq]; have := kC_le k; omega)
    have H2 := Tm_S62 H1 E2
    have hj1 := skp_le t n (j + 1) hjn
    obtain ⟨g3, a, f, e3, E3, x3⟩ := M_items k1 hB (kC k) (skp t n (j + 1)) 0 (vUs k (aB k + rO k P E) V) g2 eg_F H2 v2 hn (by show 0 + _ = _; omega) (Nat.two_pow_pos _) hj1 (by rw [eg_F_eq]; have := kC_le k; omega)
    have E4 := eq_tr (eq_tr (gN_E (k := k) (P := P) (E := E)) (S62_SMm E2)) (S62_SMm E3)
    have cN4 : cN k M P E g3 := by
      have c0 := gN_c k1 R
      obtain ⟨c1, c2, c3⟩ := c0
      refine ⟨?_, ?_, ?_⟩
      · rw [(E3.2 54 25 rfl).1, (E2.2 54 25 rfl).1]; exact c1
      · rw [(E3.2 54 27 rfl).1, (E2.2 54 27 rfl).1]; exact c2
      · rw [(E3.2 54 28 rfl).1, (E2.2 54 28 rfl).1]; exact c3
    refine ⟨g3, a, f, ?_, E4, ?_, cN4⟩
    · show fX13_readClause_j53 (mfi g (nI j) (-1)) 54 (lk t n j) 1 = _
      rw [hlk, M_head k1 H R (by omega) hM0]
      unfold fX13_readClause_j210
      rw [nI_0] at e2 e3
      rw [e2, Option.bind_some]
      show ((fX13_look (mfi g2 (nI (j + 1)) (-1)) 54).bind _) = _
      rw [M_look H2 (by omega), Option.bind_some]
      show ((fX13_placeOf (mfi g2 (nI (skp t n (j + 1))) (-1)) (k + 7) (lk t n (skp t n (j + 1)))).bind _) = _
      rw [M_place k1, Option.bind_some, itm_lk k1]
      exact e3
    · unfold itemsA
      rw [clB_rO k1]
      exact x3
