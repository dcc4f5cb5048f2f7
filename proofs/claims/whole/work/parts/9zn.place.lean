def shF (md : Nat) (gd sl : Nat → Nat) (st cd tot c : Nat) : Nat := if md = 1 ∧ st = 0 then tot else tot * gd (6 * (if md = 0 then st else cd % 10) + c) / sl (if md = 0 then st else cd % 10)
def lqF (rec : Nat → Nat → Nat → (Nat × Nat) → (Nat × Nat)) (K : Nat) (sh : Nat → Nat) (m cd : Nat) : Nat → (Nat × Nat) → (Nat × Nat)
  | 0, b => b
  | k + 1, b => lqF rec K sh m cd k (if m.testBit (K - (k + 1)) = true then b else rec (m ||| 2 ^ (K - (k + 1))) (10 * cd + (K - (k + 1))) (sh (K - (k + 1))) b)
def plF (N K : Nat) (sh : Nat → Nat → Nat → Nat → Nat) : Nat → Nat → Nat → Nat → (Nat × Nat) → (Nat × Nat)
  | 0, _, cd, tot, b => if b.1 ≤ tot then (tot + 1, cd) else b
  | j + 1, m, cd, tot, b => lqF (plF N K sh j) K (sh (N - (j + 1)) cd tot) m cd K b
section PL
variable {N K md : Nat} {gd sl : Nat → Nat} {sh : Nat → Nat → Nat → Nat → Nat}
theorem lq_cut {rec : Nat → Nat → Nat → (Nat × Nat) → (Nat × Nat)} {sf : Nat → Nat} {m cd tot : Nat} {b : Nat × Nat} (hr : ∀ m cd t, t ≤ tot → rec m cd t b = b) (hs : ∀ c, c < K → sf c ≤ tot) : ∀ k, k ≤ K → lqF rec K sf m cd k b = b := by
  intro k
  induction k with
  | zero => intro _; rfl
  | succ k ih =>
    intro hk
    unfold lqF
    by_cases c : m.testBit (K - (k + 1)) = true
    · rw [if_pos c]; exact ih (by omega)
    · rw [if_neg c, hr _ _ _ (hs _ (by omega))]; exact ih (by omega)
theorem pl_cut (hs : ∀ st cd tot c, c < K → sh st cd tot c ≤ tot) {b : Nat × Nat} : ∀ j m cd tot, tot < b.1 → plF N K sh j m cd tot b = b := by
  intro j
  induction j with
  | zero => intro m cd tot h; exact if_neg (by omega)
  | succ j ih =>
    intro m cd tot h
    exact lq_cut (tot := tot) (fun m cd t ht => ih m cd t (by omega)) (fun c hc => hs _ _ _ c hc) K (Nat.le_refl _)
theorem sh_le (hg : ∀ a c, c < K → gd (6 * a + c) ≤ sl a) (st cd tot c : Nat) (hc : c < K) : shF md gd sl st cd tot c ≤ tot := by
  unfold shF
  by_cases z : md = 1 ∧ st = 0
  · rw [if_pos z]; exact Nat.le_refl _
  · rw [if_neg z]
    refine Nat.div_le_of_le_mul ?_
    rw [Nat.mul_comm]
    exact Nat.mul_le_mul_right _ (hg _ c hc)
theorem shr_n {t g s : Nat} (ht : t ≤ 1000000000) (hg : g ≤ s) (h1 : 1 ≤ s) (h11 : s ≤ 11) : ¬ (nI s).toInt64 = 0 ∧ (((nI t).toInt64 * (nI g).toInt64) / (nI s).toInt64).toInt32 = nI (t * g / s) := by
  have hm : t * g ≤ 1000000000 * 11 := Nat.mul_le_mul ht (by omega)
  have hle : t * g / s ≤ t := by
    refine Nat.div_le_of_le_mul ?_
    rw [Nat.mul_comm]
    exact Nat.mul_le_mul_right _ hg
  rw [nW (by omega), nW (by omega), nW (by omega)]
  exact ⟨fun z => by have := (jI_eq (b := 0) (by unfold i6; omega) (by unfold i6; omega)).mp z; omega, by rw [j_md (by omega) (by omega), jW (by omega)]⟩
theorem or_64 {m c : Nat} (hm : m < 64) (hc : c < 6) : m ||| 2 ^ c < 64 := by
  have a1 : 2 ^ c < 2 ^ 6 := Nat.pow_lt_pow_right (by omega) hc
  exact Nat.or_lt_two_pow (n := 6) hm a1
theorem or_bit (m c x : Nat) : (m ||| 2 ^ c).testBit x = true ↔ (m.testBit x = true ∨ x = c) := by
  rw [Nat.testBit_or, Nat.testBit_two_pow, Bool.or_eq_true, decide_eq_true_eq]
  exact ⟨fun z => z.imp id Eq.symm, fun z => z.imp id Eq.symm⟩
theorem cd_nx {cd c st : Nat} (h : cd < 10 ^ st) (hc : c < 6) : 10 * cd + c < 10 ^ (st + 1) ∧ (10 * cd + c) % 10 = c := by
  rw [Nat.pow_succ]
  omega
def PX (N K md : Nat) (gd sl : Nat → Nat) (g : eg_H) (b : Nat × Nat) : Prop := eg_stt g ∧ eg_I g 47 6 = nI N ∧ eg_I g 47 7 = nI K ∧ eg_I g 47 8 = nI md ∧ (∀ a c, c < K → ((md = 0 ∧ a < N) ∨ (md = 1 ∧ a < K ∧ ¬ a = c)) → eg_I g 51 (6 * a + c) = nI (gd (6 * a + c)) ∧ eg_I g 52 a = nI (sl a)) ∧ eg_I g 47 10 = iI ((b.1 : Int) - 1) ∧ eg_I g 47 9 = nI b.2 ∧ b.1 ≤ 1000000001
def CF (N K j m cd : Nat) : Prop := m < 64 ∧ cd < 10 ^ (N - j) ∧ (¬ N - j = 0 → cd % 10 < K ∧ m.testBit (cd % 10) = true)
theorem CF_nx {j m cd c : Nat} (h : CF N K (j + 1) m cd) (hj : j + 1 ≤ N) (hK : K ≤ 6) (hc : c < K) : CF N K j (m ||| 2 ^ c) (10 * cd + c) := by
  have q := cd_nx (c := c) h.2.1 (by omega)
  rw [show N - (j + 1) + 1 = N - j by omega] at q
  refine ⟨or_64 h.1 (by omega), q.1, fun _ => ?_⟩
  rw [q.2]
  exact ⟨hc, (or_bit _ _ _).mpr (Or.inr rfl)⟩
theorem n10_m {n : Nat} (h : n < 2 ^ 31) : nI n % (10 : Int32) = nI (n % 10) := by
  rw [← iI_n, ← iI_n, show (10 : Int32) = iI 10 from rfl, iI_mod (by unfold i3; omega) (by unfold i3; omega), Int.tmod_eq_emod_of_nonneg (Int.natCast_nonneg n)]
  congr 1
theorem X_share {g : eg_H} {b : Nat × Nat} (M : PX N K md gd sl g b) (hN : N ≤ 6) (hK : K ≤ 6) (hg : ∀ a c, c < K → gd (6 * a + c) ≤ sl a) (h11 : ∀ a, 1 ≤ sl a ∧ sl a ≤ 11) {t a c : Nat} (ht : t ≤ 1000000000) (hc : c < K) (ha : (md = 0 ∧ a < N) ∨ (md = 1 ∧ a < K ∧ ¬ a = c)) : fX9_share g 47 (nI t) (nI a) (nI c) = some (nI (t * gd (6 * a + c) / sl a), g) := by
  obtain ⟨hs, h6, h7, h8, hr, h10, h9, hb1⟩ := M
  obtain ⟨r1, r2⟩ := hr a c hc ha
  have hl := h11 a
  have hga := hg a c hc
  have e6 : nI a * (6 : Int32) + nI c = nI (6 * a + c) := by rw [show (6 : Int32) = nI 6 from rfl, nI_kk, nI_add, Nat.mul_comm]
  have c1 : (nI a).toNatClampNeg = a := nI_clamp (by omega)
  have c2 : (nI (6 * a + c)).toNatClampNeg = 6 * a + c := nI_clamp (by omega)
  have a1 : eg_aI g 100 52 (nI a) = some (nI (sl a)) := by rw [aI_52 hs (nI_pos (by omega)) (by rw [c1]; omega), c1, r2]
  have a2 : eg_aI g 100 51 (nI (6 * a + c)) = some (nI (gd (6 * a + c))) := by rw [aI_51 hs (nI_pos (by omega)) (by rw [c2]; omega), c2, r1]
  obtain ⟨n0, ev⟩ := shr_n ht hga hl.1 hl.2
  unfold fX9_share
  rw [if_pos (iO_47 hs), e6, Option.bind_some, if_neg (nI_pos (by omega)), gR_47 hs, rf_47_4 hs, Option.bind_some, al_52 hs, Option.bind_some, if_neg (nI_ge (by omega) (by omega)), gR_47 hs, rf_47_3 hs, Option.bind_some, al_51 hs, Option.bind_some, if_neg (nI_ge (by omega) (by omega)), Option.bind_some, a1, Option.bind_some, if_pos (show (0 : Int32) < nI (sl a) from nI_lt (a := 0) (by omega) (by omega)), Option.bind_some, a2, Option.bind_some, Option.bind_some, a1, Option.bind_some, if_neg n0, ev]
theorem X_place (hN : N ≤ 6) (hK : K ≤ 6) (hmd : md ≤ 1) (hg : ∀ a c, c < K → gd (6 * a + c) ≤ sl a) (h11 : ∀ a, 1 ≤ sl a ∧ sl a ≤ 11) : ∀ j, j ≤ N → ∀ n g m cd tot b, j < n → PX N K md gd sl g b → CF N K j m cd → tot ≤ 1000000000 → ∃ g', fX9_place n g 47 (nI (N - j)) (nI m) (nI cd) (nI tot) = some g' ∧ PX N K md gd sl g' (plF N K (shF md gd sl) j m cd tot b) ∧ eg_eq [(47, some 10), (47, some 9)] g g' := by
  have hsl := sh_le (md := md) hg
  intro j
  induction j with
  | zero =>
    intro _ n g m cd tot b hn M F ht
    obtain ⟨n, rfl⟩ : ∃ n', n = n' + 1 := ⟨n - 1, by omega⟩
    obtain ⟨hs, h6, h7, h8, hr, h10, h9, hb1⟩ := id M
    show ∃ g', fX9_placeB (fX9_place n) g 47 (nI N) (nI m) (nI cd) (nI tot) = some g' ∧ _
    unfold fX9_placeB plF
    rw [if_pos (iO_47 hs), gI_47 hs, Option.bind_some, h10]
    have hlt : (iI ((b.1 : Int) - 1) < nI tot) ↔ b.1 ≤ tot := by rw [← iI_n, iI_lt (by unfold i3; omega) (by unfold i3; omega)]; omega
    by_cases c : b.1 ≤ tot
    · rw [if_pos (hlt.mpr c), gI_47 hs, Option.bind_some, h6, if_neg (nI_nlt (Nat.le_refl _) (by omega)), pI_47 hs, Option.bind_some, pI_47 (h := eg_sI g 47 10 (nI tot)) hs, Option.bind_some, if_pos c]
      refine ⟨_, rfl, ⟨hs, ?_, ?_, ?_, fun a c hc ha => ?_, ?_, ?_, by show tot + 1 ≤ _; omega⟩, eq_sI (eq_sI eq_rfl rfl) rfl⟩
      · rw [I_sI, if_neg (by omega), I_sI, if_neg (by omega)]; exact h6
      · rw [I_sI, if_neg (by omega), I_sI, if_neg (by omega)]; exact h7
      · rw [I_sI, if_neg (by omega), I_sI, if_neg (by omega)]; exact h8
      · rw [I_sI, if_neg (by omega), I_sI, if_neg (by omega), I_sI, if_neg (by omega), I_sI, if_neg (by omega)]; exact hr a c hc ha
      · rw [I_sI, if_neg (by omega), I_sI, if_pos ⟨rfl, rfl⟩, ← iI_n]
        congr 1
        show (tot : Int) = ((tot + 1 : Nat) : Int) - 1
        omega
      · rw [I_sI, if_pos ⟨rfl, rfl⟩]
    · rw [if_neg (fun z => c (hlt.mp z)), if_neg c]
      exact ⟨g, rfl, M, eq_rfl⟩
  | succ j ih =>
    intro hj n g m cd tot b hn M F ht
    obtain ⟨n, rfl⟩ : ∃ n', n = n' + 1 := ⟨n - 1, by omega⟩
    have IH := ih (by omega) n
    show ∃ g', fX9_placeB (fX9_place n) g 47 (nI (N - (j + 1))) (nI m) (nI cd) (nI tot) = some g' ∧ _
    have hcd : cd < 1000000 := by
      have : 10 ^ (N - (j + 1)) ≤ 10 ^ 6 := Nat.pow_le_pow_right (by omega) (by omega)
      have := F.2.1
      omega
    have hm := F.1
    let A := if md = 0 then N - (j + 1) else cd % 10
    have loop : ∀ k, k ≤ K → ∀ f g b, k < f → PX N K md gd sl g b → ∃ g', fX9_place_L50 (fX9_place n) f g 47 (nI (N - (j + 1))) (nI m) (nI cd) (nI tot) (nI A) (nI (K - k)) = some g' ∧ PX N K md gd sl g' (lqF (plF N K (shF md gd sl) j) K (shF md gd sl (N - (j + 1)) cd tot) m cd k b) ∧ eg_eq [(47, some 10), (47, some 9)] g g' := by
      intro k
      induction k with
      | zero =>
        intro _ f g b hf M
        obtain ⟨f, rfl⟩ : ∃ f', f = f' + 1 := ⟨f - 1, by omega⟩
        obtain ⟨hs, h6, h7, _⟩ := id M
        exact ⟨g, by rw [fX9_place_L50, gI_47 hs, Option.bind_some, h7, if_pos (nI_le (show K ≤ K - 0 by omega) (by omega))], M, eq_rfl⟩
      | succ k ihk =>
        intro hk f g b hf M
        obtain ⟨f, rfl⟩ : ∃ f', f = f' + 1 := ⟨f - 1, by omega⟩
        obtain ⟨hs, h6, h7, h8, hr, h10, h9, hb1⟩ := id M
        unfold lqF
        generalize hc : K - (k + 1) = c at *
        rw [fX9_place_L50, gI_47 hs, Option.bind_some, h7, if_neg (nI_ge (by omega) (by omega))]
        by_cases z : m.testBit c = true
        · rw [if_neg (fun w => (bt_0 (by omega) (by omega)).mp w z), if_pos z, nI_1, show c + 1 = K - k by omega]
          exact ihk (by omega) f g b (by omega) M
        · rw [if_pos ((bt_0 (by omega) (by omega)).mpr z), if_neg z, gI_47 hs, Option.bind_some, h8]
          have F' := CF_nx F hj hK (show c < K by omega)
          have hle := hsl (N - (j + 1)) cd tot c (by omega)
          obtain ⟨g1, e1, M1, E1⟩ := IH g (m ||| 2 ^ c) (10 * cd + c) (shF md gd sl (N - (j + 1)) cd tot c) b (by omega) M F' (by omega)
          obtain ⟨g2, e2, M2, E2⟩ := ihk (by omega) f g1 _ (by omega) M1
          rw [show K - k = c + 1 by omega] at e2
          rw [show N - j = N - (j + 1) + 1 by omega] at e1
          refine ⟨g2, ?_, M2, eq_tr E1 E2⟩
          have eo : nI m ||| ((1 : Int32) <<< (nI c &&& 31)) = nI (m ||| 2 ^ c) := by rw [shl1 c (by omega), nI_or]
          have ec : (10 : Int32) * nI cd + nI c = nI (10 * cd + c) := by rw [show (10 : Int32) = nI 10 from rfl, nI_kk, nI_add]
          have j83 : ¬ (md = 1 ∧ N - (j + 1) = 0) → fX9_place_j83 (fX9_place n) (fX9_place_L50 (fX9_place n) f) g 47 (nI (N - (j + 1))) (nI m) (nI cd) (nI tot) (nI A) (nI c) = some g2 := fun hz => by
            have hA : (md = 0 ∧ A < N) ∨ (md = 1 ∧ A < K ∧ ¬ A = c) := by
              show (md = 0 ∧ (if md = 0 then N - (j + 1) else cd % 10) < N) ∨ (md = 1 ∧ (if md = 0 then N - (j + 1) else cd % 10) < K ∧ ¬ (if md = 0 then N - (j + 1) else cd % 10) = c)
              by_cases q : md = 0
              · rw [if_pos q]; omega
              · rw [if_neg q]
                obtain ⟨y1, y2⟩ := F.2.2 (by omega)
                exact Or.inr ⟨by omega, y1, fun w => z (by rw [← w]; exact y2)⟩
            have es : shF md gd sl (N - (j + 1)) cd tot c = tot * gd (6 * A + c) / sl A := if_neg hz
            unfold fX9_place_j83 fX9_place_j84
            rw [if_pos rfl, X_share M hN hK hg h11 ht (by omega) hA, Option.bind_some]
            dsimp only
            rw [if_pos (iO_47 hs), nI_1, eo, ec, ← es, e1, Option.bind_some, nI_1]
            exact e2
          by_cases q : md = 0
          · rw [if_pos (by rw [q]; rfl)]; exact j83 (by omega)
          · rw [if_neg (nI_ne0 (by omega) (by omega))]
            by_cases q2 : N - (j + 1) = 0
            · have es : shF md gd sl (N - (j + 1)) cd tot c = tot := if_pos ⟨by omega, q2⟩
              rw [es] at e1
              rw [if_pos (by rw [q2]; rfl)]
              unfold fX9_place_j84
              rw [if_neg (show ¬ (1 : Int32) = 0 by decide), if_pos (iO_47 hs), nI_1, eo, ec, e1, Option.bind_some, nI_1]
              exact e2
            · rw [if_neg (nI_ne0 (by omega) (by omega))]; exact j83 (by omega)
    obtain ⟨hs, h6, h7, h8, hr, h10, h9, hb1⟩ := id M
    unfold fX9_placeB
    rw [if_pos (iO_47 hs), gI_47 hs, Option.bind_some, h10]
    have hlt : (iI ((b.1 : Int) - 1) < nI tot) ↔ b.1 ≤ tot := by rw [← iI_n, iI_lt (by unfold i3; omega) (by unfold i3; omega)]; omega
    by_cases c : b.1 ≤ tot
    · obtain ⟨g1, e1, M1, E1⟩ := loop K (Nat.le_refl _) eg_F g b (by rw [eg_F_eq]; omega) M
      rw [Nat.sub_self] at e1
      have e1' : fX9_place_L50 (fX9_place n) eg_F g 47 (nI (N - (j + 1))) (nI m) (nI cd) (nI tot) (nI A) 0 = some g1 := e1
      refine ⟨g1, ?_, M1, E1⟩
      rw [if_pos (hlt.mpr c), gI_47 hs, Option.bind_some, h6, if_pos (nI_lt (by omega) (by omega)), gI_47 hs, Option.bind_some, h8]
      unfold fX9_place_j45
      by_cases q : md = 0
      · have eA : A = N - (j + 1) := if_pos q
        rw [eA] at e1'
        rw [if_pos (by rw [q]; rfl), e1', Option.bind_some]
      · have eA : A = cd % 10 := if_neg q
        rw [eA] at e1'
        rw [if_neg (nI_ne0 (by omega) (by omega)), n10_m (by omega), e1', Option.bind_some]
    · rw [if_neg (fun z => c (hlt.mp z)), pl_cut hsl (j + 1) m cd tot (by omega)]
      exact ⟨g, rfl, M, eq_rfl⟩
theorem X_find {g : eg_H} (hN : N ≤ 6) (hK : K ≤ 6) (hmd : md ≤ 1) (hg : ∀ a c, c < K → gd (6 * a + c) ≤ sl a) (h11 : ∀ a, 1 ≤ sl a ∧ sl a ≤ 11) (hs : eg_stt g) (hr : ∀ a c, c < K → ((md = 0 ∧ a < N) ∨ (md = 1 ∧ a < K ∧ ¬ a = c)) → eg_I g 51 (6 * a + c) = nI (gd (6 * a + c)) ∧ eg_I g 52 a = nI (sl a)) : ∃ g', fX9_findRow g 47 (nI N) (nI K) (nI md) = some g' ∧ eg_eq [(47, some 6), (47, some 7), (47, some 8), (47, some 10), (47, some 9)] g g' ∧ eg_I g' 47 10 = iI (((plF N K (shF md gd sl) N 0 0 1000000000 (0, 0)).1 : Int) - 1) ∧ eg_I g' 47 9 = nI (plF N K (shF md gd sl) N 0 0 1000000000 (0, 0)).2 := by
  let g1 := eg_sI g 47 6 (nI N)
  let g2 := eg_sI g1 47 7 (nI K)
  let g3 := eg_sI g2 47 8 (nI md)
  let g4 := eg_sI g3 47 10 (-1)
  let g5 := eg_sI g4 47 9 0
  have q : ∀ i, eg_I g5 47 i = if i = 9 then 0 else if i = 10 then -1 else if i = 8 then nI md else if i = 7 then nI K else if i = 6 then nI N else eg_I g 47 i := fun i => by
    show eg_I (eg_sI (eg_sI (eg_sI (eg_sI (eg_sI g 47 6 (nI N)) 47 7 (nI K)) 47 8 (nI md)) 47 10 (-1)) 47 9 0) 47 i = _
    simp only [I_sI, true_and]
  have q2 : ∀ p i, ¬ p = 47 → eg_I g5 p i = eg_I g p i := fun p i hp => by
    show eg_I (eg_sI (eg_sI (eg_sI (eg_sI (eg_sI g 47 6 (nI N)) 47 7 (nI K)) 47 8 (nI md)) 47 10 (-1)) 47 9 0) p i = _
    simp only [I_sI, if_neg (fun z : p = 47 ∧ i = _ => hp z.1)]
  have M5 : PX N K md gd sl g5 (0, 0) := ⟨hs, by rw [q]; rfl, by rw [q]; rfl, by rw [q]; rfl, fun a c hc ha => by rw [q2 51 _ (by omega), q2 52 _ (by omega)]; exact hr a c hc ha, by rw [q]; rfl, by rw [q]; rfl, by show 0 ≤ 1000000001; omega⟩
  obtain ⟨g6, e6, M6, E6⟩ := X_place hN hK hmd hg h11 N (Nat.le_refl _) eg_D g5 0 0 1000000000 (0, 0) (by show N < 64; omega) M5 ⟨by omega, by rw [Nat.sub_self]; decide, fun z => absurd (Nat.sub_self N) z⟩ (by omega)
  rw [Nat.sub_self] at e6
  have e6' : fX9_place eg_D g5 47 0 0 0 1000000000 = some g6 := e6
  refine ⟨g6, ?_, eq_tr (eq_sI (eq_sI (eq_sI (eq_sI (eq_sI eq_rfl rfl) rfl) rfl) rfl) rfl) (cov_sub (by decide) E6), M6.2.2.2.2.2.1, M6.2.2.2.2.2.2.1⟩
  have hz : nI md = 0 ∨ nI md = 1 := by
    rcases (by omega : md = 0 ∨ md = 1) with w | w
    · left; rw [w]; rfl
    · right; rw [w]; rfl
  unfold fX9_findRow
  rw [if_pos (iO_47 hs), pI_47 hs, Option.bind_some, pI_47 (h := g1) hs, Option.bind_some, pZ_47 (h := g2) hs hz, Option.bind_some, pI_47 (h := g3) hs, Option.bind_some, pI_47 (h := g4) hs, Option.bind_some]
  show ((fX9_place eg_D g5 47 0 0 0 1000000000).bind _) = _
  rw [e6', Option.bind_some]
end PL
