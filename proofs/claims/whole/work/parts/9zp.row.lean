section PQ
variable {N K : Nat} {sh : Nat → Nat → Nat → Nat → Nat}
theorem ct_0 {p : Nat → Bool} : ∀ n, ct p n = 0 → ∀ x, x < n → p x = false := by
  intro n
  induction n with
  | zero => intro _ x hx; omega
  | succ n ih =>
    intro h x hx
    unfold ct at h
    by_cases c : p n = true
    · rw [if_pos c] at h; omega
    · rw [if_neg c] at h
      by_cases e : x = n
      · rw [e]; simpa using c
      · exact ih (by omega) x (by omega)
theorem ct_ex {p : Nat → Bool} : ∀ n, 0 < ct p n → ∃ x, x < n ∧ p x = true := by
  intro n
  induction n with
  | zero => intro h; exact absurd h (Nat.lt_irrefl 0)
  | succ n ih =>
    intro h
    by_cases c : p n = true
    · exact ⟨n, by omega, c⟩
    · unfold ct at h
      rw [if_neg c] at h
      obtain ⟨x, x1, x2⟩ := ih (by omega)
      exact ⟨x, by omega, x2⟩
theorem ct_up {p q : Nat → Bool} {c : Nat} (h1 : p c = true) (h2 : q c = false) (h3 : ∀ x, ¬ x = c → q x = p x) : ∀ n, c < n → ct q n + 1 = ct p n := by
  intro n
  induction n with
  | zero => intro h; omega
  | succ n ih =>
    intro h
    unfold ct
    by_cases e : c = n
    · subst e
      have : ct q c = ct p c := by
        have a := ct_le (p := q) (q := p) c (fun j hj z => by rw [h3 j (by omega)] at z; exact z)
        have b := ct_le (p := p) (q := q) c (fun j hj z => by rw [h3 j (by omega)]; exact z)
        omega
      rw [this, h1, h2]
      simp
    · have := ih (by omega)
      rw [h3 n (by omega)]
      split <;> omega
def fr6 (K m : Nat) : Nat := ct (fun c => !(m.testBit c)) K
theorem fr6_nx {m c : Nat} (hc : c < K) (hf : ¬ m.testBit c = true) : fr6 K (m ||| 2 ^ c) + 1 = fr6 K m := by
  refine ct_up (c := c) ?_ ?_ (fun x hx => ?_) K hc
  · simp only [Bool.not_eq_true'] ; simpa using hf
  · have := (or_bit m c c).mpr (Or.inr rfl)
    rw [this]; rfl
  · congr 1
    by_cases z : m.testBit x = true
    · rw [z, (or_bit m c x).mpr (Or.inl z)]
    · have : ¬ (m ||| 2 ^ c).testBit x = true := fun w => by
        rcases (or_bit m c x).mp w with q | q
        · exact z q
        · exact hx q
      rw [Bool.eq_false_iff.mpr z, Bool.eq_false_iff.mpr this]
theorem lq_ge {rec : Nat → Nat → Nat → (Nat × Nat) → (Nat × Nat)} {sf : Nat → Nat} {m cd : Nat} (hr : ∀ m cd t b, b.1 ≤ (rec m cd t b).1) : ∀ k b, b.1 ≤ (lqF rec K sf m cd k b).1 := by
  intro k
  induction k with
  | zero => intro b; exact Nat.le_refl _
  | succ k ih =>
    intro b
    unfold lqF
    refine Nat.le_trans ?_ (ih _)
    by_cases c : m.testBit (K - (k + 1)) = true
    · rw [if_pos c]; exact Nat.le_refl _
    · rw [if_neg c]; exact hr _ _ _ _
theorem pl_ge : ∀ j m cd tot b, b.1 ≤ (plF N K sh j m cd tot b).1 := by
  intro j
  induction j with
  | zero =>
    intro m cd tot b
    unfold plF
    by_cases c : b.1 ≤ tot
    · rw [if_pos c]; show b.1 ≤ tot + 1; omega
    · rw [if_neg c]; exact Nat.le_refl _
  | succ j ih => intro m cd tot b; exact lq_ge ih K b
theorem lq_pos {rec : Nat → Nat → Nat → (Nat × Nat) → (Nat × Nat)} {sf : Nat → Nat} {m cd c : Nat} (hr : ∀ m cd t b, b.1 ≤ (rec m cd t b).1) (hf : ¬ m.testBit c = true) (h1 : ∀ b, 1 ≤ (rec (m ||| 2 ^ c) (10 * cd + c) (sf c) b).1) : ∀ k b, k ≤ K → K - k ≤ c → c < K → 1 ≤ (lqF rec K sf m cd k b).1 := by
  intro k
  induction k with
  | zero => intro b hk h2 h3; omega
  | succ k ih =>
    intro b hk h2 h3
    unfold lqF
    by_cases e : c = K - (k + 1)
    · rw [← e, if_neg hf]
      exact Nat.le_trans (h1 b) (lq_ge hr k _)
    · exact ih _ (by omega) (by omega) h3
theorem pl_pos : ∀ j m cd tot b, j ≤ fr6 K m → 1 ≤ (plF N K sh j m cd tot b).1 := by
  intro j
  induction j with
  | zero =>
    intro m cd tot b _
    unfold plF
    by_cases c : b.1 ≤ tot
    · rw [if_pos c]; show 1 ≤ tot + 1; omega
    · rw [if_neg c]; omega
  | succ j ih =>
    intro m cd tot b h
    obtain ⟨c, c1, c2⟩ := ct_ex (p := fun c => !(m.testBit c)) K (by show 0 < fr6 K m; omega)
    have hf : ¬ m.testBit c = true := by simpa using c2
    have := fr6_nx c1 hf
    exact lq_pos (pl_ge j) hf (fun b => ih _ _ _ b (by omega)) K b (Nat.le_refl _) (by omega) c1
theorem fr6_0 : ∀ K, K ≤ 6 → fr6 K 0 = K := by decide +kernel
theorem full_m {P m : Nat} (hm : m < 2 ^ P) (h : fr6 P m = 0) : m = 2 ^ P - 1 := by
  refine Nat.eq_of_testBit_eq (fun x => ?_)
  rw [Nat.testBit_two_pow_sub_one]
  by_cases c : x < P
  · have := ct_0 (p := fun c => !(m.testBit c)) P h x c
    have e : m.testBit x = true := by simpa using this
    rw [e]; simpa using c
  · have : m.testBit x = false := Nat.testBit_lt_two_pow (Nat.lt_of_lt_of_le hm (Nat.pow_le_pow_right (by omega) (by omega)))
    rw [this]; simpa using c
theorem not_full {P : Nat} (h : 0 < fr6 P (2 ^ P - 1)) : False := by
  obtain ⟨x, x1, x2⟩ := ct_ex _ h
  rw [Nat.testBit_two_pow_sub_one] at x2
  simp at x2
  omega
end PQ
section RM2
variable {h h' : eg_H} {σ : eg_S}
theorem M_hasb (g : eg_H) {m c : Nat} (hm : m < 64) (hc : c < 6) : fX13_has g (nI m) (nI c) = some (if m.testBit c = true then 1 else 0, g) := by
  unfold fX13_has
  by_cases z : m.testBit c = true
  · rw [if_pos ((bt_1 (by omega) (by omega)).mpr z), if_pos z]
  · rw [if_neg (fun w => z ((bt_1 (by omega) (by omega)).mp w)), if_neg z]
def PMr (σ : eg_S) (e y : Nat) (h g : eg_H) (b : Nat × Nat) : Prop := eg_eq Rx h g ∧ (∀ a c, a < sP σ → c < sP σ → ¬ a = c → eg_I g 86 (6 * a + c) = nI (gdR σ e y (6 * a + c))) ∧ eg_I g 54 68 = iI ((b.1 : Int) - 1) ∧ (¬ b.1 = 0 → eg_I g 54 67 = nI b.2) ∧ b.1 ≤ 1000000001
theorem M_goRow (R : RI h σ) {e y : Nat} (hPp : 0 < sP σ) : ∀ j, j ≤ sP σ → ∀ n g m cd tot b, j < n → PMr σ e y h g b → CF (sP σ) (sP σ) j m cd → m < 2 ^ sP σ → fr6 (sP σ) m = j → tot ≤ 1000000000 → ∃ g', fX13_goRow n g 54 (if sP σ - j = 0 then -1 else nI (cd % 10)) (nI m) (nI cd) (nI tot) = some g' ∧ PMr σ e y h g' (plF (sP σ) (sP σ) (shF 1 (gdR σ e y) (slR σ)) j m cd tot b) := by
  have hP := (RI_P R).1
  have hsl := sh_le (md := 1) (gdR_le (σ := σ) (e := e) (y := y) hP)
  intro j
  induction j with
  | zero =>
    intro _ n g m cd tot b hn M F hm hf ht
    obtain ⟨n, rfl⟩ : ∃ n', n = n' + 1 := ⟨n - 1, by omega⟩
    obtain ⟨Q, h86, h68, h67, hb1⟩ := id M
    have Rg := RI_scr R Q
    have hs := Rg.1
    have e0 := full_m hm hf
    show ∃ g', fX13_goRowB (fX13_goRow n) g 54 _ (nI m) (nI cd) (nI tot) = some g' ∧ _
    unfold fX13_goRowB plF
    rw [if_pos (iO_54 hs), gI_54 hs, Option.bind_some, Rg.2.2.2.1.2.2.2.1, shl_m1 _ hP, if_pos (by rw [e0]), gI_54 hs, Option.bind_some, h68]
    have hlt : (iI ((b.1 : Int) - 1) < nI tot) ↔ b.1 ≤ tot := by rw [← iI_n, iI_lt (by unfold i3; omega) (by unfold i3; omega)]; omega
    by_cases c : b.1 ≤ tot
    · rw [if_pos (hlt.mpr c), pI_54 hs, Option.bind_some, pI_54 (h := eg_sI g 54 67 (nI cd)) hs, Option.bind_some, if_pos c]
      refine ⟨_, rfl, eq_sI (eq_sI Q rfl) rfl, fun a c ha hc hne => ?_, ?_, fun _ => ?_, by show tot + 1 ≤ _; omega⟩
      · rw [I_sI, if_neg (by omega), I_sI, if_neg (by omega)]; exact h86 a c ha hc hne
      · rw [I_sI, if_pos ⟨rfl, rfl⟩, ← iI_n]
        congr 1
        show (tot : Int) = ((tot + 1 : Nat) : Int) - 1
        omega
      · rw [I_sI, if_neg (by omega), I_sI, if_pos ⟨rfl, rfl⟩]
    · rw [if_neg (fun z => c (hlt.mp z)), if_neg c]
      exact ⟨g, rfl, M⟩
  | succ j ih =>
    intro hj n g m cd tot b hn M F hm hf ht
    obtain ⟨n, rfl⟩ : ∃ n', n = n' + 1 := ⟨n - 1, by omega⟩
    have IH := ih (by omega) n
    have m64 := F.1
    show ∃ g', fX13_goRowB (fX13_goRow n) g 54 (if sP σ - (j + 1) = 0 then -1 else nI (cd % 10)) (nI m) (nI cd) (nI tot) = some g' ∧ _
    have loop : ∀ k, k ≤ sP σ → ∀ f g b, k < f → PMr σ e y h g b → ∃ g', fX13_goRow_L37 (fX13_goRow n) f g 54 (if sP σ - (j + 1) = 0 then -1 else nI (cd % 10)) (nI m) (nI cd) (nI tot) (nI (sP σ - k)) = some g' ∧ PMr σ e y h g' (lqF (plF (sP σ) (sP σ) (shF 1 (gdR σ e y) (slR σ)) j) (sP σ) (shF 1 (gdR σ e y) (slR σ) (sP σ - (j + 1)) cd tot) m cd k b) := by
      intro k
      induction k with
      | zero =>
        intro _ f g b hf M
        obtain ⟨f, rfl⟩ : ∃ f', f = f' + 1 := ⟨f - 1, by omega⟩
        have Rg := RI_scr R M.1
        exact ⟨g, by rw [fX13_goRow_L37, gI_54 Rg.1, Option.bind_some, Rg.2.2.2.1.2.2.2.1, if_pos (nI_le (show sP σ ≤ sP σ - 0 by omega) (by omega))], M⟩
      | succ k ihk =>
        intro hk f g b hf' M
        obtain ⟨f, rfl⟩ : ∃ f', f = f' + 1 := ⟨f - 1, by omega⟩
        obtain ⟨Q, h86, h68, h67, hb1⟩ := id M
        have Rg := RI_scr R Q
        have hs := Rg.1
        unfold lqF
        generalize hc : sP σ - (k + 1) = c at *
        have hcP : c < sP σ := by omega
        rw [fX13_goRow_L37, gI_54 hs, Option.bind_some, Rg.2.2.2.1.2.2.2.1, if_neg (nI_ge (by omega) (by omega)), M_hasb g m64 (by omega), Option.bind_some]
        dsimp only
        rw [g01]
        by_cases z : m.testBit c = true
        · rw [if_pos z, if_pos z, nI_1, show c + 1 = sP σ - k by omega]
          exact ihk (by omega) f g b (by omega) M
        · rw [if_neg z, if_neg z]
          have F' := CF_nx F hj hP hcP
          have hle := hsl (sP σ - (j + 1)) cd tot c hcP
          have c10 : (10 * cd + c) % 10 = c := by omega
          have m2 : m ||| 2 ^ c < 2 ^ sP σ := Nat.or_lt_two_pow hm (Nat.pow_lt_pow_right (by omega) hcP)
          have f2 : fr6 (sP σ) (m ||| 2 ^ c) = j := by have := fr6_nx hcP z; omega
          obtain ⟨g1, e1, M1⟩ := IH g (m ||| 2 ^ c) (10 * cd + c) (shF 1 (gdR σ e y) (slR σ) (sP σ - (j + 1)) cd tot c) b (by omega) M F' m2 f2 (by omega)
          rw [if_neg (by omega), c10] at e1
          obtain ⟨g2, e2, M2⟩ := ihk (by omega) f g1 _ (by omega) M1
          rw [show sP σ - k = c + 1 by omega] at e2
          refine ⟨g2, ?_, M2⟩
          have eo : nI m ||| ((1 : Int32) <<< (nI c &&& 31)) = nI (m ||| 2 ^ c) := by rw [shl1 c (by omega), nI_or]
          have ec : (10 : Int32) * nI cd + nI c = nI (10 * cd + c) := by rw [show (10 : Int32) = nI 10 from rfl, nI_kk, nI_add]
          by_cases q : sP σ - (j + 1) = 0
          · have es : shF 1 (gdR σ e y) (slR σ) (sP σ - (j + 1)) cd tot c = tot := if_pos ⟨rfl, q⟩
            rw [es] at e1
            rw [if_pos q] at e2 ⊢
            rw [if_pos rfl, if_pos (iO_54 hs), eo, ec, e1, Option.bind_some, nI_1]
            exact e2
          · obtain ⟨y1, y2⟩ := F.2.2 q
            have hne : ¬ cd % 10 = c := fun w => z (by rw [← w]; exact y2)
            have es : shF 1 (gdR σ e y) (slR σ) (sP σ - (j + 1)) cd tot c = tot * gdR σ e y (6 * (cd % 10) + c) / slR σ (cd % 10) := if_neg (fun w => q w.2)
            have hgl := gdR_le (σ := σ) (e := e) (y := y) hP (cd % 10) c hcP
            have esl : slR σ (cd % 10) = 2 * sU σ (4 + 4 * (cd % 10)) + 1 := if_pos y1
            rw [esl] at hgl es
            have e6 : (6 : Int32) * nI (cd % 10) + nI c = nI (6 * (cd % 10) + c) := by rw [show (6 : Int32) = nI 6 from rfl, nI_kk, nI_add]
            have hcl : (nI (6 * (cd % 10) + c)).toNatClampNeg = 6 * (cd % 10) + c := nI_clamp (by omega)
            rw [if_neg q] at e2 ⊢
            rw [if_neg (nI_nm1 (by omega)), gR_54 hs, rf_54_66 hs, Option.bind_some, e6, aI_86 hs (nI_pos (by omega)) (by rw [hcl]; omega), hcl, Option.bind_some, h86 _ _ y1 hcP hne, M_after Rg y1 ht hgl, Option.bind_some]
            dsimp only
            rw [if_pos (iO_54 hs), eo, ec, ← es, e1, Option.bind_some, nI_1]
            exact e2
    obtain ⟨Q, h86, h68, h67, hb1⟩ := id M
    have Rg := RI_scr R Q
    have hs := Rg.1
    unfold fX13_goRowB
    have nf : ¬ nI m = nI (2 ^ sP σ - 1) := fun w => by
      have q := congrArg dN w
      have h64 : 2 ^ sP σ ≤ 2 ^ 6 := Nat.pow_le_pow_right (by omega) hP
      rw [dN_n (by omega), dN_n (by omega)] at q
      rw [q] at hf
      exact not_full (P := sP σ) (by omega)
    obtain ⟨g1, e1, M1⟩ := loop (sP σ) (Nat.le_refl _) eg_F g b (by rw [eg_F_eq]; omega) M
    rw [Nat.sub_self] at e1
    have e1' : fX13_goRow_L37 (fX13_goRow n) eg_F g 54 (if sP σ - (j + 1) = 0 then -1 else nI (cd % 10)) (nI m) (nI cd) (nI tot) 0 = some g1 := e1
    refine ⟨g1, ?_, M1⟩
    rw [if_pos (iO_54 hs), gI_54 hs, Option.bind_some, Rg.2.2.2.1.2.2.2.1, shl_m1 _ hP, if_neg nf, e1', Option.bind_some]
theorem M_rw52 (R : RI h σ) {e y a : Nat} {k : Int32} (he : e < sE σ) (hy : y ≤ 60) (ha : a < sP σ) : ∀ j c g F, c + j = sP σ → j < F → eg_eq Rx h g → (∀ a' c', c' < sP σ → 6 * a' + c' < 6 * a + c → ¬ a' = c' → eg_I g 86 (6 * a' + c') = nI (gdR σ e y (6 * a' + c'))) → ∃ g', fX13_row_L52 F g 54 (nI e) (nI y) k (nI a) (nI c) = some (54, nI e, nI y, k, nI a, g') ∧ eg_eq Rx h g' ∧ (∀ a' c', c' < sP σ → 6 * a' + c' < 6 * a + sP σ → ¬ a' = c' → eg_I g' 86 (6 * a' + c') = nI (gdR σ e y (6 * a' + c'))) := by
  have hP := RI_P R
  intro j
  induction j with
  | zero =>
    intro c g F hi hF Q H
    obtain ⟨F, rfl⟩ : ∃ F', F = F' + 1 := ⟨F - 1, by omega⟩
    have Rg := RI_scr R Q
    obtain rfl : c = sP σ := by omega
    exact ⟨g, by rw [fX13_row_L52, gI_54 Rg.1, Option.bind_some, Rg.2.2.2.1.2.2.2.1, if_pos (nI_le (Nat.le_refl _) (by omega))], Q, H⟩
  | succ j ih =>
    intro c g F hi hF Q H
    obtain ⟨F, rfl⟩ : ∃ F', F = F' + 1 := ⟨F - 1, by omega⟩
    have Rg := RI_scr R Q
    have sg := Rg.1
    have e6 : (6 : Int32) * nI a + nI c = nI (6 * a + c) := by rw [show (6 : Int32) = nI 6 from rfl, nI_kk, nI_add]
    have hcl : (nI (6 * a + c)).toNatClampNeg = 6 * a + c := nI_clamp (by omega)
    rw [fX13_row_L52, gI_54 sg, Option.bind_some, Rg.2.2.2.1.2.2.2.1, if_neg (nI_ge (by omega) (by omega)), gR_54 sg, rf_54_66 sg, Option.bind_some]
    by_cases q : a = c
    · rw [if_pos (by rw [q]), e6, wI_86 sg (nI_pos (by omega)) (by rw [hcl]; omega), hcl, Option.bind_some, nI_1]
      refine ih (c + 1) (eg_sI g 86 (6 * a + c) 0) F (by omega) (by omega) (eq_sI Q rfl) (fun a' c' hc' hlt hne => ?_)
      rw [I_sI, if_neg (by omega)]
      exact H a' c' hc' (by omega) hne
    · obtain ⟨g1, e1, O1, E1⟩ := M_hop Rg ha (show c < sP σ by omega) he hy
      have eg : bgd (sL σ) (tOf (sU σ) (sU σ 0) a c e 0) y = gdR σ e y (6 * a + c) := by
        unfold gdR
        rw [show (6 * a + c) / 6 = a by omega, show (6 * a + c) % 6 = c by omega, if_pos ha]
      rw [eg] at e1
      have s1 := O1.1.1
      rw [if_neg (fun w => q (by have z := congrArg dN w; rw [dN_n (by omega), dN_n (by omega)] at z; exact z)), e1, Option.bind_some]
      dsimp only
      rw [e6, wI_86 s1 (nI_pos (by omega)) (by rw [hcl]; omega), hcl, Option.bind_some, nI_1]
      refine ih (c + 1) (eg_sI g1 86 (6 * a + c) (nI (gdR σ e y (6 * a + c)))) F (by omega) (by omega) (eq_sI (eq_tr Q (SB_x E1)) rfl) (fun a' c' hc' hlt hne => ?_)
      rw [I_sI]
      by_cases w : 6 * a' + c' = 6 * a + c
      · rw [if_pos ⟨rfl, w⟩, w]
      · rw [if_neg (fun z => w z.2), (E1.2 86 _ rfl).1]
        exact H a' c' hc' (by omega) hne
theorem M_row (R : RI h σ) (e y k : Int32) : ∃ h', fX13_row h 54 e y k = some (aRow σ e y k, h') ∧ ROk h h' σ := by
  obtain ⟨R0, Q0⟩ := R_0 R
  have hs := R.1
  have s0 := R0.1
  have hP := RI_P R
  unfold fX13_row aRow
  rw [if_pos (iO_54 hs), pI_54 hs, Option.bind_some, M_isEgg s0 R0.2.2.2.1 e, Option.bind_some]
  dsimp only
  rw [g01]
  by_cases c1 : G1 (sE σ) e
  rotate_left
  · have gg : ¬ gRow σ e y k := fun z => c1 z.1.1
    rw [if_neg c1, if_neg gg]; exact ⟨_, rfl, ROk_scr R Q0⟩
  rw [if_pos c1, M_GI (lo := 1) (hi := 60) _ y (by omega) (by omega) 1 60 rfl rfl, Option.bind_some]
  dsimp only
  rw [g01]
  by_cases c2 : GI (nI 1) (nI 60) y
  rotate_left
  · have gg : ¬ gRow σ e y k := fun z => c2 z.1.2
    rw [if_neg c2, if_neg gg]; exact ⟨_, rfl, ROk_scr R Q0⟩
  rw [if_pos c2, M_GI (lo := 0) (hi := 1) _ k (by omega) (by omega) 0 1 rfl rfl, Option.bind_some]
  dsimp only
  rw [g01]
  by_cases c3 : GI (nI 0) (nI 1) k
  rotate_left
  · have gg : ¬ gRow σ e y k := fun z => c3 z.2
    rw [if_neg c3, if_neg gg]; exact ⟨_, rfl, ROk_scr R Q0⟩
  have gg : gRow σ e y k := ⟨⟨c1, c2⟩, c3⟩
  rw [if_pos c3, if_pos gg]
  obtain ⟨m, hm, rfl⟩ := G1_n (by omega) c1
  obtain ⟨n, n1, n2, rfl⟩ := GI_n (by omega) (by omega) c2
  rw [dN_n (by omega), dN_n (by omega)]
  have hPp : 0 < sP σ := by
    rcases Nat.eq_zero_or_pos (sP σ) with z | z
    · have := (R.2.1.2.1.2.2.1 z).1; omega
    · exact z
  have key : ∀ j a g F, a + j = sP σ → j < F → eg_eq Rx (eg_sI h 54 0 0) g → (∀ a' c', c' < sP σ → 6 * a' + c' < 6 * a → ¬ a' = c' → eg_I g 86 (6 * a' + c') = nI (gdR σ m n (6 * a' + c'))) → ∃ g', fX13_row_L40 F g 54 (nI m) (nI n) k (nI a) = some (54, k, g') ∧ eg_eq Rx (eg_sI h 54 0 0) g' ∧ (∀ a' c', c' < sP σ → 6 * a' + c' < 6 * sP σ → ¬ a' = c' → eg_I g' 86 (6 * a' + c') = nI (gdR σ m n (6 * a' + c'))) := by
    intro j
    induction j with
    | zero =>
      intro a g F hi hF Q H
      obtain ⟨F, rfl⟩ : ∃ F', F = F' + 1 := ⟨F - 1, by omega⟩
      have Rg := RI_scr R0 Q
      obtain rfl : a = sP σ := by omega
      exact ⟨g, by rw [fX13_row_L40, gI_54 Rg.1, Option.bind_some, Rg.2.2.2.1.2.2.2.1, if_pos (nI_le (Nat.le_refl _) (by omega))], Q, H⟩
    | succ j ih =>
      intro a g F hi hF Q H
      obtain ⟨F, rfl⟩ : ∃ F', F = F' + 1 := ⟨F - 1, by omega⟩
      have Rg := RI_scr R0 Q
      obtain ⟨g1, e1, Q1, H1⟩ := M_rw52 R0 (k := k) hm n2 (show a < sP σ by omega) (sP σ) 0 g eg_F (by omega) (by rw [eg_F_eq]; omega) Q H
      have e1' : fX13_row_L52 eg_F g 54 (nI m) (nI n) k (nI a) 0 = some (54, nI m, nI n, k, nI a, g1) := e1
      obtain ⟨g2, e2, Q2, H2⟩ := ih (a + 1) g1 F (by omega) (by omega) Q1 (fun a' c' hc' hlt hne => H1 a' c' hc' (by omega) hne)
      refine ⟨g2, ?_, Q2, H2⟩
      rw [fX13_row_L40, gI_54 Rg.1, Option.bind_some, Rg.2.2.2.1.2.2.2.1, if_neg (nI_ge (by omega) (by omega)), e1', Option.bind_some]
      dsimp only
      rw [nI_1]
      exact e2
  obtain ⟨g1, e1, Q1, H1⟩ := key (sP σ) 0 (eg_sI h 54 0 0) eg_F (by omega) (by rw [eg_F_eq]; omega) eq_rfl (fun a' c' hc' hlt hne => by omega)
  have e1' : fX13_row_L40 eg_F (eg_sI h 54 0 0) 54 (nI m) (nI n) k 0 = some (54, k, g1) := e1
  have s1 := (RI_scr R0 Q1).1
  let g2 := eg_sI g1 54 68 (-1)
  have M2 : PMr σ m n (eg_sI h 54 0 0) g2 (0, 0) := ⟨eq_sI Q1 rfl, fun a c ha hc hne => by
    show eg_I (eg_sI g1 54 68 (-1)) 86 (6 * a + c) = _
    rw [I_sI, if_neg (by omega)]; exact H1 a c hc (by omega) hne, by rw [I_sI, if_pos ⟨rfl, rfl⟩]; rfl, fun z => absurd rfl z, by show 0 ≤ 1000000001; omega⟩
  obtain ⟨g3, e3, M3⟩ := M_goRow R0 hPp (sP σ) (Nat.le_refl _) eg_D g2 0 0 1000000000 (0, 0) (by show sP σ < 64; omega) M2 ⟨by omega, by rw [Nat.sub_self]; decide, fun z => absurd (Nat.sub_self _) z⟩ (Nat.two_pow_pos _) (fr6_0 _ hP.1) (by omega)
  rw [if_pos (Nat.sub_self _)] at e3
  have e3' : fX13_goRow eg_D g2 54 (-1) 0 0 1000000000 = some g3 := e3
  obtain ⟨Q3, _, v68, v67, _⟩ := M3
  have s3 := (RI_scr R0 Q3).1
  have pos : ¬ (bsR σ m n).1 = 0 := by
    have := pl_pos (N := sP σ) (K := sP σ) (sh := shF 1 (gdR σ m n) (slR σ)) (sP σ) 0 0 1000000000 (0, 0) (by rw [fr6_0 _ hP.1]; exact Nat.le_refl _)
    unfold bsR
    omega
  rw [e1', Option.bind_some]
  dsimp only
  rw [pI_54 s1, Option.bind_some]
  show ∃ h', ((fX13_goRow eg_D g2 54 (-1) 0 0 1000000000).bind _) = _ ∧ _
  rw [e3', Option.bind_some]
  by_cases c4 : k = 0
  · rw [if_pos c4, if_pos c4, gI_54 s3, Option.bind_some, v67 pos]
    exact ⟨g3, rfl, ROk_scr R (eq_tr Q0 Q3)⟩
  · rw [if_neg c4, if_neg c4, gI_54 s3, Option.bind_some, v68]
    exact ⟨g3, rfl, ROk_scr R (eq_tr Q0 Q3)⟩
end RM2
