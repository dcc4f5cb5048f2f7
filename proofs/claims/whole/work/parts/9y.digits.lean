def qd (n k : Nat) : Nat := n / 10 ^ k % 10
def wd (n P i : Nat) : Nat := qd n (P - 1 - i)
theorem qd_s (n k : Nat) : n / 10 ^ k / 10 = n / 10 ^ (k + 1) := by rw [Nat.div_div_eq_div_mul, Nat.pow_succ]
theorem al_iff {q : Nat → Bool} : ∀ j i, alB q i j = true ↔ ∀ k, i ≤ k → k < i + j → q k = true := by
  intro j
  induction j with
  | zero => intro i; exact ⟨fun _ k h1 h2 => by omega, fun _ => rfl⟩
  | succ j ih =>
    intro i
    unfold alB
    by_cases c : q i = true
    · rw [if_pos c, ih (i + 1)]
      constructor
      · intro h k h1 h2
        rcases Nat.eq_or_lt_of_le h1 with z | z
        · rw [← z]; exact c
        · exact h k z (by omega)
      · intro h k h1 h2
        exact h k (by omega) (by omega)
    · rw [if_neg c]
      constructor
      · intro h; cases h
      · intro h; exact absurd (h i (Nat.le_refl _) (by omega)) c
abbrev gDg (P : Nat) (x : Int32) : Prop := (¬ x < 0 ∧ ∀ k, k < P → qd (dN x) k < P) ∧ dN x / 10 ^ P = 0
def cnW (w : Nat → Nat) (i : Nat) : Nat := sm (fun k => if k < w k then 1 else 0) i
def lwT (w : Nat → Nat) : Nat → Nat → Nat
  | 0, _ => 0
  | i + 1, j => if i < w i ∧ j = cnW w i then i else lwT w i j
abbrev gPw (P : Nat) (w : Nat → Nat) : Prop := ∀ i, i < P → ¬ w i = i ∧ w (w i) = i
abbrev gPr (P : Nat) (x : Int32) : Prop := (0 < P ∧ gDg P x) ∧ gPw P (wd (dN x) P)
theorem wd_lt {P : Nat} {x : Int32} (g : gDg P x) {i : Nat} (hi : i < P) : wd (dN x) P i < P := g.1.2 _ (by omega)
theorem lw_in {w : Nat → Nat} : ∀ i j, j < cnW w i → lwT w i j < i ∧ lwT w i j < w (lwT w i j) := by
  intro i
  induction i with
  | zero => intro j hj; exact absurd hj (Nat.not_lt_zero _)
  | succ i ih =>
    intro j hj
    have e : cnW w (i + 1) = cnW w i + (if i < w i then 1 else 0) := rfl
    rw [e] at hj
    unfold lwT
    by_cases c : i < w i ∧ j = cnW w i
    · rw [if_pos c]; exact ⟨by omega, c.1⟩
    · rw [if_neg c]
      have hj2 : j < cnW w i := by
        by_cases c2 : i < w i
        · rw [if_pos c2] at hj
          have : ¬ j = cnW w i := fun z => c ⟨c2, z⟩
          omega
        · rw [if_neg c2] at hj; exact hj
      have := ih j hj2
      exact ⟨by omega, this.2⟩
theorem cn_le (w : Nat → Nat) (i : Nat) : cnW w i ≤ i := sm_le (fun k _ => by split <;> omega)
def tb5 (a b c d e : Nat) (i : Nat) : Nat := if i = 0 then a else if i = 1 then b else if i = 2 then c else if i = 3 then d else e
theorem no_3 : ∀ a, a < 3 → ∀ b, b < 3 → ∀ c, c < 3 → ¬ gPw 3 (tb5 a b c 0 0) := by decide +kernel
theorem no_5b : ((List.range 5).all fun a => (List.range 5).all fun b => (List.range 5).all fun c => (List.range 5).all fun d => (List.range 5).all fun e => !(decide (gPw 5 (tb5 a b c d e)))) = true := by decide +kernel
theorem no_5 {a b c d e : Nat} (ha : a < 5) (hb : b < 5) (hc : c < 5) (hd : d < 5) (he : e < 5) : ¬ gPw 5 (tb5 a b c d e) := by
  have h1 := List.all_eq_true.mp no_5b a (List.mem_range.mpr ha)
  have h2 := List.all_eq_true.mp h1 b (List.mem_range.mpr hb)
  have h3 := List.all_eq_true.mp h2 c (List.mem_range.mpr hc)
  have h4 := List.all_eq_true.mp h3 d (List.mem_range.mpr hd)
  have h5 := List.all_eq_true.mp h4 e (List.mem_range.mpr he)
  intro g
  rw [decide_eq_true g] at h5
  cases h5
theorem odd_no {P : Nat} (hP : P ≤ 6) (hod : P % 2 = 1) {w : Nat → Nat} (hw : ∀ i, i < P → w i < P) : ¬ gPw P w := by
  intro g
  rcases (by omega : P = 1 ∨ P = 3 ∨ P = 5) with rfl | rfl | rfl
  · have h1 := hw 0 (by omega)
    have h2 := (g 0 (by omega)).1
    omega
  · refine no_3 (w 0) (hw 0 (by omega)) (w 1) (hw 1 (by omega)) (w 2) (hw 2 (by omega)) (fun i hi => ?_)
    have e : ∀ i, i < 3 → tb5 (w 0) (w 1) (w 2) 0 0 i = w i := by
      intro i hi
      rcases (by omega : i = 0 ∨ i = 1 ∨ i = 2) with rfl | rfl | rfl <;> rfl
    rw [e i hi, e _ (hw i hi)]
    exact g i hi
  · refine no_5 (hw 0 (by omega)) (hw 1 (by omega)) (hw 2 (by omega)) (hw 3 (by omega)) (hw 4 (by omega)) (fun i hi => ?_)
    have e : ∀ i, i < 5 → tb5 (w 0) (w 1) (w 2) (w 3) (w 4) i = w i := by
      intro i hi
      rcases (by omega : i = 0 ∨ i = 1 ∨ i = 2 ∨ i = 3 ∨ i = 4) with rfl | rfl | rfl | rfl | rfl <;> rfl
    rw [e i hi, e _ (hw i hi)]
    exact g i hi
theorem cn_pos {P : Nat} {w : Nat → Nat} (hP : 0 < P) (g : gPw P w) : 0 < cnW w P := by
  have h0 := (g 0 hP).1
  have h1 : cnW w 1 = 1 := by
    show 0 + (if 0 < w 0 then 1 else 0) = 1
    rw [if_pos (by omega)]
  have h2 : cnW w 1 ≤ cnW w P := sm_mono _ (by omega)
  omega
theorem sm_pl (f g : Nat → Nat) : ∀ n, sm (fun i => f i + g i) n = sm f n + sm g n := by
  intro n
  induction n with
  | zero => rfl
  | succ n ih =>
    show sm _ n + (f n + g n) = sm f n + f n + (sm g n + g n)
    rw [ih]
    omega
theorem sm_ge (g : Nat → Nat) : ∀ n j, j < n → g j ≤ sm g n := by
  intro n
  induction n with
  | zero => intro j hj; omega
  | succ n ih =>
    intro j hj
    show g j ≤ sm g n + g n
    rcases (by omega : j < n ∨ j = n) with z | z
    · have := ih j z; omega
    · subst z; omega
theorem cn_3 {P : Nat} {w : Nat → Nat} (hP : P ≤ 6) (hw : ∀ i, i < P → w i < P) (g : gPw P w) : cnW w P ≤ 3 := by
  have key : ∀ i, i ≤ P → cnW w i + sm (fun k => if w k < k then 1 else 0) i = i := by
    intro i
    induction i with
    | zero => intro _; rfl
    | succ i ih =>
      intro hi
      have := ih (by omega)
      have hn := (g i (by omega)).1
      show cnW w i + (if i < w i then 1 else 0) + (sm _ i + (if w i < i then 1 else 0)) = i + 1
      rcases Nat.lt_or_ge i (w i) with z | z
      · rw [if_pos z, if_neg (by omega)]; omega
      · rw [if_neg (by omega), if_pos (by omega)]; omega
  have hA : ∀ n, n ≤ P → cnW w n ≤ sm (fun j => if w j < j ∧ w j < n then 1 else 0) P := by
    intro n
    induction n with
    | zero => intro _; exact Nat.zero_le _
    | succ n ih =>
      intro hn
      have h1 := ih (by omega)
      have e : sm (fun j => if w j < j ∧ w j < n + 1 then 1 else 0) P = sm (fun j => if w j < j ∧ w j < n then 1 else 0) P + sm (fun j => if w j < j ∧ w j = n then 1 else 0) P := by
        rw [← sm_pl]
        refine sm_cg (fun j _ => ?_)
        by_cases c1 : w j < j
        · rcases (by omega : w j < n ∨ w j = n ∨ n < w j) with z | z | z
          · rw [if_pos ⟨c1, by omega⟩, if_pos ⟨c1, z⟩, if_neg (by omega)]
          · rw [if_pos ⟨c1, by omega⟩, if_neg (by omega), if_pos ⟨c1, z⟩]
          · rw [if_neg (by omega), if_neg (by omega), if_neg (by omega)]
        · rw [if_neg (fun z => c1 z.1), if_neg (fun z => c1 z.1), if_neg (fun z => c1 z.1)]
      rw [e]
      show cnW w n + (if n < w n then 1 else 0) ≤ _
      by_cases c : n < w n
      · have hgn := g n (by omega)
        have h2 := sm_ge (fun j => if w j < j ∧ w j = n then 1 else 0) P (w n) (hw n (by omega))
        have h3 : (if w (w n) < w n ∧ w (w n) = n then 1 else 0) = 1 := if_pos ⟨by rw [hgn.2]; exact c, hgn.2⟩
        rw [h3] at h2
        rw [if_pos c]
        omega
      · rw [if_neg c]
        omega
  have hB := hA P (Nat.le_refl _)
  have hC : sm (fun j => if w j < j ∧ w j < P then 1 else 0) P = sm (fun k => if w k < k then 1 else 0) P := sm_cg (fun j hj => by
    by_cases c : w j < j
    · rw [if_pos ⟨c, hw j hj⟩, if_pos c]
    · rw [if_neg (fun z => c z.1), if_neg c])
  have hk := key P (Nat.le_refl _)
  omega
section DG
variable {h : eg_H} {σ : eg_S} {B : Nat × Nat}
theorem X_rd_L {P n : Nat} (hP : P ≤ 6) (hn : n < 2 ^ 31) : ∀ j k h F, k + j = P → j < F → eg_stt h → (∀ m, m < k → eg_I h 49 (P - 1 - m) = nI (qd n m)) → ∃ h', fX9_readDigits_L8 F h 49 (nI P) (nI (n / 10 ^ k)) (iI ((P : Int) - 1 - k)) = some (if alB (fun m => decide (qd n m < P)) k j = true then .inl (nI (n / 10 ^ P), h') else .inr h') ∧ eg_eq [(49, none)] h h' ∧ (alB (fun m => decide (qd n m < P)) k j = true → ∀ m, m < P → eg_I h' 49 (P - 1 - m) = nI (qd n m)) := by
  intro j
  induction j with
  | zero =>
    intro k h F hk hF hs H
    obtain ⟨F, rfl⟩ : ∃ F', F = F' + 1 := ⟨F - 1, by omega⟩
    obtain rfl : k = P := by omega
    refine ⟨h, ?_, eq_rfl, fun _ => H⟩
    rw [fX9_readDigits_L8, if_pos (show iI ((k : Int) - 1 - k) < (0 : Int32) from (iI_lt (b := 0) (by unfold i3; omega) (by unfold i3; omega)).mpr (by omega))]
    rfl
  | succ j ih =>
    intro k h F hk hF hs H
    obtain ⟨F, rfl⟩ : ∃ F', F = F' + 1 := ⟨F - 1, by omega⟩
    have ei : iI ((P : Int) - 1 - k) = nI (P - 1 - k) := by rw [← iI_n]; congr 1; omega
    have ei2 : nI (P - 1 - k) + (-1 : Int32) = iI ((P : Int) - 1 - (k + 1 : Nat)) := by
      rw [← iI_n, show (-1 : Int32) = iI (-1) by decide, iI_add]; congr 1; omega
    have hcl : (nI (P - 1 - k)).toNatClampNeg = P - 1 - k := nI_clamp (by omega)
    have hd : n / 10 ^ k ≤ n := Nat.div_le_self _ _
    have e10 : nI (n / 10 ^ k) % 10 = nI (qd n k) := (n10 (by omega)).2
    have hq : qd n k < 10 := Nat.mod_lt _ (by omega)
    rw [fX9_readDigits_L8, ei, if_neg (nI_pos (by omega)), al_49 hs, Option.bind_some, if_neg (nI_ge (by omega) (by omega)), if_neg (nI_pos (by omega)), e10]
    unfold alB
    by_cases c : qd n k < P
    · obtain ⟨h2, e2, E2, H2⟩ := ih (k + 1) (eg_sI h 49 (P - 1 - k) (nI (qd n k))) F (by omega) (by omega) hs (fun m hm => by
        rw [I_sI]
        by_cases cm : m = k
        · subst cm; rw [if_pos ⟨rfl, rfl⟩]
        · rw [if_neg (by omega)]; exact H m (by omega))
      refine ⟨h2, ?_, eq_tr (eq_sI eq_rfl (by simp [eg_cov])) E2, ?_⟩
      · rw [if_pos (nI_lt c (by omega)), wI_49 hs (nI_pos (by omega)) (by rw [hcl]; omega), hcl, Option.bind_some, (n10 (by omega)).1, qd_s, Option.bind_some, ei2, if_pos (decide_eq_true c)]
        exact e2
      · rw [if_pos (decide_eq_true c)]; exact H2
    · refine ⟨h, ?_, eq_rfl, ?_⟩
      · rw [if_neg (nI_nlt (by omega) (by omega)), if_neg (show ¬ decide (qd n k < P) = true from fun z => c (of_decide_eq_true z))]
        rfl
      · rw [if_neg (show ¬ decide (qd n k < P) = true from fun z => c (of_decide_eq_true z))]
        intro z; cases z
theorem X_rd {P : Nat} (hs : eg_stt h) (hP1 : 0 < P) (hP : P ≤ 6) (x : Int32) : ∃ h', fX9_readDigits h 47 x 49 (nI P) = some (if gDg P x then 1 else 0, h') ∧ eg_eq [(49, none)] h h' ∧ (gDg P x → ∀ i, i < P → eg_I h' 49 i = nI (wd (dN x) P i)) := by
  have e1 : nI P - 1 = iI ((P : Int) - 1 - (0 : Nat)) := by rw [← iI_n, show (1 : Int32) = iI 1 from rfl, iI_sub]; congr 1; omega
  have e1' : iI ((P : Int) - 1 - (0 : Nat)) = nI (P - 1) := by rw [← iI_n]; congr 1; omega
  unfold fX9_readDigits
  rw [if_pos (iO_47 hs), e1, Option.bind_some]
  by_cases c0 : x < 0
  · refine ⟨h, ?_, eq_rfl, fun g => absurd c0 g.1.1⟩
    rw [eg_F_eq, fX9_readDigits_L8, e1', if_neg (nI_pos (by omega)), al_49 hs, Option.bind_some, if_neg (nI_ge (by omega) (by omega)), if_pos c0, Option.bind_some, if_neg (fun g => g.1.1 c0)]
  · obtain ⟨n, hn, rfl⟩ := pos_n c0
    obtain ⟨h', e2, E2, H2⟩ := X_rd_L hP hn P 0 h eg_F (by omega) (by rw [eg_F_eq]; omega) hs (fun m hm => by omega)
    have e0 : n / 10 ^ 0 = n := by rw [Nat.pow_zero, Nat.div_one]
    rw [e0] at e2
    have iff := al_iff (q := fun m => decide (qd n m < P)) P 0
    refine ⟨h', ?_, E2, fun g i hi => ?_⟩
    · rw [e2, Option.bind_some]
      by_cases c : alB (fun m => decide (qd n m < P)) 0 P = true
      · rw [if_pos c]
        dsimp only
        have hd : n / 10 ^ P ≤ n := Nat.div_le_self _ _
        have hall : ∀ k, k < P → qd n k < P := fun k hk => of_decide_eq_true (iff.mp c k (by omega) (by omega))
        by_cases c2 : n / 10 ^ P = 0
        · rw [if_pos (by rw [c2]; rfl), if_pos (show gDg P (nI n) from ⟨⟨c0, by rw [dN_n hn]; exact hall⟩, by rw [dN_n hn]; exact c2⟩)]
        · rw [if_neg (nI_ne0 (Nat.pos_of_ne_zero c2) (Nat.lt_of_le_of_lt hd hn)), if_neg (fun g => c2 (by have := g.2; rw [dN_n hn] at this; exact this))]
      · rw [if_neg c, if_neg (fun g => c (iff.mpr (fun k h1 h2 => decide_eq_true (by have := g.1.2 k (by omega); rw [dN_n hn] at this; exact this))))]
    · have hall := g.1.2
      rw [dN_n hn] at hall ⊢
      have := H2 (iff.mpr (fun k h1 h2 => decide_eq_true (hall k (by omega)))) (P - 1 - i) (by omega)
      rw [show P - 1 - (P - 1 - i) = i by omega] at this
      exact this
theorem X_rp_L {P : Nat} {w : Nat → Nat} (hP : P ≤ 6) (hw : ∀ i, i < P → w i < P) : ∀ j i h F, i + j = P → j < F → eg_stt h → (∀ k, k < P → eg_I h 49 k = nI (w k)) → (∀ k, k < cnW w i → eg_I h 50 k = nI (lwT w i k)) → (∀ k, k < i → ¬ w k = k ∧ w (w k) = k) → ∃ h', fX9_readPairs_L33 F h 47 (nI P) (nI (cnW w i)) (nI i) = some (if gPw P w then .inl (nI (cnW w P), h') else .inr h') ∧ eg_eq [(50, none)] h h' ∧ (gPw P w → ∀ k, k < cnW w P → eg_I h' 50 k = nI (lwT w P k)) := by
  intro j
  induction j with
  | zero =>
    intro i h F hi hF hs H1 H2 H3
    obtain ⟨F, rfl⟩ : ∃ F', F = F' + 1 := ⟨F - 1, by omega⟩
    obtain rfl : i = P := by omega
    refine ⟨h, ?_, eq_rfl, fun _ => H2⟩
    rw [fX9_readPairs_L33, if_pos (nI_le (Nat.le_refl _) (by omega)), if_pos H3]
  | succ j ih =>
    intro i h F hi hF hs H1 H2 H3
    obtain ⟨F, rfl⟩ : ∃ F', F = F' + 1 := ⟨F - 1, by omega⟩
    have hwi := hw i (by omega)
    have hww := hw (w i) (by omega)
    have hcl : (nI i).toNatClampNeg = i := nI_clamp (by omega)
    have hclw : (nI (w i)).toNatClampNeg = w i := nI_clamp (by omega)
    have a1 : eg_aI h 100 49 (nI i) = some (nI (w i)) := by rw [aI_49 hs (nI_pos (by omega)) (by rw [hcl]; omega), hcl, H1 i (by omega)]
    have a2 : eg_aI h 100 49 (nI (w i)) = some (nI (w (w i))) := by rw [aI_49 hs (nI_pos (by omega)) (by rw [hclw]; omega), hclw, H1 _ hwi]
    have ec : cnW w (i + 1) = cnW w i + (if i < w i then 1 else 0) := rfl
    have hc := cn_le w i
    have hclc : (nI (cnW w i)).toNatClampNeg = cnW w i := nI_clamp (by omega)
    rw [fX9_readPairs_L33, if_neg (nI_ge (by omega) (by omega)), gR_47 hs, rf_47_1 hs, Option.bind_some, a1, Option.bind_some]
    by_cases c1 : w i = i
    · refine ⟨h, ?_, eq_rfl, fun g => absurd c1 (g i (by omega)).1⟩
      rw [if_pos (by rw [c1]), if_neg (fun g => (g i (by omega)).1 c1)]
    rw [if_neg (fun z => c1 ((nI_eq (by omega) (by omega)).mp z)), Option.bind_some, a2, Option.bind_some]
    by_cases c2 : w (w i) = i
    rotate_left
    · refine ⟨h, ?_, eq_rfl, fun g => absurd (g i (by omega)).2 c2⟩
      rw [if_neg (fun z => c2 ((nI_eq (by omega) (by omega)).mp z)), if_neg (fun g => c2 (g i (by omega)).2)]
    rw [if_pos (by rw [c2])]
    have H3' : ∀ k, k < i + 1 → ¬ w k = k ∧ w (w k) = k := fun k hk => by
      by_cases ck : k = i
      · subst ck; exact ⟨c1, c2⟩
      · exact H3 k (by omega)
    by_cases c3 : i < w i
    · rw [if_neg (nI_ge c3 (by omega)), gR_47 hs, rf_47_2 hs, Option.bind_some, al_50 hs, Option.bind_some, if_neg (nI_ge (by omega) (by omega)), Option.bind_some, wI_50 hs (nI_pos (by omega)) (by rw [hclc]; omega), hclc, Option.bind_some, nI_1, nI_1]
      rw [if_pos c3] at ec
      obtain ⟨h2, e2, E2, K2⟩ := ih (i + 1) (eg_sI h 50 (cnW w i) (nI i)) F (by omega) (by omega) hs (fun k hk => by rw [I_sI, if_neg (by omega)]; exact H1 k hk) (fun k hk => by
        rw [I_sI]
        unfold lwT
        by_cases ck : k = cnW w i
        · rw [if_pos ⟨rfl, ck⟩, if_pos ⟨c3, ck⟩]
        · rw [if_neg (fun z => ck z.2), if_neg (fun z => ck z.2)]
          exact H2 k (by omega)) H3'
      rw [ec] at e2
      exact ⟨h2, e2, eq_tr (eq_sI eq_rfl (by simp [eg_cov])) E2, K2⟩
    · rw [if_pos (nI_le (by omega) (by omega)), nI_1]
      rw [if_neg c3, Nat.add_zero] at ec
      obtain ⟨h2, e2, E2, K2⟩ := ih (i + 1) h F (by omega) (by omega) hs H1 (fun k hk => by
        unfold lwT
        rw [if_neg (fun z => c3 z.1)]
        exact H2 k (by omega)) H3'
      rw [ec] at e2
      exact ⟨h2, e2, E2, K2⟩
def Spr : List (Nat × Option Nat) := [(49, none), (50, none)]
theorem X_readPairs {P : Nat} (hs : eg_stt h) (hP : P ≤ 6) (x : Int32) : ∃ h', fX9_readPairs h 47 x (nI P) = some (if gPr P x then nI (cnW (wd (dN x) P) P) else 0, h') ∧ eg_eq Spr h h' ∧ (gPr P x → (∀ i, i < P → eg_I h' 49 i = nI (wd (dN x) P i)) ∧ ∀ k, k < cnW (wd (dN x) P) P → eg_I h' 50 k = nI (lwT (wd (dN x) P) P k)) := by
  unfold fX9_readPairs
  rw [if_pos (iO_47 hs)]
  by_cases c0 : P = 0
  · refine ⟨h, ?_, eq_rfl, fun g => absurd g.1.1 (by omega)⟩
    rw [if_pos (show nI P ≤ 0 from nI_le (b := 0) (by omega) (by omega)), if_neg (fun g => absurd g.1.1 (by omega))]
  rw [if_neg (show ¬ nI P ≤ 0 from nI_ge (a := 0) (by omega) (by omega)), gR_47 hs, rf_47_1 hs, Option.bind_some, al_49 hs, Option.bind_some, if_neg (nI_nlt hP (by omega)), Option.bind_some]
  obtain ⟨h1, e1, E1, H1⟩ := X_rd hs (P := P) (by omega) hP x
  have s1 := eq_stt E1 hs (by decide)
  rw [e1, Option.bind_some]
  dsimp only
  rw [g01]
  by_cases c1 : gDg P x
  rotate_left
  · refine ⟨h1, ?_, cov_sub (by decide) E1, fun g => absurd g.1.2 c1⟩
    rw [if_neg c1, if_neg (fun g => c1 g.1.2)]
  have hw : ∀ i, i < P → wd (dN x) P i < P := fun i hi => wd_lt c1 hi
  obtain ⟨h2, e2, E2, H2⟩ := X_rp_L hP hw P 0 h1 eg_F (by omega) (by rw [eg_F_eq]; omega) s1 (H1 c1) (fun k hk => absurd hk (Nat.not_lt_zero _)) (fun k hk => by omega)
  have e2' : fX9_readPairs_L33 eg_F h1 47 (nI P) 0 0 = _ := e2
  refine ⟨h2, ?_, eq_tr (cov_sub (by decide) E1) (cov_sub (by decide) E2), fun g => ⟨fun i hi => ?_, H2 g.2⟩⟩
  · rw [if_pos c1, e2', Option.bind_some]
    by_cases c2 : gPw P (wd (dN x) P)
    · rw [if_pos c2, if_pos (show gPr P x from ⟨⟨by omega, c1⟩, c2⟩)]
    · rw [if_neg c2, if_neg (fun g => c2 g.2)]
  · rw [(E2.2 49 i rfl).1]; exact H1 c1 i hi
end DG
