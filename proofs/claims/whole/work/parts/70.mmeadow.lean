theorem skp_id (t : Nat → Int32) (n i : Nat) : skp t n (skp t n i) = skp t n i := by
  rw [skp_eq]
  by_cases h : skp t n i < n
  · rw [if_neg (fun z => skp_ne t n i h z.2)]
  · rw [if_neg (fun z => h z.1)]
theorem items_sk {t : Nat → Int32} {n k b : Nat} : ∀ f i m V j, skp t n i = i → (itemsF t n k b f i m V).1 = .inr j → skp t n j = j := by
  intro f
  induction f with
  | zero => intro i m V j hi he; cases he; exact hi
  | succ f ih =>
    intro i m V j hi he
    unfold itemsF at he
    split at he
    · cases he; exact hi
    · split at he
      · cases he; exact hi
      · split at he
        · cases he
        · exact ih _ _ _ j (skp_id t n _) he
theorem items_n {t : Nat → Int32} {n k b : Nat} (hk : k < 3) : ∀ f i m V j, i ≤ n → (itemsF t n k b f i m V).1 = .inr j → j ≤ n := by
  intro f
  induction f with
  | zero => intro i m V j hi he; cases he; exact hi
  | succ f ih =>
    intro i m V j hi he
    unfold itemsF at he
    split at he
    · cases he; exact hi
    · next w hw =>
      have hilt : i < n := by
        rcases Nat.lt_or_ge i n with z | z
        · exact z
        · have : sg t n i = 0 := if_neg (by omega)
          rw [this, (itm_0 k hk).1] at hw
          cases hw
      split at he
      · cases he; exact hi
      · split at he
        · cases he
        · exact ih _ _ _ j (skp_le t n _ (ndF_n t n 2 _ (skp_le t n _ hilt))) he
def mdM (r : Nat ⊕ (Nat × Nat × (Nat → Int32))) (g : eg_H) : Prop := match r with
  | .inl _ => True
  | .inr q => ∃ M, RM g M q.1 q.2.1 q.2.2
def M_rest (F : Nat) (h : eg_H) (c : Int32) : Option eg_H := (fX13_readMeadow_L55 F h 54 c).bind fun e => match e with
  | (p19, h20) => fX13_readMeadow_j111 h20 p19
section MMd
variable {n : Nat} {t : Nat → Int32}
theorem M_rest_bad {g : eg_H} {a f : Int32} {F : Nat} (hs : eg_stt g) (hf : ¬ f = -1) : M_rest (F + 1) (mfi g a f) 0 = some (mfi g a f) := by
  have hs' : ∀ a c, eg_stt (mfi g a c) := fun _ _ => hs
  unfold M_rest
  rw [fX13_readMeadow_L55, if_pos rfl, Option.bind_some]
  show fX13_readMeadow_j111 (mfi g a f) 54 = _
  unfold fX13_readMeadow_j111
  rw [gI_54 (hs' _ _), Option.bind_some, mfi_i11, if_neg hf]
theorem M_rest_good {g : eg_H} {j M P E F : Nat} {V : Nat → Int32} (H : Tm 55 0 n t g) (hn : n ≤ 160) (R : RM g M P E V) (hP : P ≤ 6) (hE : E ≤ 6) (hj : j ≤ n) (hsk : skp t n j = j) :
    M_rest (F + 1) (mfi g (nI j) (-1)) 0 = some (mfi g (nI j) (if sg t n j = 0 ∧ 2 ≤ P ∧ 1 ≤ E then -1 else nI j)) := by
  have hs' : ∀ a c, eg_stt (mfi g a c) := fun _ _ => H.1
  obtain ⟨r1, r2, r3, r4⟩ := R
  have hb := H.2.2.2.2.2.1
  unfold M_rest
  rw [fX13_readMeadow_L55, if_pos rfl, Option.bind_some]
  show fX13_readMeadow_j111 (mfi g (nI j) (-1)) 54 = _
  unfold fX13_readMeadow_j111
  rw [gI_54 (hs' _ _), Option.bind_some, mfi_i11, if_pos rfl, M_look H (by omega), Option.bind_some, hsk]
  show (if lk t n j = -1 then _ else _) = _
  by_cases c0 : lk t n j = -1
  · have c1 : sg t n j = 0 := (byt_sg hb j).mpr ((byt_lk hb j).mp c0)
    rw [if_pos c0, gI_54 (hs' _ _), Option.bind_some, mfi_i _ _ _ (by decide), r1]
    by_cases c2 : P < 2
    · rw [if_pos (show nI P < (2 : Int32) from nI_lt (b := 2) c2 (by decide)), M_fails H.1, Option.bind_some, if_pos rfl, if_neg (by omega)]
    · rw [if_neg (show ¬ nI P < (2 : Int32) from nI_nlt (b := 2) (by omega) (by omega)), gI_54 (hs' _ _), Option.bind_some, mfi_i _ _ _ (by decide), r2]
      by_cases c3 : E = 0
      · rw [if_pos (show nI E = 0 from by rw [c3]; rfl), M_fails H.1, Option.bind_some, if_pos rfl, if_neg (by omega)]
      · rw [if_neg (show ¬ nI E = 0 from nI_ne_0 (by omega) c3), if_pos ⟨c1, by omega, by omega⟩]
  · have c1 : ¬ sg t n j = 0 := fun z => c0 ((byt_lk hb j).mpr ((byt_sg hb j).mp z))
    rw [if_neg c0, M_fails H.1, Option.bind_some, if_pos rfl, if_neg (fun z => c1 z.1)]
theorem M_md (hn : n ≤ 160) : ∀ f i M P E V g F, f + M + P + E = 14 → M ≤ 1 → P ≤ 6 → E ≤ 6 → i ≤ n → Tm 55 0 n t g → RM g M P E V → f + 1 < F →
    ∃ g' a, M_rest F (mfi g (nI i) (-1)) 1 = some (mfi g' a (mdA (mdF t n f (skp t n i) M P E V))) ∧ eg_eq SMm g g' ∧ mdM (mdF t n f (skp t n i) M P E V) g' := by
  intro f
  induction f with
  | zero => intro i M P E V g F h1 h2 h3 h4; omega
  | succ f ih =>
    intro i M P E V g F hf hM hP hE hi H R hF
    obtain ⟨F, rfl⟩ : ∃ F', F = F' + 2 := ⟨F - 2, by omega⟩
    have hb := H.2.2.2.2.2.1
    have hs' : ∀ a c, eg_stt (mfi g a c) := fun _ _ => H.1
    obtain ⟨g1, a1, f1, e1, E1, x1⟩ := M_clause H hn R hM hP hE hi
    have H1 := Tm_SMm H E1
    have s1 : ∀ a c, eg_stt (mfi g1 a c) := fun _ _ => H1.1
    have hj := skp_le t n i hi
    have step : M_rest (F + 2) (mfi g (nI i) (-1)) 1 = if f1 = -1 then (((fX13_look (mfi g1 a1 f1) 54).bind fun ⟨v11, h10⟩ => if v11 = (59 : Int32) then (fX13_readMeadow_j93 (fX13_readMeadow_L55 (F + 1)) h10 54 (1 : Int32)) else fX13_readMeadow_j92 (fX13_readMeadow_L55 (F + 1)) h10 54).bind fun e => match e with
        | (p19, h20) => fX13_readMeadow_j111 h20 p19) else M_rest (F + 1) (mfi g1 a1 f1) 0 := by
      unfold M_rest
      rw [fX13_readMeadow_L55, if_neg (by decide), gI_54 (hs' _ _), Option.bind_some, mfi_i11, if_pos rfl, e1, Option.bind_some, gI_54 (s1 _ _), Option.bind_some, mfi_i11]
      by_cases c : f1 = -1
      · rw [if_pos c, if_pos c]
      · rw [if_neg c, if_neg c]
        unfold fX13_readMeadow_j92 fX13_readMeadow_j93
        rw [if_pos rfl]
    unfold clM at x1
    unfold mdF
    generalize skp t n i = j at hj x1
    cases hk : clK (sg t n j) M P E with
    | none =>
      rw [hk] at x1
      have x1 : f1 = nI j := x1
      refine ⟨g1, a1, ?_, E1, trivial⟩
      rw [step, if_neg (by rw [x1]; exact nI_nm1 (by omega)), M_rest_bad H1.1 (by rw [x1]; exact nI_nm1 (by omega)), x1]
      rfl
    | some k =>
      rw [hk] at x1
      obtain ⟨k1, k2, k3'⟩ := clK_lt hk
      obtain ⟨hs, hM0⟩ := clK_L hk
      obtain ⟨x2, c1, c2, c3⟩ := x1
      have hjn : j < n := by
        rcases Nat.lt_or_ge j n with z | z
        · exact z
        · have : sg t n j = 0 := if_neg (by omega)
          rw [this] at hs
          rcases k3 k1 with rfl | rfl | rfl <;> exact absurd hs (by decide)
      dsimp only
      unfold itemsM at x2
      cases hr : (itemsA t n k (clB k P E) j V).1 with
      | inl e =>
        rw [hr] at x2
        have x3 : f1 = nI e ∧ e ≤ n := x2
        refine ⟨g1, a1, ?_, E1, trivial⟩
        rw [step, if_neg (by rw [x3.1]; exact nI_nm1 (by omega)), M_rest_bad H1.1 (by rw [x3.1]; exact nI_nm1 (by omega)), x3.1]
        rfl
      | inr l =>
        rw [hr] at x2
        have x3 : l ≤ n ∧ ((itm k (sg t n l) = none ∧ a1 = nI l ∧ f1 = -1 ∧ ∀ x, x < 40 → vM g1 x = (itemsA t n k (clB k P E) j V).2 x) ∨ (itm k (sg t n l) ≠ none ∧ f1 = nI l)) := x2
        have hlsk : skp t n l = l := items_sk _ _ _ _ l (skp_id t n _) hr
        obtain ⟨hl, x4⟩ := x3
        dsimp only
        have hM' : (if k = 0 then 1 else M) ≤ 1 := by split <;> omega
        have hP' : (if k = 1 then P + 1 else P) ≤ 6 := by
          split
          · next z => have := k2 z; omega
          · omega
        have hE' : (if k = 2 then E + 1 else E) ≤ 6 := by
          split
          · next z => have := k3' z; omega
          · omega
        rcases x4 with ⟨x5, x6, x7, x8⟩ | ⟨x5, x6⟩
        · have R1 : RM g1 (if k = 0 then 1 else M) (if k = 1 then P + 1 else P) (if k = 2 then E + 1 else E) (itemsA t n k (clB k P E) j V).2 := ⟨c1, c2, c3, x8⟩
          by_cases h59 : sg t n l = 59
          · have hln : l < n := by
              rcases Nat.lt_or_ge l n with z | z
              · exact z
              · have : sg t n l = 0 := if_neg (by omega)
                rw [this] at h59; exact absurd h59 (by decide)
            have hlk : lk t n l = 59 := by rw [← h59]; unfold lk sg; rw [if_pos hln, if_pos hln]
            obtain ⟨g2, a2, i1, i2, i3⟩ := ih (l + 1) (if k = 0 then 1 else M) (if k = 1 then P + 1 else P) (if k = 2 then E + 1 else E) (itemsA t n k (clB k P E) j V).2 g1 (F + 1) (by
              rcases k3 k1 with rfl | rfl | rfl
              · have := hM0 rfl; simp; omega
              · simp; omega
              · simp; omega) hM' hP' hE' hln H1 R1 (by omega)
            rw [if_pos h59]
            refine ⟨g2, a2, ?_, eq_tr E1 i2, i3⟩
            rw [step, if_pos x7, x6, x7, M_look H1 (by omega), Option.bind_some, hlsk, hlk]
            show (((if (59 : Int32) = 59 then fX13_readMeadow_j93 (fX13_readMeadow_L55 (F + 1)) (mfi g1 (nI l) (-1)) 54 1 else _) : Option (Nat × eg_H)).bind _) = _
            unfold fX13_readMeadow_j93
            rw [if_pos rfl, if_neg (by decide), gI_54 (s1 _ _), Option.bind_some, mfi_i10, pI_54 (s1 _ _), Option.bind_some, mfi_10, nI_1]
            exact i1
          · rw [if_neg h59]
            have hlk : ¬ lk t n l = 59 := by
              intro z
              unfold lk at z
              unfold sg at h59
              by_cases hln : l < n
              · rw [if_pos hln] at z h59; exact h59 z
              · rw [if_neg hln] at z; exact absurd z (by decide)
            have q := M_rest_good (F := F) H1 hn R1 hP' hE' hl hlsk
            refine ⟨g1, nI l, ?_, E1, ?_⟩
            · rw [step, if_pos x7, x6, x7, M_look H1 (by omega), Option.bind_some, hlsk]
              show (((if lk t n l = 59 then _ else fX13_readMeadow_j92 (fX13_readMeadow_L55 (F + 1)) (mfi g1 (nI l) (-1)) 54) : Option (Nat × eg_H)).bind _) = _
              rw [if_neg hlk]
              unfold fX13_readMeadow_j92 fX13_readMeadow_j93
              rw [if_pos rfl]
              refine Eq.trans q ?_
              by_cases hz : sg t n l = 0 ∧ 2 ≤ (if k = 1 then P + 1 else P) ∧ 1 ≤ (if k = 2 then E + 1 else E)
              · rw [if_pos hz, if_pos hz]; rfl
              · rw [if_neg hz, if_neg hz]; rfl
            · by_cases hz : sg t n l = 0 ∧ 2 ≤ (if k = 1 then P + 1 else P) ∧ 1 ≤ (if k = 2 then E + 1 else E)
              · rw [if_pos hz]; exact ⟨_, R1⟩
              · rw [if_neg hz]; trivial
        · have h59 : ¬ sg t n l = 59 := fun z => by rw [z, (itm_0 k k1).2.2] at x5; exact x5 rfl
          have h0 : ¬ sg t n l = 0 := fun z => by rw [z, (itm_0 k k1).1] at x5; exact x5 rfl
          rw [if_neg h59, if_neg (fun z => h0 z.1)]
          refine ⟨g1, a1, ?_, E1, trivial⟩
          rw [step, if_neg (by rw [x6]; exact nI_nm1 (by omega)), M_rest_bad H1.1 (by rw [x6]; exact nI_nm1 (by omega)), x6]
          rfl
def SMr : List (Nat × Option Nat) := [(54, some 5), (54, some 8), (54, some 9), (54, some 10), (54, some 11), (54, some 25), (54, some 27), (54, some 28), (60, none), (62, none), (64, none)]
theorem SMm_SMr {g g' : eg_H} (E : eg_eq SMm g g') : eg_eq SMr g g' := eq_mono E (fun p i hc => by
  simp only [eg_cov, SMm, SMr, List.any_cons, List.any_nil, Bool.or_eq_false_iff] at hc ⊢
  exact ⟨hc.2.2.2.2.2.1, hc.2.2.2.2.2.2.1, hc.2.2.2.2.2.2.2.1, hc.2.2.2.2.2.2.2.2.1, hc.2.2.2.2.2.2.2.2.2.1, hc.2.2.2.2.2.2.2.2.2.2.1, trivial⟩)
theorem M_us0 {V : Nat → Int32} {a f : Int32} : ∀ j c g F, eg_stt g → (∀ x, x < 40 → vM g x = vUc 0 0 c V x) → c + j = 4 → j < F →
    ∃ g', fX13_readMeadow_L30 F (mfi g a f) 54 (nI c) = some (54, mfi g' a f) ∧ eg_eq S62 g g' ∧ ∀ x, x < 40 → vM g' x = vUs 0 0 V x := by
  intro j
  induction j with
  | zero =>
    intro c g F hs hV hc hF
    obtain ⟨F, rfl⟩ : ∃ F', F = F' + 1 := ⟨F - 1, by omega⟩
    refine ⟨g, ?_, eq_rfl, fun x hx => ?_⟩
    · rw [fX13_readMeadow_L30, if_pos (show (4 : Int32) ≤ nI c from nI_le (a := 4) (by omega) (by omega))]
    · rw [hV x hx, show c = kC 0 from by simp [kC]; omega]; rfl
  | succ j ih =>
    intro c g F hs hV hc hF
    have hs' : ∀ a c, eg_stt (mfi g a c) := fun _ _ => hs
    obtain ⟨F, rfl⟩ : ∃ F', F = F' + 1 := ⟨F - 1, by omega⟩
    have E1 := S62_w (g := g) (k := 0) (by decide) c ((eg_tb 4).getD (kB 0 + c) 0)
    obtain ⟨g', i1, i2, i3⟩ := ih (c + 1) (eg_sI g (aP 0) c ((eg_tb 4).getD (kB 0 + c) 0)) F hs (fun x hx => by
      rw [vM_w (by decide) (show c < 4 by omega) hx, hV x hx, show aB 0 = 0 from rfl]
      unfold vUc
      by_cases c1 : x = 0 + c
      · rw [if_pos c1, if_pos (by omega), show x - 0 = c by omega]
      · rw [if_neg c1]
        by_cases c2 : 0 ≤ x ∧ x < 0 + c
        · rw [if_pos c2, if_pos (by omega)]
        · rw [if_neg c2, if_neg (by omega)]) (by omega) (by omega)
    refine ⟨g', ?_, eq_tr E1 i2, i3⟩
    have e1 := M_usual (mfi g a f) 0 (by decide) c (show c < 4 by omega)
    rw [show kL 0 = (109 : Int32) from rfl] at e1
    rw [fX13_readMeadow_L30, if_neg (show ¬ (4 : Int32) ≤ nI c from nI_ge (b := 4) (by omega) (by decide)), gR_54 (hs' _ _), rf_54_19 (hs' _ _), Option.bind_some, e1, Option.bind_some]
    show ((eg_wI (mfi g a f) 100 (aP 0) (nI c) ((eg_tb 4).getD (kB 0 + c) 0)).bind _) = _
    rw [M_aw hs (by decide) (show c < 4 by omega), Option.bind_some, nI_1]
    exact i1
theorem M_readM {h : eg_H} (H : Tt n t h) :
    ∃ g' a, fX13_readMeadow h 54 = some (mfi g' a (mdA (mdF t n 14 (skp t n 0) 0 0 0 (vUs 0 0 (vM h))))) ∧ eg_eq SMr h (mfi g' a (mdA (mdF t n 14 (skp t n 0) 0 0 0 (vUs 0 0 (vM h))))) ∧ mdM (mdF t n 14 (skp t n 0) 0 0 0 (vUs 0 0 (vM h))) g' := by
  have hs := H.1
  have hn := H.2.1
  have hb := H.2.2.2.1
  have To := Tt_open H
  have so := To.1
  generalize hg0 : eg_sI (eg_sI (eg_sP h 54 5 (some 55)) 54 8 0) 54 9 (nI n) = g0 at To so
  have E0 : eg_eq SMr h g0 := by
    rw [← hg0]
    exact eq_sI (eq_sI (eq_sP eq_rfl rfl) rfl) rfl
  have v0 : ∀ x, vM g0 x = vM h x := fun x => by rw [← hg0]; simp [vM, I_sI, I_sP]
  have hop : fX13_opens h 54 55 0 (nI n) = some (mfi g0 0 (-1)) := by rw [M_opens (a := 0) (f := 0) hs, hg0]
  generalize hg1 : eg_sI (eg_sI (eg_sI g0 54 25 0) 54 27 0) 54 28 0 = g1
  have E1 : eg_eq SMm g0 g1 := by rw [← hg1]; exact eq_sI (eq_sI (eq_sI eq_rfl rfl) rfl) rfl
  have H1 := Tm_SMm To E1
  have v1 : ∀ x, vM g1 x = vM h x := fun x => by rw [← v0, ← hg1]; simp [vM, I_sI]
  obtain ⟨g2, e2, E2, v2⟩ := M_us0 (V := vM h) (a := 0) (f := -1) 4 0 g1 eg_F H1.1 (fun x hx => by rw [v1]; unfold vUc; rw [if_neg (by omega)]) (by omega) (by rw [eg_F_eq]; omega)
  have H2 := Tm_S62 H1 E2
  have R2 : RM g2 0 0 0 (vUs 0 0 (vM h)) := by
    refine ⟨?_, ?_, ?_, v2⟩
    · rw [(E2.2 54 25 rfl).1, ← hg1]; rfl
    · rw [(E2.2 54 27 rfl).1, ← hg1]; rfl
    · rw [(E2.2 54 28 rfl).1, ← hg1]; rfl
  obtain ⟨g3, a3, i1, i2, i3⟩ := M_md hn 14 0 0 0 0 _ g2 eg_F (by decide) (by omega) (by omega) (by omega) (Nat.zero_le _) H2 R2 (by rw [eg_F_eq]; omega)
  refine ⟨g3, a3, ?_, mfi_eq _ _ (eq_tr (eq_tr (eq_tr E0 (SMm_SMr E1)) (SMm_SMr (S62_SMm E2))) (SMm_SMr i2)) rfl rfl, i3⟩
  have sm : ∀ a c, eg_stt (mfi g0 a c) := fun _ _ => so
  have smA : ∀ a c, eg_stt (mfi (eg_sI g0 54 25 0) a c) := fun _ _ => so
  have smB : ∀ a c, eg_stt (mfi (eg_sI (eg_sI g0 54 25 0) 54 27 0) a c) := fun _ _ => so
  unfold fX13_readMeadow
  rw [if_pos (iO_54 hs), gR_54 hs, rf_54_1 hs, Option.bind_some, gI_54 hs, Option.bind_some, H.2.2.1, hop, Option.bind_some, pI_54 (sm _ _), Option.bind_some, mfi_sI _ _ _ _ (by decide), pI_54 (smA _ _), Option.bind_some, mfi_sI _ _ _ _ (by decide), pZ_54 (smB _ _) (Or.inl rfl), Option.bind_some, mfi_sI _ _ _ _ (by decide), hg1]
  rw [nI_0] at e2
  rw [e2, Option.bind_some]
  rw [nI_0] at i1
  exact i1
end MMd
