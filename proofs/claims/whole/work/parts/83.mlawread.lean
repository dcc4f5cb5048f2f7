def SMf : List (Nat × Option Nat) := [(54, some 14), (54, some 17)]
def SMl : List (Nat × Option Nat) := [(54, some 5), (54, some 8), (54, some 9), (54, some 10), (54, some 11), (54, some 12), (54, some 13), (54, some 14), (54, some 17)]
def fnd (g : eg_H) (c v : Int32) : eg_H := if eg_I g 54 17 = 0 ∧ ¬ c = 0 then eg_sI (eg_sI g 54 17 1) 54 14 v else g
theorem fnd_eq (g : eg_H) (c v : Int32) : eg_eq SMf g (fnd g c v) := by
  unfold fnd
  split
  · exact eq_sI (eq_sI eq_rfl rfl) rfl
  · exact eq_rfl
def oMc (t : Nat → Int32) (n : Nat) (env : Nat → Int32) (r : Nat ⊕ eg_CV) (g g' : eg_H) (a f d : Int32) : Prop := match r with
  | .inl e => f = nI e ∧ e ≤ n ∧ g' = g
  | .inr q => f = -1 ∧ d = nI 0 ∧ (∃ c v, g' = fnd g c v ∧ (bd env → c = q.2.2.1 env ∧ v = q.2.2.2 env)) ∧ ∃ r1, a = nI r1 ∧ r1 ≤ n ∧ skp t n r1 = q.1
section MR
variable {q b n : Nat} {t env : Nat → Int32} {g : eg_H}
theorem mf_sI (a f d x : Int32) {p i : Nat} (hp : ¬ (p = 54 ∧ i = 10) ∧ ¬ (p = 54 ∧ i = 11) ∧ ¬ (p = 54 ∧ i = 12)) : eg_sI (mf g a f d) p i x = mf (eg_sI g p i x) a f d := by
  unfold mf
  rw [mfi_sI _ _ _ _ ⟨hp.1, hp.2.1⟩]
  congr 1
  refine fin_ext rfl (fun q j => ?_) rfl
  show (if q = p ∧ j = i then x else if q = 54 ∧ j = 12 then d else g.2.1 q j) = (if q = 54 ∧ j = 12 then d else if q = p ∧ j = i then x else g.2.1 q j)
  by_cases c : q = p ∧ j = i
  · rw [if_pos c, if_neg (by omega), if_pos c]
  · rw [if_neg c, if_neg c]
theorem mf_i (a f d : Int32) {p i : Nat} (hp : ¬ (p = 54 ∧ i = 10) ∧ ¬ (p = 54 ∧ i = 11) ∧ ¬ (p = 54 ∧ i = 12)) : eg_I (mf g a f d) p i = eg_I g p i := by
  unfold mf
  rw [mfi_i _ _ _ ⟨hp.1, hp.2.1⟩, I_sI, if_neg hp.2.2]
theorem M_134 (H : Tm q b n t g) (hlab : eg_I g 54 13 = 121) (a d c v : Int32) : fX13_clause_j134 (mf g a (-1) d) 54 121 c v = some (mf (fnd g c v) a (-1) d) := by
  unfold fX13_clause_j134 fnd
  rw [mf_g11 H, Option.bind_some, if_pos rfl, gI_54 (mf_stt H _ _ _), Option.bind_some, mf_i _ _ _ (by decide)]
  by_cases c1 : eg_I g 54 17 = 0
  · rw [if_pos c1, gI_54 (mf_stt H _ _ _), Option.bind_some, mf_i _ _ _ (by decide), hlab, if_pos rfl]
    by_cases c2 : c = 0
    · rw [if_pos c2, if_neg (fun w => w.2 c2)]
    · rw [if_neg c2, if_pos ⟨c1, c2⟩, pZ_54 (mf_stt H _ _ _) (Or.inr rfl), Option.bind_some, mf_sI _ _ _ _ (by decide), pI_54 (show eg_stt (mf (eg_sI g 54 17 1) a (-1) d) from H.1), Option.bind_some, mf_sI _ _ _ _ (by decide)]
  · rw [if_neg c1, if_neg (fun w => c1 w.1)]
theorem M_134D (H : Tm q b n t g) {a f d l c v : Int32} (hf : ¬ f = -1) : fX13_clause_j134 (mf g a f d) 54 l c v = some (mf g a f d) := by
  unfold fX13_clause_j134
  rw [mf_g11 H, Option.bind_some, if_neg hf]
theorem M_when (H : Tm q b n t g) (hn : n ≤ 160) (hl : ∀ l, l < 5 → eg_I g 58 (cd5 l) = env l) (hlab : eg_I g 54 13 = 121) {i : Nat} {r : eg_PR} {v2 a f d : Int32} (o : oM t n env q01 q01 0 r v2 a f d) (ok : pOk t n i r) :
    ∃ g' a' f' d', ((fX13_takes (mf g a f d) 54 63).bind fun ⟨v5, h4⟩ => if v5 = 0 then (some h4) else (fX13_sum eg_D h4 54).bind fun ⟨v9, h8⟩ => fX13_clause_j134 h8 54 121 v2 v9) = some (mf g' a' f' d') ∧ oMc t n env (pWhen t n r) g g' a' f' d' := by
  obtain ⟨o0, o1⟩ := o
  cases r with
  | inl e =>
    obtain ⟨u1, u2⟩ := o1
    rw [mf_takesD H (by rw [u1]; exact nI_nm1 (by omega)), Option.bind_some]
    exact ⟨g, _, _, _, rfl, u1, u2, rfl⟩
  | inr w =>
    obtain ⟨u1, u2, u3, r1, u4, u5, u6⟩ := o1
    obtain ⟨k1, k2, k3⟩ := ok
    subst u1; subst u2; subst u4
    rw [mf_takes H (by omega), Option.bind_some, u6]
    show ∃ g' a' f' d', _ ∧ oMc t n env (if sg t n w.1 = 63 then _ else _) g g' a' f' d'
    by_cases c : sg t n w.1 = 63
    · have hlt := sg_n c (by decide)
      have hle := skp_le t n (w.1 + 1) hlt
      rw [if_pos c, if_pos ((lk_c (by decide) (by decide)).mpr c)]
      show ∃ g' a' f' d', (if (1 : Int32) = 0 then _ else _) = _ ∧ _
      rw [if_neg (by decide)]
      obtain ⟨x, a, f, d', e, p0, p1⟩ := M_sum H hn hl 6 eg_D 0 (skp t n (w.1 + 1)) rfl (by rw [eg_D_eq]; omega) hle (w.1 + 1) hlt rfl
      have e' : fX13_sum eg_D (mf g (nI (w.1 + 1)) (-1) (nI 0)) 54 = some (x, mf g a f d') := e
      rw [e', Option.bind_some]
      show ∃ g' a' f' d'', fX13_clause_j134 (mf g a f d') 54 121 v2 x = _ ∧ _
      cases hr : pSum t n 6 (skp t n (w.1 + 1)) with
      | inl e =>
        rw [hr] at p1
        obtain ⟨y1, y2⟩ := p1
        rw [M_134D H (by rw [y1]; exact nI_nm1 (by omega))]
        exact ⟨g, _, _, _, rfl, y1, y2, rfl⟩
      | inr y =>
        rw [hr] at p1
        obtain ⟨y1, y2, y3, r2, y4, y5, y6⟩ := p1
        subst y1; subst y2; subst y4
        rw [M_134 H hlab]
        exact ⟨_, _, _, _, rfl, rfl, rfl, ⟨v2, x, rfl, fun hb => ⟨(u3 hb).1, (y3 hb).1⟩⟩, r2, rfl, y5, y6⟩
    · rw [if_neg c, if_neg (fun z => c ((lk_c (by decide) (by decide)).mp z))]
      exact ⟨g, _, _, _, rfl, rfl, k2, rfl⟩
theorem M_clauseR (H : Tm q b n t g) (hn : n ≤ 160) (hl : ∀ l, l < 5 → eg_I g 58 (cd5 l) = env l) (hlab : eg_I g 54 13 = 121) {r0 i : Nat} (hr0 : r0 ≤ n) (hsk : skp t n r0 = i) :
    ∃ g' a' f' d', fX13_clause (mf g (nI r0) (-1) (nI 0)) 54 = some (mf g' a' f' d') ∧ oMc t n env (pClause t n i) g g' a' f' d' := by
  have hin : i ≤ n := by rw [← hsk]; exact skp_le t n _ hr0
  have hU : ∀ i, i ≤ n → Mlive t n env g q01 q01 (fun h => fX13_unit eg_D h 54) 0 i (pUnit t n 6 i) := fun i hi => M_unit H hn hl 6 eg_D 0 i rfl (by rw [eg_D_eq]; omega) hi
  have hUo : ∀ i, i ≤ n → pOk t n i (pUnit t n 6 i) := fun i hi => pOk_unit 6 i hi
  unfold fX13_clause
  rw [if_pos (iO_54 (mf_stt H _ _ _)), mf_look H (by omega), Option.bind_some, hsk]
  show ∃ g' a' f' d', ((fX13_isAmong (mf g (nI i) (-1) (nI 0)) 5 (lk t n i)).bind _) = _ ∧ _
  rw [am_5, Option.bind_some]
  show ∃ g' a' f' d', (if (if lk t n i = 121 then (1 : Int32) else 0) = 0 then _ else _) = _ ∧ _
  unfold pClause
  by_cases c1 : sg t n i = 121
  · have hlt := sg_n c1 (by decide)
    have k1 := (lk_c (t := t) (n := n) (i := i) (c := 121) (by decide) (by decide)).mpr c1
    rw [if_pos c1, k1, if_pos rfl, if_neg (by decide), mf_g10 H, Option.bind_some, mf_p10 H, Option.bind_some, nI_1, mf_takes H (by omega), Option.bind_some]
    have hj := skp_le t n (i + 1) hlt
    generalize skp t n (i + 1) = j at hj
    by_cases c2 : sg t n j = 58
    · have hlt2 := sg_n c2 (by decide)
      rw [if_pos c2, if_pos ((lk_c (by decide) (by decide)).mpr c2)]
      show ∃ g' a' f' d', (if (1 : Int32) = 0 then _ else _) = _ ∧ _
      rw [if_neg (by decide), mf_look H (by omega), Option.bind_some]
      have hk := skp_le t n (j + 1) hlt2
      have hkk := skp_id t n (j + 1)
      generalize skp t n (j + 1) = k at hk hkk
      show ∃ g' a' f' d', (if lk t n k = 33 then _ else if lk t n k = 40 then _ else _) = _ ∧ _
      have j64 : (sg t n k = 33 ∨ sg t n k = 40) → ∃ g' a' f' d', fX13_clause_j64 (mf g (nI k) (-1) (nI 0)) 54 121 = some (mf g' a' f' d') ∧ oMc t n env (pWhen t n (pCondF t n (pUnit t n 6) (pUnit t n 6 k))) g g' a' f' d' := by
        intro _
        obtain ⟨v, a, f, d, e, o⟩ := M_cond H hn (rc := fX13_unit eg_D) (un := pUnit t n 6) (dep := 0) hU hUo hk k hk hkk
        have e' : fX13_condition (fX13_unit eg_D) (mf g (nI k) (-1) (nI 0)) 54 0 0 = some (v, mf g a f d) := e
        unfold fX13_clause_j64
        rw [e', Option.bind_some]
        exact M_when H hn hl hlab o (pOk_condF hUo (hUo k hk))
      by_cases c3 : sg t n k = 33
      · rw [if_pos (Or.inl c3), if_pos ((lk_c (by decide) (by decide)).mpr c3)]
        exact j64 (Or.inl c3)
      · rw [if_neg (fun w => c3 ((lk_c (by decide) (by decide)).mp w))]
        by_cases c4 : sg t n k = 40
        · rw [if_pos (Or.inr c4), if_pos ((lk_c (by decide) (by decide)).mpr c4)]
          exact j64 (Or.inr c4)
        · rw [if_neg (fun w => c4 ((lk_c (by decide) (by decide)).mp w)), if_neg (fun w => w.elim c3 c4)]
          obtain ⟨x, a, f, d, e, p0, p1⟩ := M_sum H hn hl 6 eg_D 0 k rfl (by rw [eg_D_eq]; omega) hk k hk hkk
          have e' : fX13_sum eg_D (mf g (nI k) (-1) (nI 0)) 54 = some (x, mf g a f d) := e
          have ok := pOk_sum (t := t) 6 k hk
          rw [e', Option.bind_some]
          show ∃ g' a' f' d', ((eg_gI (mf g a f d) 13 11 54).bind _) = _ ∧ _
          rw [mf_g11 H, Option.bind_some]
          cases hr : pSum t n 6 k with
          | inl e =>
            rw [hr] at p1
            obtain ⟨y1, y2⟩ := p1
            have hf : ¬ f = -1 := by rw [y1]; exact nI_nm1 (by omega)
            rw [if_neg hf, M_134D H hf]
            exact ⟨g, _, _, _, rfl, y1, y2, rfl⟩
          | inr w =>
            rw [hr] at p1 ok
            obtain ⟨y1, y2, y3, r2, y4, y5, y6⟩ := p1
            obtain ⟨m1, m2, m3⟩ := ok
            subst y1; subst y2; subst y4
            rw [if_pos rfl, mf_look H (by omega), Option.bind_some, y6]
            show ∃ g' a' f' d', ((fX13_isSign (mf g (nI w.1) (-1) (nI 0)) (lk t n w.1)).bind _) = _ ∧ _
            rw [is_sign, Option.bind_some, opC_lk]
            show ∃ g' a' f' d', (if (if (opC (sg t n w.1)).isSome = true then (1 : Int32) else 0) = 0 then _ else _) = _ ∧ oMc t n env (if (opC (sg t n w.1)).isSome = true then _ else _) g g' a' f' d'
            by_cases c5 : (opC (sg t n w.1)).isSome = true
            · rw [if_pos c5, if_pos c5, if_neg (by decide)]
              have z := M_condL H hn (rc := fX13_unit eg_D) (un := pUnit t n 6) (dep := 0) hU hUo (M_cmp H hn hl (dep := 0) (d := 6) rfl w m2 y3) (pOk_cmp 6 m1 m2) (cd := fun h => fX13_condition (fX13_unit eg_D) h 54 1 x) (fun a f d => by
                  unfold fX13_condition fX13_part fX13_compares
                  rw [if_pos (iO_54 (mf_stt H _ _ _)), if_pos (iO_54 (mf_stt H _ _ _)), if_neg (by decide), if_pos (iO_54 (mf_stt H _ _ _)), if_neg (by decide)])
              obtain ⟨v, a, f, d, e, o⟩ := z w.1 m2 m3
              have e' : fX13_condition (fX13_unit eg_D) (mf g (nI w.1) (-1) (nI 0)) 54 1 x = some (v, mf g a f d) := e
              rw [e', Option.bind_some]
              exact M_when H hn hl hlab o (pOk_condF hUo (pOk_cmp 6 m1 m2))
            · rw [if_neg c5, if_neg c5, if_pos rfl, M_134 H hlab]
              exact ⟨_, _, _, _, rfl, rfl, rfl, ⟨1, x, rfl, fun hb => ⟨rfl, (y3 hb).1⟩⟩, w.1, rfl, m2, m3⟩
    · rw [if_neg c2, if_neg (fun z => c2 ((lk_c (by decide) (by decide)).mp z))]
      exact ⟨g, _, _, _, rfl, rfl, hj, rfl⟩
  · rw [if_neg c1, if_neg (fun w => c1 ((lk_c (by decide) (by decide)).mp w)), if_pos rfl, mf_fails H, Option.bind_some, if_pos rfl]
    exact ⟨g, _, _, _, rfl, rfl, hin, rfl⟩
theorem Tm_SMf {g' : eg_H} (H : Tm q b n t g) (E : eg_eq SMf g g') : Tm q b n t g' := Tm_eq H E (eq_stt E H.1 (by decide)) rfl rfl rfl (fun i => by rcases H.2.1 with ⟨rfl, _⟩ | ⟨rfl, _⟩ <;> rfl)
def M_lr (F : Nat) (h : eg_H) : Option eg_H := (fX13_goThrough_L32 F h 54).bind fun e => match e with
  | (p15, h16) => fX13_goThrough_j66 h16 p15
theorem M_lrD (H : Tm q b n t g) {a f d : Int32} {F : Nat} (hf : ¬ f = -1) : M_lr (F + 1) (mf g a f d) = some (mf g a f d) := by
  unfold M_lr
  rw [fX13_goThrough_L32, mf_g11 H, Option.bind_some, if_neg hf, Option.bind_some]
  show fX13_goThrough_j66 (mf g a f d) 54 = _
  unfold fX13_goThrough_j66
  rw [mf_g11 H, Option.bind_some, if_neg hf]
theorem M_lawF (hn : n ≤ 160) : ∀ f F r0 i g, Tm q b n t g → (∀ l, l < 5 → eg_I g 58 (cd5 l) = env l) → eg_I g 54 13 = 121 → (eg_I g 54 17 = 0 → eg_I g 54 14 = 0) → r0 ≤ n → skp t n r0 = i → n - i < f → f < F →
    ∃ g' a f' d, ((fX13_clause (mf g (nI r0) (-1) (nI 0)) 54).bind (M_lr F)) = some (mf g' a f' d) ∧ eg_eq SMf g g' ∧ (match pLawF t n f i with
      | .inl e => f' = nI e ∧ e ≤ n
      | .inr w => f' = -1 ∧ (bd env → eg_I g' 54 14 = if eg_I g 54 17 = 0 then w.2 env else eg_I g 54 14)) := by
  intro f
  induction f with
  | zero => intro F r0 i g _ _ _ _ _ _ h; omega
  | succ f ih =>
    intro F r0 i g H hl hlab hJ hr0 hsk hf hF
    obtain ⟨F, rfl⟩ : ∃ F', F = F' + 1 := ⟨F - 1, by omega⟩
    have hin : i ≤ n := by rw [← hsk]; exact skp_le t n _ hr0
    obtain ⟨g1, a, f1, d, e, o⟩ := M_clauseR H hn hl hlab hr0 hsk
    have ok := pOk_clause (t := t) hin
    rw [e, Option.bind_some]
    unfold pLawF
    cases hr : pClause t n i with
    | inl e =>
      rw [hr] at o
      obtain ⟨u1, u2, u3⟩ := o
      subst u3
      rw [M_lrD H (by rw [u1]; exact nI_nm1 (by omega))]
      exact ⟨g1, _, _, _, rfl, eq_rfl, u1, u2⟩
    | inr w =>
      rw [hr] at o ok
      obtain ⟨u1, u2, ⟨cv, vv, u3, u7⟩, r1, u4, u5, u6⟩ := o
      obtain ⟨m1, m2, m3⟩ := ok
      subst u1; subst u2; subst u4
      have E1 : eg_eq SMf g g1 := by rw [u3]; exact fnd_eq g cv vv
      have H1 := Tm_SMf H E1
      have hl1 : ∀ l, l < 5 → eg_I g1 58 (cd5 l) = env l := fun l h => by rw [(E1.2 58 (cd5 l) rfl).1]; exact hl l h
      have hlab1 : eg_I g1 54 13 = 121 := by rw [(E1.2 54 13 rfl).1]; exact hlab
      have h17 : eg_I g1 54 17 = if eg_I g 54 17 = 0 ∧ ¬ cv = 0 then 1 else eg_I g 54 17 := by
        rw [u3]; unfold fnd
        by_cases c : eg_I g 54 17 = 0 ∧ ¬ cv = 0
        · rw [if_pos c, if_pos c, I_sI, if_neg (by decide), I_sI, if_pos ⟨rfl, rfl⟩]
        · rw [if_neg c, if_neg c]
      have h14 : eg_I g1 54 14 = if eg_I g 54 17 = 0 ∧ ¬ cv = 0 then vv else eg_I g 54 14 := by
        rw [u3]; unfold fnd
        by_cases c : eg_I g 54 17 = 0 ∧ ¬ cv = 0
        · rw [if_pos c, if_pos c, I_sI, if_pos ⟨rfl, rfl⟩]
        · rw [if_neg c, if_neg c]
      have hJ1 : eg_I g1 54 17 = 0 → eg_I g1 54 14 = 0 := by
        rw [h17, h14]
        by_cases c : eg_I g 54 17 = 0 ∧ ¬ cv = 0
        · rw [if_pos c, if_pos c]; intro z; exact absurd z (by decide)
        · rw [if_neg c, if_neg c]; exact hJ
      dsimp only
      unfold M_lr
      rw [fX13_goThrough_L32, mf_g11 H1, Option.bind_some, if_pos rfl, mf_look H1 (by omega), Option.bind_some, u6]
      show ∃ g' a' f' d', ((if lk t n w.1 = 59 then _ else _ : Option (Nat × eg_H)).bind _) = _ ∧ _
      by_cases c1 : sg t n w.1 = 59
      · have hlt := sg_n c1 (by decide)
        have hge := skp_ge t n (w.1 + 1)
        obtain ⟨g2, a2, f2, d2, e2, E2, o2⟩ := ih F (w.1 + 1) (skp t n (w.1 + 1)) g1 H1 hl1 hlab1 hJ1 hlt rfl (by omega) (by omega)
        rw [if_pos ((lk_c (by decide) (by decide)).mpr c1), if_pos c1, mf_g10 H1, Option.bind_some, mf_p10 H1, Option.bind_some, nI_1, Option.bind_assoc]
        refine ⟨g2, a2, f2, d2, e2, eq_tr E1 E2, ?_⟩
        cases hw : pLawF t n f (skp t n (w.1 + 1)) with
        | inl e => rw [hw] at o2; exact o2
        | inr y =>
          rw [hw] at o2
          refine ⟨o2.1, fun hb => ?_⟩
          obtain ⟨z1, z2⟩ := u7 hb
          show eg_I g2 54 14 = if eg_I g 54 17 = 0 then (if w.2.2.1 env = 0 then y.2 env else w.2.2.2 env) else eg_I g 54 14
          by_cases c : eg_I g 54 17 = 0
          · by_cases c' : cv = 0
            · have hz : ¬ (eg_I g 54 17 = 0 ∧ ¬ cv = 0) := fun z => z.2 c'
              rw [if_neg hz] at h17 h14
              rw [o2.2 hb, h17, h14, ← z1, ← z2, if_pos c, if_pos c, if_pos c']
            · have hz : eg_I g 54 17 = 0 ∧ ¬ cv = 0 := ⟨c, c'⟩
              rw [if_pos hz] at h17 h14
              rw [o2.2 hb, h17, h14, ← z1, ← z2, if_neg (show ¬ (1 : Int32) = 0 by decide), if_pos c, if_neg c']
          · have hz : ¬ (eg_I g 54 17 = 0 ∧ ¬ cv = 0) := fun z => c z.1
            rw [if_neg hz] at h17 h14
            rw [o2.2 hb, h17, h14, if_neg c, if_neg c]
      · rw [if_neg c1, if_neg (fun z => c1 ((lk_c (by decide) (by decide)).mp z)), Option.bind_some]
        show ∃ g' a' f' d', fX13_goThrough_j66 (mf g1 (nI w.1) (-1) (nI 0)) 54 = _ ∧ _
        unfold fX13_goThrough_j66
        rw [mf_g11 H1, Option.bind_some, if_pos rfl, mf_look H1 (by omega), Option.bind_some, m3]
        show ∃ g' a' f' d', (if lk t n w.1 = -1 then _ else _) = _ ∧ _
        have hb := H.2.2.2.2.2.1
        by_cases c2 : sg t n w.1 = 0
        · have c3 : lk t n w.1 = -1 := (byt_lk hb w.1).mpr ((byt_sg hb w.1).mp c2)
          rw [if_pos c3, if_pos c2]
          refine ⟨g1, _, _, _, rfl, E1, rfl, fun hb => ?_⟩
          obtain ⟨z1, z2⟩ := u7 hb
          show eg_I g1 54 14 = if eg_I g 54 17 = 0 then (if w.2.2.1 env = 0 then 0 else w.2.2.2 env) else eg_I g 54 14
          by_cases c : eg_I g 54 17 = 0
          · by_cases c' : cv = 0
            · have hz : ¬ (eg_I g 54 17 = 0 ∧ ¬ cv = 0) := fun z => z.2 c'
              rw [if_neg hz] at h14
              rw [h14, ← z1, ← z2, if_pos c, if_pos c', hJ c]
            · have hz : eg_I g 54 17 = 0 ∧ ¬ cv = 0 := ⟨c, c'⟩
              rw [if_pos hz] at h14
              rw [h14, ← z1, ← z2, if_pos c, if_neg c']
          · have hz : ¬ (eg_I g 54 17 = 0 ∧ ¬ cv = 0) := fun z => c z.1
            rw [if_neg hz] at h14
            rw [h14, if_neg c]
        · have c3 : ¬ lk t n w.1 = -1 := fun z => c2 ((byt_sg hb w.1).mpr ((byt_lk hb w.1).mp z))
          rw [if_neg c3, if_neg c2, mf_fails H1, Option.bind_some, if_pos rfl]
          exact ⟨g1, _, _, _, rfl, E1, rfl, m2⟩
theorem M_through {h : eg_H} (hq : q = 55 ∨ q = 56) (H : Tm q b n t (eg_sI (eg_sI (eg_sP h 54 5 (some q)) 54 8 (nI b)) 54 9 (nI n))) (hs : eg_stt h) (hn : n ≤ 160) (hl : ∀ l, l < 5 → eg_I h 58 (cd5 l) = env l) :
    ∃ g, fX13_goThrough h 54 q (nI b) (nI n) = some g ∧ eg_eq SMl h g ∧ eg_I g 54 11 = lwA (pLaw t n) ∧ ∀ w, pLaw t n = .inr w → bd env → eg_I g 54 14 = w.2 env := by
  generalize hg0 : eg_sI (eg_sI (eg_sP h 54 5 (some q)) 54 8 (nI b)) 54 9 (nI n) = g0 at H
  have E0 : eg_eq SMl h g0 := by rw [← hg0]; exact eq_sI (eq_sI (eq_sP eq_rfl rfl) rfl) rfl
  have e0 : fX13_opens h 54 q (nI b) (nI n) = some (mfi g0 0 (-1)) := by rw [← hg0]; exact M_opens (a := 0) (f := 0) hs
  have s0 := H.1
  let g1 := eg_sI (eg_sI (eg_sI g0 54 13 121) 54 17 0) 54 14 0
  have E1 : eg_eq SMl h g1 := eq_sI (eq_sI (eq_sI E0 rfl) rfl) rfl
  have Eg : eg_eq [(54, some 13), (54, some 17), (54, some 14)] g0 g1 := eq_sI (eq_sI (eq_sI eq_rfl rfl) rfl) rfl
  have H1 : Tm q b n t g1 := Tm_eq H Eg (eq_stt Eg H.1 (by decide)) rfl rfl rfl (fun i => by rcases H.2.1 with ⟨rfl, _⟩ | ⟨rfl, _⟩ <;> rfl)
  have hl1 : ∀ l, l < 5 → eg_I g1 58 (cd5 l) = env l := fun l h => by rw [(E1.2 58 (cd5 l) rfl).1]; exact hl l h
  have hm : eg_sI (eg_sI (eg_sI (eg_sI (mfi g0 0 (-1)) 54 13 121) 54 12 0) 54 17 0) 54 14 0 = mf g1 (nI 0) (-1) (nI 0) := by
    rw [mfi_sI _ _ _ _ (by decide), mfi_sI _ _ _ _ (by decide), mfi_sI _ _ _ _ (by decide), mfi_sI _ _ _ _ (by decide)]
    show mfi _ 0 (-1) = mfi (eg_sI g1 54 12 0) 0 (-1)
    congr 1
    refine fin_ext rfl (fun p j => ?_) rfl
    show (if p = 54 ∧ j = 14 then (0 : Int32) else if p = 54 ∧ j = 17 then 0 else if p = 54 ∧ j = 12 then 0 else if p = 54 ∧ j = 13 then 121 else g0.2.1 p j) = if p = 54 ∧ j = 12 then 0 else if p = 54 ∧ j = 14 then 0 else if p = 54 ∧ j = 17 then 0 else if p = 54 ∧ j = 13 then 121 else g0.2.1 p j
    by_cases c1 : p = 54 ∧ j = 14
    · rw [if_pos c1, if_neg (by omega), if_pos c1]
    · rw [if_neg c1, if_neg c1]
      by_cases c2 : p = 54 ∧ j = 17
      · rw [if_pos c2, if_neg (by omega), if_pos c2]
      · rw [if_neg c2, if_neg c2]
  obtain ⟨g2, a, f, d, e, E2, o⟩ := M_lawF hn 161 eg_F 0 (skp t n 0) g1 H1 hl1 (by
      show eg_I (eg_sI (eg_sI (eg_sI g0 54 13 121) 54 17 0) 54 14 0) 54 13 = 121
      rw [I_sI, if_neg (by decide), I_sI, if_neg (by decide), I_sI, if_pos ⟨rfl, rfl⟩]) (fun _ => by
      show eg_I (eg_sI (eg_sI (eg_sI g0 54 13 121) 54 17 0) 54 14 0) 54 14 = 0
      rw [I_sI, if_pos ⟨rfl, rfl⟩]) (Nat.zero_le _) rfl (by omega) (by rw [eg_F_eq]; omega)
  have h17 : eg_I g1 54 17 = 0 := by
    show eg_I (eg_sI (eg_sI (eg_sI g0 54 13 121) 54 17 0) 54 14 0) 54 17 = 0
    rw [I_sI, if_neg (by decide), I_sI, if_pos ⟨rfl, rfl⟩]
  refine ⟨mf g2 a f d, ?_, ?_, ?_, ?_⟩
  · unfold fX13_goThrough
    have s1 : ∀ a f, eg_stt (mfi g0 a f) := fun _ _ => s0
    rw [if_pos (iO_54 hs), e0, Option.bind_some, pI_54 (s1 _ _), Option.bind_some, pI_54 (show eg_stt (eg_sI (mfi g0 0 (-1)) 54 13 121) from s0), Option.bind_some, pZ_54 (show eg_stt (eg_sI (eg_sI (mfi g0 0 (-1)) 54 13 121) 54 12 0) from s0) (Or.inl rfl), Option.bind_some, pI_54 (show eg_stt (eg_sI (eg_sI (eg_sI (mfi g0 0 (-1)) 54 13 121) 54 12 0) 54 17 0) from s0), Option.bind_some, hm]
    exact e
  · refine mfi_eq a f (eq_sI (eq_tr E1 (eq_mono E2 ?_)) rfl) rfl rfl
    intro p i hc
    unfold SMl eg_cov at hc
    unfold SMf eg_cov
    simp only [List.any_cons, List.any_nil, Bool.or_eq_false_iff] at hc ⊢
    exact ⟨hc.2.2.2.2.2.2.2.1, hc.2.2.2.2.2.2.2.2.1, trivial⟩
  · show f = _
    unfold pLaw
    cases hr : pLawF t n 161 (skp t n 0) with
    | inl e => rw [hr] at o; exact o.1
    | inr w => rw [hr] at o; exact o.1
  · intro w hw hb
    unfold pLaw at hw
    rw [hw] at o
    rw [mf_i _ _ _ (by decide), o.2 hb, if_pos h17]
end MR
