section MC
variable {q b n : Nat} {t env : Nat → Int32} {g : eg_H}
theorem opT_lk {i : Nat} {o : Int32} (h : opT (sg t n i) = some o) : (lk t n i = 42 ∧ o = -8) ∨ (¬ lk t n i = 42 ∧ lk t n i = 47 ∧ o = -9) := by
  unfold opT at h
  by_cases c1 : sg t n i = 42
  · rw [if_pos c1] at h; cases h; exact Or.inl ⟨(lk_c (by decide) (by decide)).mpr c1, rfl⟩
  · rw [if_neg c1] at h
    by_cases c2 : sg t n i = 47
    · rw [if_pos c2] at h; cases h; exact Or.inr ⟨fun w => c1 ((lk_c (by decide) (by decide)).mp w), (lk_c (by decide) (by decide)).mpr c2, rfl⟩
    · rw [if_neg c2] at h; cases h
theorem opT_no {i : Nat} (h : opT (sg t n i) = none) : ¬ lk t n i = 42 ∧ ¬ lk t n i = 47 := by
  unfold opT at h
  by_cases c1 : sg t n i = 42
  · rw [if_pos c1] at h; cases h
  · rw [if_neg c1] at h
    by_cases c2 : sg t n i = 47
    · rw [if_pos c2] at h; cases h
    · exact ⟨fun w => c1 ((lk_c (by decide) (by decide)).mp w), fun w => c2 ((lk_c (by decide) (by decide)).mp w)⟩
theorem opS_lk {i : Nat} {o : Int32} (h : opS (sg t n i) = some o) : (lk t n i = 43 ∧ o = -6) ∨ (¬ lk t n i = 43 ∧ lk t n i = 45 ∧ o = -7) := by
  unfold opS at h
  by_cases c1 : sg t n i = 43
  · rw [if_pos c1] at h; cases h; exact Or.inl ⟨(lk_c (by decide) (by decide)).mpr c1, rfl⟩
  · rw [if_neg c1] at h
    by_cases c2 : sg t n i = 45
    · rw [if_pos c2] at h; cases h; exact Or.inr ⟨fun w => c1 ((lk_c (by decide) (by decide)).mp w), (lk_c (by decide) (by decide)).mpr c2, rfl⟩
    · rw [if_neg c2] at h; cases h
theorem opS_no {i : Nat} (h : opS (sg t n i) = none) : ¬ lk t n i = 43 ∧ ¬ lk t n i = 45 := by
  unfold opS at h
  by_cases c1 : sg t n i = 43
  · rw [if_pos c1] at h; cases h
  · rw [if_neg c1] at h
    by_cases c2 : sg t n i = 45
    · rw [if_pos c2] at h; cases h
    · exact ⟨fun w => c1 ((lk_c (by decide) (by decide)).mp w), fun w => c2 ((lk_c (by decide) (by decide)).mp w)⟩
theorem MT_dead (H : Tm q b n t g) (rc : eg_H → Nat → Option (Int32 × eg_H)) (F : Nat) (a f d v : Int32) (hf : ¬ f = -1) : fX13_term_L5 rc (F + 1) (mf g a f d) 54 v = some (v, mf g a f d) := by
  rw [fX13_term_L5, mf_g11 H, Option.bind_some, if_neg hf]
theorem MT_none (H : Tm q b n t g) (hn : n ≤ 160) (rc : eg_H → Nat → Option (Int32 × eg_H)) (F r0 : Nat) (d v : Int32) (hr : r0 ≤ n) (ho : opT (sg t n (skp t n r0)) = none) : fX13_term_L5 rc (F + 1) (mf g (nI r0) (-1) d) 54 v = some (v, mf g (nI (skp t n r0)) (-1) d) := by
  have hle := skp_le t n r0 hr
  obtain ⟨k1, k2⟩ := opT_no ho
  rw [fX13_term_L5, mf_g11 H, Option.bind_some, if_pos rfl, mf_look H (by omega), Option.bind_some]
  show (if lk t n (skp t n r0) = 42 then _ else _) = _
  rw [if_neg k1, mf_look H (by omega), Option.bind_some, skp_id]
  show (if lk t n (skp t n r0) = 47 then _ else _) = _
  rw [if_neg k2]
theorem MT_go (H : Tm q b n t g) (hn : n ≤ 160) (rc : eg_H → Nat → Option (Int32 × eg_H)) (F r0 : Nat) (d v o : Int32) (hr : r0 ≤ n) (ho : opT (sg t n (skp t n r0)) = some o) : fX13_term_L5 rc (F + 1) (mf g (nI r0) (-1) d) 54 v = (fX13_atom rc (mf g (nI (skp t n r0 + 1)) (-1) d) 54).bind fun z => fX13_term_L5 rc F z.2 54 (orT o v z.1) := by
  have hle := skp_le t n r0 hr
  have hj : ∀ s0 : Int32, (if o = -8 then (1 : Int32) else 0) = s0 → fX13_term_j45 rc (fX13_term_L5 rc F) (mf g (nI (skp t n r0)) (-1) d) 54 v s0 = (fX13_atom rc (mf g (nI (skp t n r0 + 1)) (-1) d) 54).bind fun z => fX13_term_L5 rc F z.2 54 (orT o v z.1) := by
    intro s0 h0
    unfold fX13_term_j45
    rw [mf_g10 H, Option.bind_some, mf_p10 H, Option.bind_some, nI_1]
    congr 1
    funext z
    obtain ⟨v6, h5⟩ := z
    show ((some (v6.toInt64)).bind fun v8 => if s0 = 0 then _ else _) = fX13_term_L5 rc F h5 54 (orT o v v6)
    rw [Option.bind_some]
    unfold orT
    by_cases c : o = -8
    · rw [if_pos c] at h0
      subst h0
      rw [if_neg (by decide), if_pos c]
      rfl
    · rw [if_neg c] at h0
      subst h0
      rw [if_pos rfl, if_neg c]
      by_cases c2 : v6.toInt64 = 0
      · rw [if_pos c2, if_pos c2]; rfl
      · rw [if_neg c2, if_neg c2, if_neg c2]; rfl
  rw [fX13_term_L5, mf_g11 H, Option.bind_some, if_pos rfl, mf_look H (by omega), Option.bind_some]
  show (if lk t n (skp t n r0) = 42 then _ else _) = _
  rcases opT_lk ho with ⟨k1, rfl⟩ | ⟨k1, k2, rfl⟩
  · rw [if_pos k1]
    unfold fX13_term_j31
    rw [mf_look H (by omega), Option.bind_some, skp_id]
    show (if lk t n (skp t n r0) = 42 then _ else _) = _
    rw [if_pos k1]
    exact hj 1 rfl
  · rw [if_neg k1, mf_look H (by omega), Option.bind_some, skp_id]
    show (if lk t n (skp t n r0) = 47 then _ else _) = _
    rw [if_pos k2]
    unfold fX13_term_j31
    rw [mf_look H (by omega), Option.bind_some, skp_id]
    show (if lk t n (skp t n r0) = 42 then _ else _) = _
    rw [if_neg k1]
    exact hj 0 rfl
theorem MS_dead (H : Tm q b n t g) (rc : eg_H → Nat → Option (Int32 × eg_H)) (F : Nat) (a f d v : Int32) (hf : ¬ f = -1) : fX13_sum_L5 rc (F + 1) (mf g a f d) 54 v = some (v, mf g a f d) := by
  rw [fX13_sum_L5, mf_g11 H, Option.bind_some, if_neg hf]
theorem MS_none (H : Tm q b n t g) (hn : n ≤ 160) (rc : eg_H → Nat → Option (Int32 × eg_H)) (F r0 : Nat) (d v : Int32) (hr : r0 ≤ n) (ho : opS (sg t n (skp t n r0)) = none) : fX13_sum_L5 rc (F + 1) (mf g (nI r0) (-1) d) 54 v = some (v, mf g (nI (skp t n r0)) (-1) d) := by
  have hle := skp_le t n r0 hr
  obtain ⟨k1, k2⟩ := opS_no ho
  rw [fX13_sum_L5, mf_g11 H, Option.bind_some, if_pos rfl, mf_look H (by omega), Option.bind_some]
  show (if lk t n (skp t n r0) = 43 then _ else _) = _
  rw [if_neg k1, mf_look H (by omega), Option.bind_some, skp_id]
  show (if lk t n (skp t n r0) = 45 then _ else _) = _
  rw [if_neg k2]
theorem MS_go (H : Tm q b n t g) (hn : n ≤ 160) (rc : eg_H → Nat → Option (Int32 × eg_H)) (F r0 : Nat) (d v o : Int32) (hr : r0 ≤ n) (ho : opS (sg t n (skp t n r0)) = some o) : fX13_sum_L5 rc (F + 1) (mf g (nI r0) (-1) d) 54 v = (fX13_term rc (mf g (nI (skp t n r0 + 1)) (-1) d) 54).bind fun z => fX13_sum_L5 rc F z.2 54 (orS o v z.1) := by
  have hle := skp_le t n r0 hr
  have hj : ∀ s0 : Int32, (if o = -6 then (1 : Int32) else 0) = s0 → fX13_sum_j45 rc (fX13_sum_L5 rc F) (mf g (nI (skp t n r0)) (-1) d) 54 v s0 = (fX13_term rc (mf g (nI (skp t n r0 + 1)) (-1) d) 54).bind fun z => fX13_sum_L5 rc F z.2 54 (orS o v z.1) := by
    intro s0 h0
    unfold fX13_sum_j45
    rw [mf_g10 H, Option.bind_some, mf_p10 H, Option.bind_some, nI_1]
    congr 1
    funext z
    obtain ⟨v6, h5⟩ := z
    show ((some (v6.toInt64)).bind fun v8 => if s0 = 0 then _ else _) = fX13_sum_L5 rc F h5 54 (orS o v v6)
    rw [Option.bind_some]
    unfold orS
    by_cases c : o = -6
    · rw [if_pos c] at h0
      subst h0
      rw [if_neg (by decide), if_pos c]
      rfl
    · rw [if_neg c] at h0
      subst h0
      rw [if_pos rfl, if_neg c]
      rfl
  rw [fX13_sum_L5, mf_g11 H, Option.bind_some, if_pos rfl, mf_look H (by omega), Option.bind_some]
  show (if lk t n (skp t n r0) = 43 then _ else _) = _
  rcases opS_lk ho with ⟨k1, rfl⟩ | ⟨k1, k2, rfl⟩
  · rw [if_pos k1]
    unfold fX13_sum_j31
    rw [mf_look H (by omega), Option.bind_some, skp_id]
    show (if lk t n (skp t n r0) = 43 then _ else _) = _
    rw [if_pos k1]
    exact hj 1 rfl
  · rw [if_neg k1, mf_look H (by omega), Option.bind_some, skp_id]
    show (if lk t n (skp t n r0) = 45 then _ else _) = _
    rw [if_pos k2]
    unfold fX13_sum_j31
    rw [mf_look H (by omega), Option.bind_some, skp_id]
    show (if lk t n (skp t n r0) = 43 then _ else _) = _
    rw [if_neg k1]
    exact hj 0 rfl
theorem bind_id2 {α : Type} (x : Option (Int32 × α)) : (x.bind fun e => match e with
    | (v, h) => some (v, h)) = x := by cases x <;> rfl
theorem Mterm_eq (H : Tm q b n t g) (rc : eg_H → Nat → Option (Int32 × eg_H)) (a f d : Int32) : fX13_term rc (mf g a f d) 54 = (fX13_atom rc (mf g a f d) 54).bind fun z => fX13_term_L5 rc eg_F z.2 54 z.1 := by
  unfold fX13_term
  rw [if_pos (iO_54 (mf_stt H _ _ _))]
  congr 1
  funext z
  exact bind_id2 _
theorem MsumB_eq (H : Tm q b n t g) (rc : eg_H → Nat → Option (Int32 × eg_H)) (a f d : Int32) : fX13_sumB rc (mf g a f d) 54 = (fX13_term rc (mf g a f d) 54).bind fun z => fX13_sum_L5 rc eg_F z.2 54 z.1 := by
  unfold fX13_sumB
  rw [if_pos (iO_54 (mf_stt H _ _ _))]
  congr 1
  funext z
  exact bind_id2 _
theorem Ml_cg {Q B : Int32 → Prop} {r1 r2 : eg_H → Option (Int32 × eg_H)} {dep i : Nat} {r : eg_PR} (h : Mlive t n env g Q B r1 dep i r) (e : ∀ a f d, r2 (mf g a f d) = r1 (mf g a f d)) : Mlive t n env g Q B r2 dep i r := fun r0 h0 hs => by rw [e]; exact h r0 h0 hs
theorem M_term (H : Tm q b n t g) (hn : n ≤ 160) (hl : ∀ l, l < 5 → eg_I g 58 (cd5 l) = env l) (rc : eg_H → Nat → Option (Int32 × eg_H)) {dep : Nat} {br : Nat → eg_PR} (hok : ∀ i, i < n → pOk t n i (br i))
    (hb : ∀ i, i < n → skp t n i = i → ∃ v a f d, M_br rc (mf g (nI i) (-1) (nI dep)) = some (v, mf g a f d) ∧ oM t n env tQ B6 dep (br i) v a f d) (i : Nat) (hi : i ≤ n) : Mlive t n env g tQ B6 (fun h => fX13_term rc h 54) dep i (pTerm t n br i) :=
  Ml_cg (M_lp (L := fun F h v => fX13_term_L5 rc F h 54 v) (nr := fun h => fX13_atom rc h 54) (op' := orT) rfl hn (M_atom H hn hl rc hb i) (pOk_atom hok hi) (MT_dead H rc) (MT_none H hn rc) (MT_go H hn rc) (fun _ _ _ _ _ _ _ => trivial) (fun o s v x => orT_eq) (fun j _ _ => M_atom H hn hl rc hb j) (fun j hj _ => pOk_atom hok hj)) (fun a f d => Mterm_eq H rc a f d)
theorem M_sumB (H : Tm q b n t g) (hn : n ≤ 160) (hl : ∀ l, l < 5 → eg_I g 58 (cd5 l) = env l) (rc : eg_H → Nat → Option (Int32 × eg_H)) {dep : Nat} {br : Nat → eg_PR} (hok : ∀ i, i < n → pOk t n i (br i))
    (hb : ∀ i, i < n → skp t n i = i → ∃ v a f d, M_br rc (mf g (nI i) (-1) (nI dep)) = some (v, mf g a f d) ∧ oM t n env tQ B6 dep (br i) v a f d) (i : Nat) (hi : i ≤ n) : Mlive t n env g tQ B6 (fun h => fX13_sumB rc h 54) dep i (pSumB t n br i) := by
  have hT : ∀ i, i ≤ n → pOk t n i (pTerm t n br i) := fun i hi => pOk_B (pOk_atom hok hi) (fun q _ q1 q2 q3 => pOk_L rfl (fun j hj _ => pOk_atom hok hj) 161 q i q1 q2 q3)
  exact Ml_cg (M_lp (L := fun F h v => fX13_sum_L5 rc F h 54 v) (nr := fun h => fX13_term rc h 54) (op' := orS) rfl hn (M_term H hn hl rc hok hb i hi) (hT i hi) (MS_dead H rc) (MS_none H hn rc) (MS_go H hn rc) (fun _ _ _ _ _ _ _ => trivial) (fun o s v x => orS_eq) (fun j hj _ => M_term H hn hl rc hok hb j hj) (fun j hj _ => hT j hj)) (fun a f d => MsumB_eq H rc a f d)
theorem nI_m1 (d : Nat) : nI (d + 1) - 1 = nI d := by
  rw [← iI_n, ← iI_n, show (1 : Int32) = iI 1 from rfl, iI_sub]
  congr 1
  omega
theorem M_sum (H : Tm q b n t g) (hn : n ≤ 160) (hl : ∀ l, l < 5 → eg_I g 58 (cd5 l) = env l) : ∀ d m dep i, dep + d = 6 → d < m → i ≤ n → Mlive t n env g tQ B6 (fun h => fX13_sum m h 54) dep i (pSum t n d i) := by
  intro d
  induction d with
  | zero =>
    intro m dep i h1 h2 hi
    obtain ⟨m, rfl⟩ : ∃ m', m = m' + 1 := ⟨m - 1, by omega⟩
    obtain rfl : dep = 6 := by omega
    refine M_sumB H hn hl (fX13_sum m) (fun j hj => by show j ≤ n; omega) (fun j hj _ => ?_) i hi
    refine ⟨0, nI j, nI j, nI 6, ?_, trivial, rfl, by omega⟩
    unfold M_br
    rw [mf_in6 H, Option.bind_some, if_pos rfl]
  | succ d ih =>
    intro m dep i h1 h2 hi
    obtain ⟨m, rfl⟩ : ∃ m', m = m' + 1 := ⟨m - 1, by omega⟩
    refine M_sumB H hn hl (fX13_sum m) (fun j hj => ?_) (fun j hj hsk => ?_) i hi
    · have := skp_ge t n (j + 1)
      exact pOk_B (pOk_up (pOk_sum d (skp t n (j + 1)) (skp_le t n _ hj)) (by omega)) (fun q _ q1 q2 q3 => pOk_N (by decide) q1 q2)
    · have hle := skp_le t n (j + 1) hj
      obtain ⟨v, a, f, d', e, o0, o1⟩ := ih m (dep + 1) (skp t n (j + 1)) (by omega) (by omega) hle (j + 1) hj rfl
      have ok := pOk_sum (t := t) d (skp t n (j + 1)) hle
      have e' : fX13_sum m (mf g (nI (j + 1)) (-1) (nI (dep + 1))) 54 = some (v, mf g a f d') := e
      unfold M_br
      rw [mf_in H (by omega), Option.bind_some]
      dsimp only
      rw [if_neg (show ¬ (1 : Int32) = 0 by decide), if_pos (iO_54 (mf_stt H _ _ _)), e', Option.bind_some]
      dsimp only
      cases hr : pSum t n d (skp t n (j + 1)) with
      | inl e =>
        rw [hr] at o1
        obtain ⟨u1, u2⟩ := o1
        rw [mf_takesD H (by rw [u1]; exact nI_nm1 (by omega)), Option.bind_some]
        exact ⟨0, _, _, _, rfl, trivial, u1, u2⟩
      | inr w =>
        rw [hr] at o1 ok
        obtain ⟨u1, u2, u3, r1, u4, u5, u6⟩ := o1
        obtain ⟨k1, k2, k3⟩ := ok
        subst u1; subst u2; subst u4
        rw [mf_takes H (by omega), Option.bind_some, u6]
        rw [show pB (.inr w) (fun q => pN t n 93 q fun j => .inr (j, q.2)) = pN t n 93 w (fun j => .inr (j, w.2)) from rfl]
        unfold pN
        by_cases c : sg t n w.1 = 93
        · have hlt := sg_n c (by decide)
          rw [if_pos c, if_pos ((lk_c (by decide) (by decide)).mpr c)]
          dsimp only
          rw [if_neg (show ¬ (1 : Int32) = 0 by decide), mf_g12 H, Option.bind_some, mf_p12 H, Option.bind_some, nI_m1]
          exact ⟨v, _, _, _, rfl, trivial, rfl, rfl, u3, w.1 + 1, rfl, hlt, rfl⟩
        · rw [if_neg c, if_neg (fun z => c ((lk_c (by decide) (by decide)).mp z))]
          exact ⟨0, _, _, _, rfl, trivial, rfl, k2⟩
end MC
