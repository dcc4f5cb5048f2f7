def q01 (v : Int32) : Prop := v = 0 ∨ v = 1
def orA (_ v x : Int32) : Int32 := if v = 0 then 0 else if x = 0 then 0 else 1
def orO (_ v x : Int32) : Int32 := if v = 0 then (if x = 0 then 0 else 1) else 1
theorem orA_q (o v x : Int32) : q01 (orA o v x) := by
  unfold orA q01
  split
  · exact Or.inl rfl
  · split
    · exact Or.inl rfl
    · exact Or.inr rfl
theorem orO_q (o v x : Int32) : q01 (orO o v x) := by
  unfold orO q01
  split
  · split
    · exact Or.inl rfl
    · exact Or.inr rfl
  · exact Or.inr rfl
theorem orA_eq {o s v x : Int32} (ho : opA s = some o) (hv : q01 v) (hx : q01 x) : orA o v x = opV o v x ∧ q01 (opV o v x) := by
  have : o = -13 := by
    unfold opA at ho
    by_cases c : s = 38
    · rw [if_pos c] at ho; cases ho; rfl
    · rw [if_neg c] at ho; cases ho
  subst this
  have e : orA (-13) v x = opV (-13) v x := by
    rcases hv with rfl | rfl <;> rcases hx with rfl | rfl <;> decide
  exact ⟨e, by rw [← e]; exact orA_q _ _ _⟩
theorem orO_eq {o s v x : Int32} (ho : opO s = some o) (hv : q01 v) (hx : q01 x) : orO o v x = opV o v x ∧ q01 (opV o v x) := by
  have : o = -14 := by
    unfold opO at ho
    by_cases c : s = 124
    · rw [if_pos c] at ho; cases ho; rfl
    · rw [if_neg c] at ho; cases ho
  subst this
  have e : orO (-14) v x = opV (-14) v x := by
    rcases hv with rfl | rfl <;> rcases hx with rfl | rfl <;> decide
  exact ⟨e, by rw [← e]; exact orO_q _ _ _⟩
theorem opV_10 (v x : Int32) : opV (-10) v x = if v = x then 1 else 0 := rfl
theorem opV_11 (v x : Int32) : opV (-11) v x = if v < x then 1 else 0 := rfl
theorem opV_12 (v x : Int32) : opV (-12) v x = if x < v then 1 else 0 := rfl
theorem is_sign (h : eg_H) (s : Int32) : fX13_isSign h s = some (if (opC s).isSome = true then 1 else 0, h) := by
  unfold fX13_isSign opC
  by_cases c1 : s = 61
  · rw [if_pos c1, if_pos c1]; rfl
  · rw [if_neg c1, if_neg c1]
    by_cases c2 : s = 60
    · rw [if_pos c2, if_pos c2]; rfl
    · rw [if_neg c2, if_neg c2]
      by_cases c3 : s = 62
      · rw [if_pos c3, if_pos c3]; rfl
      · rw [if_neg c3, if_neg c3]; rfl
section MU
variable {q b n : Nat} {t env : Nat → Int32} {g : eg_H}
theorem opC_lk (i : Nat) : opC (lk t n i) = opC (sg t n i) := by
  rcases lk_sg (t := t) (n := n) i with z | z
  · rw [z.1]
  · rw [z.1, z.2.1]; rfl
theorem opA_lk (i : Nat) : opA (lk t n i) = opA (sg t n i) := by
  rcases lk_sg (t := t) (n := n) i with z | z
  · rw [z.1]
  · rw [z.1, z.2.1]; rfl
theorem opO_lk (i : Nat) : opO (lk t n i) = opO (sg t n i) := by
  rcases lk_sg (t := t) (n := n) i with z | z
  · rw [z.1]
  · rw [z.1, z.2.1]; rfl
theorem M_chk {rd : eg_H → Option (Int32 × eg_H)} {dep i : Nat} {r : eg_PR} (h : Mlive t n env g q01 q01 rd dep i r) : Mlive t n env g q01 q01 (fun h => (rd h).bind fun e => match e with
    | (v, h') => if v = 0 ∨ v = 1 then some (v, h') else none) dep i r := by
  intro r0 h0 hs
  obtain ⟨v, a, f, d, e, o0, o1⟩ := h r0 h0 hs
  refine ⟨v, a, f, d, ?_, o0, o1⟩
  show (rd _).bind _ = _
  rw [e, Option.bind_some]
  exact if_pos o0
theorem M_cmp (H : Tm q b n t g) (hn : n ≤ 160) (hl : ∀ l, l < 5 → eg_I g 58 (cd5 l) = env l) {dep d : Nat} (hd : dep + d = 6) (w : eg_PV) (hw : w.1 ≤ n) {v : Int32} (hv : bd env → v = w.2.2 env ∧ B6 (w.2.2 env)) : Mlive t n env g q01 q01 (fun h => fX13_compares_j12 h 54 v) dep w.1 (pCmp t n d w) := by
  intro r0 hr0 hsk
  show ∃ v' a f d', fX13_compares_j12 _ _ _ = _ ∧ _
  unfold fX13_compares_j12
  rw [mf_g11 H, Option.bind_some, if_pos rfl, mf_look H (by omega), Option.bind_some, hsk]
  show ∃ v' a f d', ((fX13_isSign (mf g (nI w.1) (-1) (nI dep)) (lk t n w.1)).bind _) = _ ∧ _
  rw [is_sign, Option.bind_some, opC_lk]
  unfold pCmp
  cases ho : opC (sg t n w.1) with
  | none =>
    show ∃ v' a f d', (if (if (none : Option Int32).isSome = true then (1 : Int32) else 0) = 0 then _ else _) = _ ∧ _
    rw [if_pos (show (if (none : Option Int32).isSome = true then (1 : Int32) else 0) = 0 from rfl), mf_fails H, Option.bind_some, if_pos rfl]
    exact ⟨0, _, _, _, rfl, Or.inl rfl, rfl, hw⟩
  | some o =>
    have hlt := op_n (ops := opC) rfl ho
    have hle := skp_le t n (w.1 + 1) hlt
    obtain ⟨x, a, f, d', e, o0, o1⟩ := M_sum H hn hl d eg_D dep (skp t n (w.1 + 1)) hd (by rw [eg_D_eq]; omega) hle (w.1 + 1) hlt rfl
    have e' : fX13_sum eg_D (mf g (nI (w.1 + 1)) (-1) (nI dep)) 54 = some (x, mf g a f d') := e
    show ∃ v' a f d', (if (if (some o).isSome = true then (1 : Int32) else 0) = 0 then _ else _) = _ ∧ _
    rw [if_pos (show (some o).isSome = true from rfl), if_neg (by decide), mf_g10 H, Option.bind_some, mf_p10 H, Option.bind_some, nI_1, e', Option.bind_some]
    have hcmp : (if lk t n w.1 = 61 then (if v = x then some ((1 : Int32), mf g a f d') else some (0, mf g a f d')) else if lk t n w.1 = 60 then (if x ≤ v then some (0, mf g a f d') else some (1, mf g a f d')) else if v ≤ x then some (0, mf g a f d') else some (1, mf g a f d')) = some (opV o v x, mf g a f d') ∧ q01 (opV o v x) := by
      have ho2 := ho
      rw [← opC_lk] at ho2
      unfold opC at ho2
      by_cases c1 : lk t n w.1 = 61
      · rw [if_pos c1] at ho2; cases ho2
        rw [if_pos c1]
        rw [opV_10]
        by_cases c : v = x
        · rw [if_pos c, if_pos c]; exact ⟨rfl, Or.inr rfl⟩
        · rw [if_neg c, if_neg c]; exact ⟨rfl, Or.inl rfl⟩
      · rw [if_neg c1] at ho2
        rw [if_neg c1]
        by_cases c2 : lk t n w.1 = 60
        · rw [if_pos c2] at ho2; cases ho2
          rw [if_pos c2]
          rw [opV_11]
          by_cases c : x ≤ v
          · rw [if_pos c, if_neg (Int32.not_lt.mpr c)]; exact ⟨rfl, Or.inl rfl⟩
          · rw [if_neg c, if_pos (Int32.not_le.mp c)]; exact ⟨rfl, Or.inr rfl⟩
        · rw [if_neg c2] at ho2
          rw [if_neg c2]
          by_cases c3 : lk t n w.1 = 62
          · rw [if_pos c3] at ho2; cases ho2
            rw [opV_12]
            by_cases c : v ≤ x
            · rw [if_pos c, if_neg (Int32.not_lt.mpr c)]; exact ⟨rfl, Or.inl rfl⟩
            · rw [if_neg c, if_pos (Int32.not_le.mp c)]; exact ⟨rfl, Or.inr rfl⟩
          · rw [if_neg c3] at ho2; cases ho2
    refine ⟨opV o v x, a, f, d', hcmp.1, hcmp.2, ?_⟩
    cases hr : pSum t n d (skp t n (w.1 + 1)) with
    | inl e => rw [hr] at o1; exact o1
    | inr y =>
      rw [hr] at o1
      obtain ⟨u1, u2, u3, r1, u4, u5, u6⟩ := o1
      refine ⟨u1, u2, fun hb => ?_, r1, u4, u5, u6⟩
      obtain ⟨z1, z2⟩ := hv hb
      obtain ⟨z3, z4⟩ := u3 hb
      show opV o v x = opV o (w.2.2 env) (y.2.2 env) ∧ q01 (opV o (w.2.2 env) (y.2.2 env))
      rw [← z1, ← z3]
      exact ⟨rfl, hcmp.2⟩
theorem M_cmp0 (H : Tm q b n t g) (hn : n ≤ 160) (hl : ∀ l, l < 5 → eg_I g 58 (cd5 l) = env l) {dep d : Nat} (hd : dep + d = 6) {i : Nat} (hi : i ≤ n) : Mlive t n env g q01 q01 (fun h => fX13_compares h 54 0 0) dep i (pB (pSum t n d i) (pCmp t n d)) := by
  intro r0 hr0 hsk
  obtain ⟨v, a, f, d', e, o0, o1⟩ := M_sum H hn hl d eg_D dep i hd (by rw [eg_D_eq]; omega) hi r0 hr0 hsk
  have e' : fX13_sum eg_D (mf g (nI r0) (-1) (nI dep)) 54 = some (v, mf g a f d') := e
  have ok := pOk_sum (t := t) d i hi
  show ∃ v a f d, fX13_compares _ _ _ _ = _ ∧ _
  unfold fX13_compares
  rw [if_pos (iO_54 (mf_stt H _ _ _)), if_pos rfl, e', Option.bind_some]
  show ∃ v' a' f' d'', fX13_compares_j12 (mf g a f d') 54 v = _ ∧ _
  cases hr : pSum t n d i with
  | inl e =>
    rw [hr] at o1
    obtain ⟨u1, u2⟩ := o1
    unfold fX13_compares_j12
    rw [mf_g11 H, Option.bind_some, if_neg (by rw [u1]; exact nI_nm1 (by omega))]
    exact ⟨0, _, _, _, rfl, Or.inl rfl, u1, u2⟩
  | inr w =>
    rw [hr] at o1 ok
    obtain ⟨u1, u2, u3, r1, u4, u5, u6⟩ := o1
    subst u1; subst u2; subst u4
    exact M_cmp H hn hl hd w ok.2.1 u3 r1 u5 u6
theorem MA_dead (H : Tm q b n t g) (rc : eg_H → Nat → Option (Int32 × eg_H)) (F : Nat) (a f d v : Int32) (hf : ¬ f = -1) : fX13_part_L18 rc (F + 1) (mf g a f d) 54 v = some (v, mf g a f d) := by
  rw [fX13_part_L18, mf_g11 H, Option.bind_some, if_neg hf]
theorem MA_none (H : Tm q b n t g) (hn : n ≤ 160) (rc : eg_H → Nat → Option (Int32 × eg_H)) (F r0 : Nat) (d v : Int32) (hr : r0 ≤ n) (ho : opA (sg t n (skp t n r0)) = none) : fX13_part_L18 rc (F + 1) (mf g (nI r0) (-1) d) 54 v = some (v, mf g (nI (skp t n r0)) (-1) d) := by
  have k : ¬ lk t n (skp t n r0) = 38 := by
    rw [← opA_lk] at ho
    intro w
    rw [w] at ho
    cases ho
  rw [fX13_part_L18, mf_g11 H, Option.bind_some, if_pos rfl, mf_look H (by omega), Option.bind_some]
  show (if lk t n (skp t n r0) = 38 then _ else _) = _
  rw [if_neg k]
theorem MA_go (H : Tm q b n t g) (hn : n ≤ 160) (rc : eg_H → Nat → Option (Int32 × eg_H)) (F r0 : Nat) (d v o : Int32) (hr : r0 ≤ n) (ho : opA (sg t n (skp t n r0)) = some o) : fX13_part_L18 rc (F + 1) (mf g (nI r0) (-1) d) 54 v = (rc (mf g (nI (skp t n r0 + 1)) (-1) d) 54).bind fun z => fX13_part_L18 rc F z.2 54 (orA o v z.1) := by
  have k : lk t n (skp t n r0) = 38 := by
    rw [← opA_lk] at ho
    unfold opA at ho
    by_cases c : lk t n (skp t n r0) = 38
    · exact c
    · rw [if_neg c] at ho; cases ho
  rw [fX13_part_L18, mf_g11 H, Option.bind_some, if_pos rfl, mf_look H (by omega), Option.bind_some]
  show (if lk t n (skp t n r0) = 38 then _ else _) = _
  rw [if_pos k, mf_g10 H, Option.bind_some, mf_p10 H, Option.bind_some, nI_1, if_pos (iO_54 (mf_stt H _ _ _))]
  congr 1
  funext z
  obtain ⟨x, h⟩ := z
  show (if v = 0 then fX13_part_L18 rc F h 54 0 else if x = 0 then fX13_part_L18 rc F h 54 0 else fX13_part_L18 rc F h 54 1) = fX13_part_L18 rc F h 54 (orA o v x)
  unfold orA
  by_cases c1 : v = 0
  · rw [if_pos c1, if_pos c1]
  · rw [if_neg c1, if_neg c1]
    by_cases c2 : x = 0
    · rw [if_pos c2, if_pos c2]
    · rw [if_neg c2, if_neg c2]
theorem MO_dead (H : Tm q b n t g) (rc : eg_H → Nat → Option (Int32 × eg_H)) (F : Nat) (a f d v : Int32) (hf : ¬ f = -1) : fX13_condition_L7 rc (F + 1) (mf g a f d) 54 v = some (v, mf g a f d) := by
  rw [fX13_condition_L7, mf_g11 H, Option.bind_some, if_neg hf]
theorem MO_none (H : Tm q b n t g) (hn : n ≤ 160) (rc : eg_H → Nat → Option (Int32 × eg_H)) (F r0 : Nat) (d v : Int32) (hr : r0 ≤ n) (ho : opO (sg t n (skp t n r0)) = none) : fX13_condition_L7 rc (F + 1) (mf g (nI r0) (-1) d) 54 v = some (v, mf g (nI (skp t n r0)) (-1) d) := by
  have k : ¬ lk t n (skp t n r0) = 124 := by
    rw [← opO_lk] at ho
    intro w
    rw [w] at ho
    cases ho
  rw [fX13_condition_L7, mf_g11 H, Option.bind_some, if_pos rfl, mf_look H (by omega), Option.bind_some]
  show (if lk t n (skp t n r0) = 124 then _ else _) = _
  rw [if_neg k]
theorem MO_go (H : Tm q b n t g) (hn : n ≤ 160) (rc : eg_H → Nat → Option (Int32 × eg_H)) (F r0 : Nat) (d v o : Int32) (hr : r0 ≤ n) (ho : opO (sg t n (skp t n r0)) = some o) : fX13_condition_L7 rc (F + 1) (mf g (nI r0) (-1) d) 54 v = (fX13_part rc (mf g (nI (skp t n r0 + 1)) (-1) d) 54 0 0).bind fun z => fX13_condition_L7 rc F z.2 54 (orO o v z.1) := by
  have k : lk t n (skp t n r0) = 124 := by
    rw [← opO_lk] at ho
    unfold opO at ho
    by_cases c : lk t n (skp t n r0) = 124
    · exact c
    · rw [if_neg c] at ho; cases ho
  rw [fX13_condition_L7, mf_g11 H, Option.bind_some, if_pos rfl, mf_look H (by omega), Option.bind_some]
  show (if lk t n (skp t n r0) = 124 then _ else _) = _
  rw [if_pos k, mf_g10 H, Option.bind_some, mf_p10 H, Option.bind_some, nI_1]
  congr 1
  funext z
  obtain ⟨x, h⟩ := z
  show (if v = 0 then (if x = 0 then fX13_condition_L7 rc F h 54 0 else fX13_condition_L7 rc F h 54 1) else fX13_condition_L7 rc F h 54 1) = fX13_condition_L7 rc F h 54 (orO o v x)
  unfold orO
  by_cases c1 : v = 0
  · rw [if_pos c1, if_pos c1]
    by_cases c2 : x = 0
    · rw [if_pos c2, if_pos c2]
    · rw [if_neg c2, if_neg c2]
  · rw [if_neg c1, if_neg c1]
theorem M_part17 (H : Tm q b n t g) (hn : n ≤ 160) {rc : eg_H → Nat → Option (Int32 × eg_H)} {un : Nat → eg_PR} {dep : Nat} (hu : ∀ i, i ≤ n → Mlive t n env g q01 q01 (fun h => rc h 54) dep i (un i)) (hok : ∀ i, i ≤ n → pOk t n i (un i))
    {r1 : eg_H → Option (Int32 × eg_H)} {i i0 : Nat} {r : eg_PR} (h1 : Mlive t n env g q01 q01 r1 dep i r) (hr : pOk t n i0 r) : Mlive t n env g q01 q01 (fun h => (r1 h).bind fun z => fX13_part_j17 rc z.2 54 z.1) dep i (pB r (pL t n opA un 161)) := by
  have z := M_chk (M_lp (L := fun F h v => fX13_part_L18 rc F h 54 v) (nr := fun h => rc h 54) (op' := orA) rfl hn h1 hr (MA_dead H rc) (MA_none H hn rc) (MA_go H hn rc) (fun _ _ _ _ _ _ _ => orA_q _ _ _) (fun o s v x => orA_eq) (fun j hj _ => hu j hj) (fun j hj _ => hok j hj))
  refine Ml_cg z (fun a f d => ?_)
  show _ = ((r1 (mf g a f d)).bind _).bind _
  rw [Option.bind_assoc]
  rfl
theorem M_part (H : Tm q b n t g) (hn : n ≤ 160) {rc : eg_H → Nat → Option (Int32 × eg_H)} {un : Nat → eg_PR} {dep : Nat} (hu : ∀ i, i ≤ n → Mlive t n env g q01 q01 (fun h => rc h 54) dep i (un i)) (hok : ∀ i, i ≤ n → pOk t n i (un i)) (i : Nat) (hi : i ≤ n) : Mlive t n env g q01 q01 (fun h => fX13_part rc h 54 0 0) dep i (pB (un i) (pL t n opA un 161)) := by
  refine Ml_cg (M_part17 H hn hu hok (hu i hi) (hok i hi)) (fun a f d => ?_)
  unfold fX13_part
  rw [if_pos (iO_54 (mf_stt H _ _ _)), if_pos rfl, if_pos (iO_54 (mf_stt H _ _ _))]
theorem M_condL (H : Tm q b n t g) (hn : n ≤ 160) {rc : eg_H → Nat → Option (Int32 × eg_H)} {un : Nat → eg_PR} {dep : Nat} (hu : ∀ i, i ≤ n → Mlive t n env g q01 q01 (fun h => rc h 54) dep i (un i)) (hok : ∀ i, i ≤ n → pOk t n i (un i))
    {r1 : eg_H → Option (Int32 × eg_H)} {i i0 : Nat} {r : eg_PR} (h1 : Mlive t n env g q01 q01 r1 dep i r) (hr : pOk t n i0 r) {cd : eg_H → Option (Int32 × eg_H)}
    (hc : ∀ a f d, cd (mf g a f d) = ((r1 (mf g a f d)).bind fun z => fX13_part_j17 rc z.2 54 z.1).bind fun z => (fX13_condition_L7 rc eg_F z.2 54 z.1).bind fun e => match e with
      | (v6, h7) => if v6 = 0 ∨ v6 = 1 then some (v6, h7) else none) : Mlive t n env g q01 q01 cd dep i (pCondF t n un r) := by
  have hT : ∀ i r, pOk t n i r → pOk t n i (pB r (pL t n opA un 161)) := fun i r h => pOk_B h (fun q _ q1 q2 q3 => pOk_L rfl (fun j hj _ => hok j hj) 161 q i q1 q2 q3)
  have z := M_chk (M_lp (L := fun F h v => fX13_condition_L7 rc F h 54 v) (nr := fun h => fX13_part rc h 54 0 0) (op' := orO) rfl hn (M_part17 H hn hu hok h1 hr) (hT i0 r hr) (MO_dead H rc) (MO_none H hn rc) (MO_go H hn rc) (fun _ _ _ _ _ _ _ => orO_q _ _ _) (fun o s v x => orO_eq) (fun j hj _ => M_part H hn hu hok j hj) (fun j hj _ => hT j _ (hok j hj)))
  refine Ml_cg z (fun a f d => ?_)
  rw [hc]
  show _ = (((r1 (mf g a f d)).bind _).bind _).bind _
  rw [Option.bind_assoc]
  rw [Option.bind_assoc, Option.bind_assoc]
theorem M_cond (H : Tm q b n t g) (hn : n ≤ 160) {rc : eg_H → Nat → Option (Int32 × eg_H)} {un : Nat → eg_PR} {dep : Nat} (hu : ∀ i, i ≤ n → Mlive t n env g q01 q01 (fun h => rc h 54) dep i (un i)) (hok : ∀ i, i ≤ n → pOk t n i (un i)) {i : Nat} (hi : i ≤ n) : Mlive t n env g q01 q01 (fun h => fX13_condition rc h 54 0 0) dep i (pCondF t n un (un i)) := by
  refine M_condL H hn hu hok (hu i hi) (hok i hi) (fun a f d => ?_)
  unfold fX13_condition fX13_part
  rw [if_pos (iO_54 (mf_stt H _ _ _)), if_pos (iO_54 (mf_stt H _ _ _)), if_pos rfl, if_pos (iO_54 (mf_stt H _ _ _))]
theorem M_unitB (H : Tm q b n t g) (hn : n ≤ 160) (hl : ∀ l, l < 5 → eg_I g 58 (cd5 l) = env l) {rc : eg_H → Nat → Option (Int32 × eg_H)} {dep d : Nat} (hd : dep + d = 6) {no pa : Nat → eg_PR}
    (hno : ∀ i, i < n → skp t n i = i → ∃ v a f d', ((fX13_goesIn (mf g (nI i) (-1) (nI dep)) 54).bind fun ⟨v6, h5⟩ => if v6 = 0 then some ((0 : Int32), h5) else if eg_isO h5 13 54 then ((rc h5 54).bind fun ⟨v10, h9⟩ => (eg_gI h9 13 12 54).bind fun v13 => (eg_pI h9 13 12 54 (v13 - (1 : Int32))).bind fun h15 => if v10 = 0 then some ((1 : Int32), h15) else some ((0 : Int32), h15)) else none) = some (v, mf g a f d') ∧ oM t n env q01 q01 dep (no i) v a f d')
    (hpa : ∀ i, i < n → skp t n i = i → ∃ v a f d', ((fX13_goesIn (mf g (nI i) (-1) (nI dep)) 54).bind fun ⟨v20, h19⟩ => if v20 = 0 then some ((0 : Int32), h19) else (fX13_condition rc h19 54 (0 : Int32) (0 : Int32)).bind fun ⟨v24, h23⟩ => (fX13_takes h23 54 (41 : Int32)).bind fun ⟨v27, h26⟩ => if v27 = 0 then some ((0 : Int32), h26) else (eg_gI h26 13 12 54).bind fun v30 => (eg_pI h26 13 12 54 (v30 - (1 : Int32))).bind fun h32 => if v24 = 0 ∨ v24 = 1 then some (v24, h32) else none) = some (v, mf g a f d') ∧ oM t n env q01 q01 dep (pa i) v a f d')
    (i : Nat) (hi : i ≤ n) : Mlive t n env g q01 q01 (fun h => fX13_unitB rc h 54) dep i (pUnitB t n d no pa i) := by
  intro r0 hr0 hsk
  have hii : skp t n i = i := by rw [← hsk, skp_id]
  show ∃ v a f d, fX13_unitB rc _ _ = _ ∧ _
  unfold fX13_unitB
  rw [if_pos (iO_54 (mf_stt H _ _ _)), mf_look H (by omega), Option.bind_some, hsk]
  show ∃ v a f d, (if lk t n i = 33 then _ else if lk t n i = 40 then _ else _) = _ ∧ _
  unfold pUnitB
  by_cases c1 : sg t n i = 33
  · rw [if_pos c1, if_pos ((lk_c (by decide) (by decide)).mpr c1)]
    exact hno i (sg_n c1 (by decide)) hii
  · rw [if_neg c1, if_neg (fun w => c1 ((lk_c (by decide) (by decide)).mp w))]
    by_cases c2 : sg t n i = 40
    · rw [if_pos c2, if_pos ((lk_c (by decide) (by decide)).mpr c2)]
      exact hpa i (sg_n c2 (by decide)) hii
    · rw [if_neg c2, if_neg (fun w => c2 ((lk_c (by decide) (by decide)).mp w))]
      exact M_chk (M_cmp0 H hn hl hd hi) i hi hii
theorem M_unit (H : Tm q b n t g) (hn : n ≤ 160) (hl : ∀ l, l < 5 → eg_I g 58 (cd5 l) = env l) : ∀ d m dep i, dep + d = 6 → d < m → i ≤ n → Mlive t n env g q01 q01 (fun h => fX13_unit m h 54) dep i (pUnit t n d i) := by
  intro d
  induction d with
  | zero =>
    intro m dep i h1 h2 hi
    obtain ⟨m, rfl⟩ : ∃ m', m = m' + 1 := ⟨m - 1, by omega⟩
    obtain rfl : dep = 6 := by omega
    refine M_unitB H hn hl rfl (fun j hj _ => ?_) (fun j hj _ => ?_) i hi
    · rw [mf_in6 H, Option.bind_some]
      exact ⟨0, _, _, _, rfl, Or.inl rfl, rfl, by omega⟩
    · rw [mf_in6 H, Option.bind_some]
      exact ⟨0, _, _, _, rfl, Or.inl rfl, rfl, by omega⟩
  | succ d ih =>
    intro m dep i h1 h2 hi
    obtain ⟨m, rfl⟩ : ∃ m', m = m' + 1 := ⟨m - 1, by omega⟩
    refine M_unitB H hn hl h1 (fun j hj _ => ?_) (fun j hj _ => ?_) i hi
    · have hle := skp_le t n (j + 1) hj
      obtain ⟨v, a, f, d', e, o0, o1⟩ := ih m (dep + 1) (skp t n (j + 1)) (by omega) (by omega) hle (j + 1) hj rfl
      have e' : fX13_unit m (mf g (nI (j + 1)) (-1) (nI (dep + 1))) 54 = some (v, mf g a f d') := e
      rw [mf_in H (by omega), Option.bind_some]
      show ∃ v a f d', (if (1 : Int32) = 0 then _ else _) = _ ∧ _
      rw [if_neg (by decide), if_pos (iO_54 (mf_stt H _ _ _)), e', Option.bind_some]
      show ∃ v' a' f' d'', ((eg_gI (mf g a f d') 13 12 54).bind fun v13 => (eg_pI (mf g a f d') 13 12 54 (v13 - 1)).bind fun h15 => if v = 0 then some ((1 : Int32), h15) else some (0, h15)) = _ ∧ _
      rw [mf_g12 H, Option.bind_some, mf_p12 H, Option.bind_some]
      have e2 : (if v = 0 then some ((1 : Int32), mf g a f (d' - 1)) else some (0, mf g a f (d' - 1))) = some (1 - v, mf g a f (d' - 1)) := by
        rcases o0 with rfl | rfl <;> rfl
      rw [e2]
      refine ⟨_, _, _, _, rfl, ?_, ?_⟩
      · rcases o0 with rfl | rfl
        · exact Or.inr rfl
        · exact Or.inl rfl
      · cases hr : pUnit t n d (skp t n (j + 1)) with
        | inl e => rw [hr] at o1; exact o1
        | inr w =>
          rw [hr] at o1
          obtain ⟨u1, u2, u3, r1, u4, u5, u6⟩ := o1
          refine ⟨u1, by rw [u2, nI_m1], fun hb => ?_, r1, u4, u5, u6⟩
          obtain ⟨z1, z2⟩ := u3 hb
          refine ⟨by rw [z1], ?_⟩
          show q01 (1 - w.2.2 env)
          rcases z2 with z | z
          · rw [z]; exact Or.inr rfl
          · rw [z]; exact Or.inl rfl
    · have hle := skp_le t n (j + 1) hj
      obtain ⟨v, a, f, d', e, o0, o1⟩ := M_cond H hn (rc := fX13_unit m) (un := pUnit t n d) (dep := dep + 1) (fun i hi => ih m (dep + 1) i (by omega) (by omega) hi) (fun i hi => pOk_unit d i hi) hle (j + 1) hj rfl
      have e' : fX13_condition (fX13_unit m) (mf g (nI (j + 1)) (-1) (nI (dep + 1))) 54 0 0 = some (v, mf g a f d') := e
      have ok : pOk t n (skp t n (j + 1)) (pCondF t n (pUnit t n d) (pUnit t n d (skp t n (j + 1)))) := pOk_condF (fun i hi => pOk_unit d i hi) (pOk_unit d _ hle)
      rw [mf_in H (by omega), Option.bind_some]
      show ∃ v a f d', (if (1 : Int32) = 0 then _ else _) = _ ∧ _
      rw [if_neg (by decide), e', Option.bind_some]
      show ∃ v' a' f' d'', ((fX13_takes (mf g a f d') 54 41).bind _) = _ ∧ _
      cases hr : pCondF t n (pUnit t n d) (pUnit t n d (skp t n (j + 1))) with
      | inl e =>
        rw [hr] at o1
        obtain ⟨u1, u2⟩ := o1
        rw [mf_takesD H (by rw [u1]; exact nI_nm1 (by omega)), Option.bind_some]
        exact ⟨0, _, _, _, rfl, Or.inl rfl, u1, u2⟩
      | inr w =>
        rw [hr] at o1 ok
        obtain ⟨u1, u2, u3, r1, u4, u5, u6⟩ := o1
        obtain ⟨k1, k2, k3⟩ := ok
        subst u1; subst u2; subst u4
        rw [mf_takes H (by omega), Option.bind_some, u6]
        rw [show pB (.inr w) (fun q => pN t n 41 q fun j => .inr (j, q.2)) = pN t n 41 w (fun j => .inr (j, w.2)) from rfl]
        unfold pN
        by_cases c : sg t n w.1 = 41
        · have hlt := sg_n c (by decide)
          rw [if_pos c, if_pos ((lk_c (by decide) (by decide)).mpr c)]
          show ∃ v' a f d, (if (1 : Int32) = 0 then _ else _) = _ ∧ _
          rw [if_neg (by decide), mf_g12 H, Option.bind_some, mf_p12 H, Option.bind_some, nI_m1]
          exact ⟨v, _, _, _, if_pos o0, o0, rfl, rfl, u3, w.1 + 1, rfl, hlt, rfl⟩
        · rw [if_neg c, if_neg (fun z => c ((lk_c (by decide) (by decide)).mp z))]
          exact ⟨0, _, _, _, rfl, Or.inl rfl, rfl, k2⟩
end MU
