def B6 (v : Int32) : Prop := -1000000 ≤ v.toInt ∧ v.toInt ≤ 1000000
def cl (z : Int) : Int := if 1000000 < z then 1000000 else if -1000000 ≤ z then z else -1000000
def wi (z : Int64) : Int32 := (eg_maxL (-1000000 : Int64) (eg_minL (1000000 : Int64) z)).toInt32
theorem cl_b (z : Int) : -1000000 ≤ cl z ∧ cl z ≤ 1000000 := by unfold cl; split <;> (try split) <;> omega
theorem m6 : (-1000000 : Int64) = jI (-1000000) := by decide
theorem cl6_j {z : Int} (hz : i6 z) : cl6 (jI z) = iI (cl z) := by
  unfold cl6 cl
  by_cases h1 : 1000000 < z
  · rw [if_pos (show (1000000 : Int64) < jI z from (jI_lt (a := 1000000) (by unfold i6; omega) hz).mpr h1), if_pos h1]; rfl
  · rw [if_neg (fun w : (1000000 : Int64) < jI z => h1 ((jI_lt (a := 1000000) (by unfold i6; omega) hz).mp w)), if_neg h1]
    by_cases h2 : -1000000 ≤ z
    · rw [if_pos (show (-1000000 : Int64) ≤ jI z from (jI_le (a := -1000000) (by unfold i6; omega) hz).mpr h2), if_pos h2, jI_w (by unfold i3; omega)]
    · rw [if_neg (fun w : (-1000000 : Int64) ≤ jI z => h2 ((jI_le (a := -1000000) (by unfold i6; omega) hz).mp w)), if_neg h2]; rfl
theorem wi_j {z : Int} (hz : i6 z) : wi (jI z) = iI (cl z) := by
  unfold wi cl eg_maxL eg_minL
  by_cases h1 : 1000000 < z
  · rw [if_neg (fun w : jI z < (1000000 : Int64) => by have := (jI_lt (b := 1000000) hz (by unfold i6; omega)).mp w; omega), if_neg (show ¬ (1000000 : Int64) < -1000000 by decide), if_pos h1]; rfl
  · rw [if_neg h1]
    by_cases h3 : z = 1000000
    · subst h3; rfl
    · rw [if_pos (show jI z < (1000000 : Int64) from (jI_lt (b := 1000000) hz (by unfold i6; omega)).mpr (by omega))]
      by_cases h2 : -1000000 ≤ z
      · rw [if_neg (fun w : jI z < (-1000000 : Int64) => by rw [m6] at w; have := (jI_lt (b := -1000000) hz (by unfold i6; omega)).mp w; omega), if_pos h2, jI_w (by unfold i3; omega)]
      · rw [if_pos (show jI z < (-1000000 : Int64) from by rw [m6]; exact (jI_lt (b := -1000000) hz (by unfold i6; omega)).mpr (by omega)), if_neg h2]; rfl
theorem B6_i {v : Int32} (h : B6 v) : ∃ z : Int, -1000000 ≤ z ∧ z ≤ 1000000 ∧ v = iI z := ⟨v.toInt, h.1, h.2, (iI_o v).symm⟩
theorem B6_cl (z : Int) : B6 (iI (cl z)) := by
  have := cl_b z
  unfold B6
  rw [iI_t (by unfold i3; omega)]
  exact this
def orS (o v x : Int32) : Int32 := if o = -6 then wi (v.toInt64 + x.toInt64) else wi (v.toInt64 - x.toInt64)
def orT (o v x : Int32) : Int32 := if o = -8 then wi (v.toInt64 * x.toInt64) else if x.toInt64 = 0 then wi 0 else wi (v.toInt64 / x.toInt64)
theorem orS_eq {o s v x : Int32} (ho : opS s = some o) (hv : B6 v) (hx : B6 x) : orS o v x = opV o v x ∧ B6 (opV o v x) := by
  obtain ⟨a, a1, a2, rfl⟩ := B6_i hv
  obtain ⟨c, c1, c2, rfl⟩ := B6_i hx
  have ia : i3 a := by unfold i3; omega
  have ic : i3 c := by unfold i3; omega
  have ho' : o = -6 ∨ o = -7 := by
    unfold opS at ho
    by_cases h1 : s = 43
    · rw [if_pos h1] at ho; cases ho; exact Or.inl rfl
    · rw [if_neg h1] at ho
      by_cases h2 : s = 45
      · rw [if_pos h2] at ho; cases ho; exact Or.inr rfl
      · rw [if_neg h2] at ho; cases ho
  rcases ho' with rfl | rfl
  · have e : opV (-6) (iI a) (iI c) = iI (cl (a + c)) := by
      unfold opV
      rw [if_pos rfl, iI_add, iI_w (by unfold i3; omega), cl6_j (by unfold i6; omega)]
    unfold orS
    rw [if_pos rfl, e, iI_w ia, iI_w ic, jI_add, wi_j (by unfold i6; omega)]
    exact ⟨rfl, B6_cl _⟩
  · have e : opV (-7) (iI a) (iI c) = iI (cl (a - c)) := by
      unfold opV
      rw [if_neg (by decide), if_pos rfl, iI_sub, iI_w (by unfold i3; omega), cl6_j (by unfold i6; omega)]
    unfold orS
    rw [if_neg (by decide), e, iI_w ia, iI_w ic, jI_sub, wi_j (by unfold i6; omega)]
    exact ⟨rfl, B6_cl _⟩
theorem mul_6 {a c : Int} (a1 : -1000000 ≤ a) (a2 : a ≤ 1000000) (c1 : -1000000 ≤ c) (c2 : c ≤ 1000000) : -1000000000000 ≤ a * c ∧ a * c ≤ 1000000000000 := by
  have h1 : (a * c).natAbs ≤ 1000000 * 1000000 := by
    rw [Int.natAbs_mul]
    exact Nat.mul_le_mul (by omega) (by omega)
  omega
theorem orT_eq {o s v x : Int32} (ho : opT s = some o) (hv : B6 v) (hx : B6 x) : orT o v x = opV o v x ∧ B6 (opV o v x) := by
  obtain ⟨a, a1, a2, rfl⟩ := B6_i hv
  obtain ⟨c, c1, c2, rfl⟩ := B6_i hx
  have ia : i3 a := by unfold i3; omega
  have ic : i3 c := by unfold i3; omega
  have ho' : o = -8 ∨ o = -9 := by
    unfold opT at ho
    by_cases h1 : s = 42
    · rw [if_pos h1] at ho; cases ho; exact Or.inl rfl
    · rw [if_neg h1] at ho
      by_cases h2 : s = 47
      · rw [if_pos h2] at ho; cases ho; exact Or.inr rfl
      · rw [if_neg h2] at ho; cases ho
  rcases ho' with rfl | rfl
  · have hm := mul_6 a1 a2 c1 c2
    have e : opV (-8) (iI a) (iI c) = iI (cl (a * c)) := by
      unfold opV
      rw [if_neg (by decide), if_neg (by decide), if_pos (Or.inl rfl), iI_w ia, iI_w ic, jI_mul, cl6_j (by unfold i6; omega)]
    unfold orT
    rw [if_pos rfl, e, iI_w ia, iI_w ic, jI_mul, wi_j (by unfold i6; omega)]
    exact ⟨rfl, B6_cl _⟩
  · by_cases h0 : c = 0
    · subst h0
      have e : opV (-9) (iI a) (iI 0) = 0 := by
        unfold opV
        rw [if_neg (by decide), if_neg (by decide), if_neg (by decide), if_pos rfl, if_pos (show iI 0 = 0 by decide)]
      unfold orT
      rw [if_neg (by decide), e, if_pos (by decide)]
      exact ⟨by decide, by unfold B6; decide⟩
    · have hd := td_b (a := a) (b := c) (M := 1000000) ⟨a1, a2⟩
      have id : i3 (a.tdiv c) := by unfold i3; omega
      have e : opV (-9) (iI a) (iI c) = iI (cl (a.tdiv c)) := by
        unfold opV
        rw [if_neg (by decide), if_neg (by decide), if_neg (by decide), if_pos rfl, if_neg (fun w : iI c = 0 => h0 ((iI_eq (b := 0) ic (by unfold i3; omega)).mp w)), iI_div ia ic id, iI_w id, cl6_j (by unfold i6; omega)]
      unfold orT
      rw [if_neg (by decide), e, iI_w ia, iI_w ic, if_neg (fun w : jI c = 0 => h0 ((jI_eq (b := 0) (by unfold i6; omega) (by unfold i6; omega)).mp w)), jI_div (by unfold i6; omega) (by unfold i6; omega) (by unfold i6; omega), wi_j (by unfold i6; omega)]
      exact ⟨rfl, B6_cl _⟩
theorem dg_c {s : Int32} (h : dg s) : ∃ c, c ≤ 9 ∧ s = nI (48 + c) := by
  have h1 : ¬ s.toInt < 48 := fun w => h.1 (Int32.lt_iff_toInt_lt.mpr w)
  have h2 : ¬ 57 < s.toInt := fun w => h.2 (Int32.lt_iff_toInt_lt.mpr w)
  refine ⟨s.toInt.toNat - 48, by omega, ?_⟩
  rw [← iI_n, ← iI_o s]
  congr 1
  rw [iI_o]
  omega
theorem nv_b (t : Nat → Int32) (n : Nat) : ∀ m i k, ∃ k', nvF t n m i (nI k) = nI k' ∧ k' + 1 ≤ (k + 1) * 10 ^ m := by
  intro m
  induction m with
  | zero => intro i k; exact ⟨k, rfl, by simp⟩
  | succ m ih =>
    intro i k
    unfold nvF
    by_cases hd : dg (sg t n i)
    · obtain ⟨c, c1, c2⟩ := dg_c hd
      have e : (10 : Int32) * nI k + sg t n i - 48 = nI (10 * k + c) := by
        rw [c2, ← iI_n, ← iI_n, ← iI_n, show (10 : Int32) = iI 10 from rfl, show (48 : Int32) = iI 48 from rfl, iI_mul, iI_add, iI_sub]
        congr 1
        omega
      rw [if_pos hd, e]
      obtain ⟨k', e1, e2⟩ := ih (i + 1) (10 * k + c)
      refine ⟨k', e1, Nat.le_trans e2 ?_⟩
      rw [Nat.pow_succ, Nat.mul_comm (10 ^ m) 10, ← Nat.mul_assoc]
      exact Nat.mul_le_mul_right _ (by omega)
    · rw [if_neg hd]
      refine ⟨k, rfl, ?_⟩
      have : 1 ≤ 10 ^ (m + 1) := Nat.pos_of_ne_zero (by simp)
      exact Nat.le_mul_of_pos_right _ this
theorem nv_4 (t : Nat → Int32) (n i : Nat) : ∃ k, nvF t n 4 i 0 = nI k ∧ k ≤ 9999 := by
  obtain ⟨k, e, h⟩ := nv_b t n 4 i 0
  exact ⟨k, e, by have : (0 + 1) * 10 ^ 4 = 10000 := rfl; omega⟩
theorem am_6 (h : eg_H) (s : Int32) : fX13_isAmong h 6 s = some (if (lt5 s).isSome = true then 1 else 0, h) := by
  have l : eg_slen 6 = some 5 := by decide
  have s0 : eg_sat 6 0 = some 100 := by decide
  have s1 : eg_sat 6 1 = some 98 := by decide
  have s2 : eg_sat 6 2 = some 97 := by decide
  have s3 : eg_sat 6 3 = some 119 := by decide
  have s4 : eg_sat 6 4 = some 114 := by decide
  unfold fX13_isAmong lt5
  rw [eg_F_eq, fX13_isAmong_L2, l, Option.bind_some, if_neg (by decide), s0, Option.bind_some]
  by_cases c0 : s = 100
  · rw [if_pos c0.symm, if_pos c0]; rfl
  · rw [if_neg (fun w => c0 w.symm), if_neg c0, fX13_isAmong_L2, l, Option.bind_some, if_neg (by decide), show (0 : Int32) + 1 = 1 from rfl, s1, Option.bind_some]
    by_cases c1 : s = 98
    · rw [if_pos c1.symm, if_pos c1]; rfl
    · rw [if_neg (fun w => c1 w.symm), if_neg c1, fX13_isAmong_L2, l, Option.bind_some, if_neg (by decide), show (1 : Int32) + 1 = 2 from rfl, s2, Option.bind_some]
      by_cases c2 : s = 97
      · rw [if_pos c2.symm, if_pos c2]; rfl
      · rw [if_neg (fun w => c2 w.symm), if_neg c2, fX13_isAmong_L2, l, Option.bind_some, if_neg (by decide), show (2 : Int32) + 1 = 3 from rfl, s3, Option.bind_some]
        by_cases c3 : s = 119
        · rw [if_pos c3.symm, if_pos c3]; rfl
        · rw [if_neg (fun w => c3 w.symm), if_neg c3, fX13_isAmong_L2, l, Option.bind_some, if_neg (by decide), show (3 : Int32) + 1 = 4 from rfl, s4, Option.bind_some]
          by_cases c4 : s = 114
          · rw [if_pos c4.symm, if_pos c4]; rfl
          · rw [if_neg (fun w => c4 w.symm), if_neg c4, fX13_isAmong_L2, l, Option.bind_some, if_pos (by decide)]; rfl
theorem am_5 (h : eg_H) (s : Int32) : fX13_isAmong h 5 s = some (if s = 121 then 1 else 0, h) := by
  have l : eg_slen 5 = some 1 := by decide
  have s0 : eg_sat 5 0 = some 121 := by decide
  unfold fX13_isAmong
  rw [eg_F_eq, fX13_isAmong_L2, l, Option.bind_some, if_neg (by decide), s0, Option.bind_some]
  by_cases c0 : s = 121
  · rw [if_pos c0.symm, if_pos c0]; rfl
  · rw [if_neg (fun w => c0 w.symm), if_neg c0, fX13_isAmong_L2, l, Option.bind_some, if_pos (by decide)]; rfl
theorem dg_no {s : Int32} (h : dg s) : lt5 s = none ∧ ¬ s = 91 := by
  have k : ∀ c : Int32, 57 < c → ¬ s = c := fun c hc e => h.2 (by rw [e]; exact hc)
  refine ⟨?_, k 91 (by decide)⟩
  unfold lt5
  rw [if_neg (k 100 (by decide)), if_neg (k 98 (by decide)), if_neg (k 97 (by decide)), if_neg (k 119 (by decide)), if_neg (k 114 (by decide))]
theorem dg_8 : ∀ c, c ≤ 9 → (nI (48 + c)).toInt8.toInt32 = nI (48 + c) := by decide
theorem lt5_c {s : Int32} {l : Nat} (h : lt5 s = some l) : l < 5 ∧ s = nI (cd5 l) ∧ ¬ s = 0 := by
  unfold lt5 at h
  by_cases c0 : s = 100
  · rw [if_pos c0] at h; cases h; subst c0; decide
  · rw [if_neg c0] at h
    by_cases c1 : s = 98
    · rw [if_pos c1] at h; cases h; subst c1; decide
    · rw [if_neg c1] at h
      by_cases c2 : s = 97
      · rw [if_pos c2] at h; cases h; subst c2; decide
      · rw [if_neg c2] at h
        by_cases c3 : s = 119
        · rw [if_pos c3] at h; cases h; subst c3; decide
        · rw [if_neg c3] at h
          by_cases c4 : s = 114
          · rw [if_pos c4] at h; cases h; subst c4; decide
          · rw [if_neg c4] at h; cases h
def tQ (_ : Int32) : Prop := True
section MS
variable {q b n : Nat} {t env : Nat → Int32} {g : eg_H}
theorem M_num_L (H : Tm q b n t g) (hn : n ≤ 160) (rc : eg_H → Nat → Option (Int32 × eg_H)) {d : Int32} : ∀ j k m i v, k + j = 4 → j < m → i ≤ n → fX13_atom_L90 rc m (mf g (nI i) (-1) d) 54 v (nI k) = some (if dg (sg t n (i + ndF t n j i)) then .inr (54, mf g (nI (i + ndF t n j i)) (-1) d) else .inl (nvF t n j i v, mf g (nI (i + ndF t n j i)) (-1) d)) := by
  intro j
  induction j with
  | zero =>
    intro k m i v hk hm hi
    obtain ⟨m, rfl⟩ : ∃ m', m = m' + 1 := ⟨m - 1, by omega⟩
    obtain rfl : k = 4 := by omega
    rw [fX13_atom_L90, mf_dig H (by omega), Option.bind_some]
    show (if (if dg (sg t n i) then (1 : Int32) else 0) = 0 then _ else _) = some (if dg (sg t n i) then _ else _)
    by_cases hd : dg (sg t n i)
    · rw [if_pos hd, if_pos hd, if_neg (by decide), mf_g11 H, Option.bind_some, if_pos rfl, if_pos (by decide)]
      rfl
    · rw [if_neg hd, if_neg hd, if_pos rfl]
      rfl
  | succ j ih =>
    intro k m i v hk hm hi
    obtain ⟨m, rfl⟩ : ∃ m', m = m' + 1 := ⟨m - 1, by omega⟩
    rw [fX13_atom_L90, mf_dig H (by omega), Option.bind_some]
    show (if (if dg (sg t n i) then (1 : Int32) else 0) = 0 then _ else _) = _
    unfold ndF nvF
    by_cases hd : dg (sg t n i)
    · have hlt := sg_lt hd
      have hsg : sg t n i = t i := if_pos hlt
      have H1 := Tm_mfi (nI i) (-1) (Tm_12 H d)
      have ea : eg_aI (mf g (nI i) (-1) d) 102 q (nI b + nI i) = some (sg t n i) := by
        refine (M_at H1 hlt).trans ?_
        obtain ⟨c, c1, c2⟩ := dg_c hd
        rw [hsg] at c2 ⊢
        rw [c2, dg_8 c c1]
      have hP : eg_P (mf g (nI i) (-1) d) 54 5 = some q := H.2.2.1
      have h8 : eg_I (mf g (nI i) (-1) d) 54 8 = nI b := H1.2.2.2.1
      have hs' := mf_stt H (nI i) (-1) d
      rw [if_pos hd, if_pos hd, if_pos hd, if_neg (by decide), mf_g11 H, Option.bind_some, if_pos rfl, if_neg (fun w : nI k = 4 => by have := (nI_eq (b := 4) (by omega) (by decide)).mp w; omega), gR_54 hs', hP, Option.bind_some, gI_54 hs', h8, Option.bind_some, mf_g10 H, Option.bind_some, ea, Option.bind_some, Option.bind_some, Option.bind_some, mf_p10 H, Option.bind_some, nI_1, nI_1, ih (k + 1) m (i + 1) _ (by omega) (by omega) hlt, show i + 1 + ndF t n j (i + 1) = i + (ndF t n j (i + 1) + 1) by omega]
    · rw [if_neg hd, if_neg hd, if_neg hd, if_pos rfl, Nat.add_zero, if_neg hd]
def M_br (rc : eg_H → Nat → Option (Int32 × eg_H)) (h : eg_H) : Option (Int32 × eg_H) := (fX13_goesIn h 54).bind fun z => if z.1 = 0 then some (0, z.2) else if eg_isO z.2 13 54 then ((rc z.2 54).bind fun y => (fX13_takes y.2 54 93).bind fun x => if x.1 = 0 then some (0, x.2) else (eg_gI x.2 13 12 54).bind fun v => (eg_pI x.2 13 12 54 (v - 1)).bind fun h => some (y.1, h)) else none
theorem mf_in (H : Tm q b n t g) {i dep : Nat} (hd : dep < 6) : fX13_goesIn (mf g (nI i) (-1) (nI dep)) 54 = some (1, mf g (nI (i + 1)) (-1) (nI (dep + 1))) := by
  unfold fX13_goesIn
  rw [if_pos (iO_54 (mf_stt H _ _ _)), mf_g12 H, Option.bind_some, if_neg (fun w : nI dep = 6 => by have := (nI_eq (b := 6) (by omega) (by decide)).mp w; omega), Option.bind_some, mf_p12 H, Option.bind_some, mf_g10 H, Option.bind_some, mf_p10 H, Option.bind_some, nI_1, nI_1]
theorem mf_in6 (H : Tm q b n t g) {a : Int32} : fX13_goesIn (mf g a (-1) (nI 6)) 54 = some (0, mf g a a (nI 6)) := by
  unfold fX13_goesIn
  rw [if_pos (iO_54 (mf_stt H _ _ _)), mf_g12 H, Option.bind_some, if_pos (show nI 6 = 6 from rfl), mf_fails H, Option.bind_some, if_pos rfl]
  rfl
theorem M_atom (H : Tm q b n t g) (hn : n ≤ 160) (hl : ∀ l, l < 5 → eg_I g 58 (cd5 l) = env l) (rc : eg_H → Nat → Option (Int32 × eg_H)) {dep : Nat} {br : Nat → eg_PR}
    (hb : ∀ i, i < n → skp t n i = i → ∃ v a f d, M_br rc (mf g (nI i) (-1) (nI dep)) = some (v, mf g a f d) ∧ oM t n env tQ B6 dep (br i) v a f d) (i : Nat) : Mlive t n env g tQ B6 (fun h => fX13_atom rc h 54) dep i (pAtom t n br i) := by
  intro r0 hr0 hsk
  have hin : i ≤ n := by rw [← hsk]; exact skp_le t n _ hr0
  have hii : skp t n i = i := by rw [← hsk, skp_id]
  show ∃ v a f d, fX13_atom rc _ _ = _ ∧ _
  unfold fX13_atom
  rw [if_pos (iO_54 (mf_stt H _ _ _)), mf_look H (by omega), Option.bind_some, hsk]
  show ∃ v a f d, ((fX13_isAmong (mf g (nI i) (-1) (nI dep)) 6 (lk t n i)).bind _) = _ ∧ _
  rw [am_6, Option.bind_some]
  show ∃ v a f d, (if (if (lt5 (lk t n i)).isSome = true then (1 : Int32) else 0) = 0 then (if lk t n i = 91 then _ else _) else _) = _ ∧ _
  unfold pAtom
  by_cases hd : dg (sg t n i)
  · have hlk := sg_lk hd
    obtain ⟨k1, k2⟩ := dg_no hd
    have hlt := sg_lt hd
    rw [if_pos hd, hlk, k1, if_pos (show (if (none : Option Nat).isSome = true then (1 : Int32) else 0) = 0 from rfl), if_neg k2, mf_dig H (by omega), Option.bind_some, if_pos hd]
    show ∃ v a f d, (if (1 : Int32) = 0 then _ else _) = _ ∧ _
    rw [if_neg (by decide)]
    unfold fX13_atom_j86
    have e := M_num_L H hn rc (d := nI dep) 4 0 eg_F i 0 (by omega) (by rw [eg_F_eq]; omega) hin
    rw [nI_0] at e
    rw [e, Option.bind_some]
    have h4 : ¬ ndF t n 4 i = 0 := by
      unfold ndF
      rw [if_pos hd]; omega
    have hle := ndF_n t n 4 i hin
    obtain ⟨k, v1, v2⟩ := nv_4 t n i
    have hB : B6 (nvF t n 4 i 0) := by rw [v1, ← iI_n]; unfold B6; rw [iI_t (by unfold i3; omega)]; omega
    have hr : ¬ (nvF t n 4 i 0 < 0 ∨ 1000000 < nvF t n 4 i 0) := by
      rw [v1, ← iI_n]
      intro w
      rcases w with w | w
      · have := (iI_lt (b := 0) (show i3 (k : Int) by unfold i3; omega) (by unfold i3; omega)).mp w; omega
      · have := (iI_lt (a := 1000000) (by unfold i3; omega) (show i3 (k : Int) by unfold i3; omega)).mp w; omega
    unfold numE
    rw [if_neg h4]
    by_cases c1 : dg (sg t n (i + ndF t n 4 i))
    · rw [if_pos c1, if_pos c1]
      show ∃ v a f d, ((fX13_fails (mf g (nI (i + ndF t n 4 i)) (-1) (nI dep)) 54).bind _) = _ ∧ _
      rw [mf_fails H, Option.bind_some, if_pos rfl]
      exact ⟨0, _, _, _, rfl, trivial, rfl, hle⟩
    · rw [if_neg c1, if_neg c1, if_neg hr]
      exact ⟨_, _, _, _, rfl, trivial, rfl, rfl, fun _ => ⟨rfl, hB⟩, _, rfl, hle, rfl⟩
  · rw [if_neg hd]
    cases hl5 : lt5 (sg t n i) with
    | some l =>
      obtain ⟨l1, l2, l3⟩ := lt5_c hl5
      have hlt := sg_n rfl l3
      have hlk : lk t n i = sg t n i := by
        rcases lk_sg (t := t) (n := n) i with z | z
        · exact z.1
        · omega
      have hcd : cd5 l < 128 := by unfold cd5; split <;> (try split) <;> (try split) <;> (try split) <;> omega
      rw [hlk, hl5, if_neg (show ¬ (if (some l).isSome = true then (1 : Int32) else 0) = 0 from by show ¬ (1 : Int32) = 0; decide), mf_g10 H, Option.bind_some, mf_p10 H, Option.bind_some, gR_54 (mf_stt H _ _ _), rf_54_4 (mf_stt H _ _ _), Option.bind_some, l2, aI_58 (mf_stt H _ _ _) (nI_pos (by omega)) (by rw [nI_clamp (by omega)]; exact hcd), Option.bind_some, nI_clamp (by omega), nI_1]
      have hv : eg_I (mf g (nI (i + 1)) (-1) (nI dep)) 58 (cd5 l) = env l := by
        unfold mf
        rw [mfi_i _ _ _ (by omega), I_sI, if_neg (by omega), hl l l1]
      rw [hv]
      exact ⟨_, _, _, _, rfl, trivial, rfl, rfl, fun hb => ⟨rfl, hb l⟩, i + 1, rfl, hlt, rfl⟩
    | none =>
      have k1 : lt5 (lk t n i) = none := by
        rcases lk_sg (t := t) (n := n) i with z | z
        · rw [z.1]; exact hl5
        · rw [z.1]; rfl
      dsimp only
      rw [k1, if_pos (show (if (none : Option Nat).isSome = true then (1 : Int32) else 0) = 0 from rfl)]
      by_cases c91 : sg t n i = 91
      · have hlt := sg_n c91 (by decide)
        rw [if_pos c91, if_pos ((lk_c (by decide) (by decide)).mpr c91)]
        obtain ⟨v, a, f, d, e, o⟩ := hb i hlt hii
        exact ⟨v, a, f, d, e, o⟩
      · rw [if_neg c91, if_neg (fun w => c91 ((lk_c (by decide) (by decide)).mp w)), mf_dig H (by omega), Option.bind_some, if_neg hd]
        show ∃ v a f d, (if (0 : Int32) = 0 then _ else _) = _ ∧ _
        rw [if_pos rfl, mf_fails H, Option.bind_some, if_pos rfl]
        show ∃ v a f d, fX13_atom_j86 rc (mf g (nI i) (nI i) (nI dep)) 54 = _ ∧ _
        unfold fX13_atom_j86
        have e : fX13_atom_L90 rc eg_F (mf g (nI i) (nI i) (nI dep)) 54 0 0 = some (.inl (0, mf g (nI i) (nI i) (nI dep))) := by
          rw [eg_F_eq, fX13_atom_L90, mf_dig H (by omega), Option.bind_some, if_neg hd]
          rfl
        rw [e, Option.bind_some]
        exact ⟨0, _, _, _, rfl, trivial, rfl, hin⟩
end MS
