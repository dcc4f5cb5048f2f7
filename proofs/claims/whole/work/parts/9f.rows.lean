def rw4 (r : Nat → Int32) (n : Nat) (a b c d : Int32) : Nat → Int32 := fun k => if k = 4 * n then a else if k = 4 * n + 1 then b else if k = 4 * n + 2 then c else if k = 4 * n + 3 then d else r k
def st_row (σ : eg_S) (cnt row : Nat) (a b c d : Int32) : eg_S := (fun j => if j = cnt then σ.1 cnt + 1 else σ.1 j, fun q k => if q = row then rw4 (σ.2 row) (σ.1 cnt) a b c d k else σ.2 q k)
def SBk (p : Nat) : List (Nat × Option Nat) := [(p, some 2), (p + 1, none)]
theorem rw4_lo (r : Nat → Int32) (n : Nat) (a b c d : Int32) {k : Nat} (hk : k < 4 * n) : rw4 r n a b c d k = r k := by
  unfold rw4
  rw [if_neg (by omega), if_neg (by omega), if_neg (by omega), if_neg (by omega)]
theorem rw4_0 (r : Nat → Int32) (n : Nat) (a b c d : Int32) : rw4 r n a b c d (4 * n) = a ∧ rw4 r n a b c d (4 * n + 1) = b ∧ rw4 r n a b c d (4 * n + 2) = c ∧ rw4 r n a b c d (4 * n + 3) = d := by
  unfold rw4
  refine ⟨if_pos rfl, ?_, ?_, ?_⟩
  · rw [if_neg (by omega), if_pos rfl]
  · rw [if_neg (by omega), if_neg (by omega), if_pos rfl]
  · rw [if_neg (by omega), if_neg (by omega), if_neg (by omega), if_pos rfl]
section AD
variable {h : eg_H} {σ : eg_S} {B : Nat × Nat}
theorem X_isFull (hs : eg_stt h) {p : Nat} (hp : isB p) {m n : Nat} {r : Nat → Int32} (b : Bk h p m n r) (hm : m ≤ 40) (hn : n ≤ 40) : fX1_isFull h p = some (if n < m then 0 else 1, h) := by
  obtain ⟨o1, _, _⟩ := B_o hs hp
  unfold fX1_isFull
  rw [if_pos o1, show eg_gI h 1 2 p = some (eg_I h p 2) from if_pos o1, Option.bind_some, b.2.1, show eg_gI h 1 1 p = some (eg_I h p 1) from if_pos o1, Option.bind_some, b.1]
  by_cases c : n < m
  · rw [if_pos c, if_pos (nI_lt c (by omega))]
  · rw [if_neg c, if_neg (nI_nlt (by omega) (by omega))]
theorem X_add (hs : eg_stt h) {p : Nat} (hp : isB p) {m n : Nat} {r : Nat → Int32} (b : Bk h p m n r) (hm : 4 * m = (if p ≤ 30 then 80 else 160)) (hn : n < m) (x0 x1 x2 x3 : Int32) : ∃ h', fX1_add h p x0 x1 x2 x3 = some h' ∧ eg_eq (SBk p) h h' ∧ Bk h' p m (n + 1) (rw4 r n x0 x1 x2 x3) := by
  obtain ⟨o1, o2, o3⟩ := B_o hs hp
  rw [← hm] at o3
  have h160 : 4 * m ≤ 160 := by rw [hm]; split <;> omega
  have p16 : 16 ≤ p + 1 := by rcases hp with rfl | rfl | rfl | rfl <;> omega
  have wr : ∀ (g : eg_H), g.1 = h.1 → ∀ c, c < 4 → ∀ x, eg_wI g 100 (p + 1) (nI (4 * n + c)) x = some (eg_sI g (p + 1) (4 * n + c) x) := by
    intro g hg c hc x
    have hcl : (nI (4 * n + c)).toNatClampNeg = 4 * n + c := nI_clamp (by omega)
    have hk : eg_kd g (p + 1) = (100, 4 * m) := by unfold eg_kd; rw [hg]; exact o3
    unfold eg_wI
    rw [if_pos ⟨p16, by rw [hk], nI_pos (by omega), by rw [hk, hcl]; show 4 * n + c < 4 * m; omega⟩, hcl]
  have go : ∀ (g : eg_H), g.1 = h.1 → eg_isO g 1 p := fun g hg => ⟨o1.1, by unfold eg_kd; rw [hg]; exact o1.2⟩
  have gR : ∀ (g : eg_H), g.1 = h.1 → g.2.2.2 = h.2.2.2 → eg_gR g 1 0 p = some (p + 1) := fun g hg hp => by
    unfold eg_gR
    rw [if_pos (go g hg)]
    show g.2.2.2 p 0 = _
    rw [hp]; exact o2
  have gI : ∀ (g : eg_H), g.1 = h.1 → eg_I g p 2 = nI n → eg_gI g 1 2 p = some (nI n) := fun g hg hv => by
    unfold eg_gI
    rw [if_pos (go g hg), hv]
  let g1 := eg_sI h (p + 1) (4 * n) x0
  let g2 := eg_sI g1 (p + 1) (4 * n + 1) x1
  let g3 := eg_sI g2 (p + 1) (4 * n + 2) x2
  let g4 := eg_sI g3 (p + 1) (4 * n + 3) x3
  have v1 : eg_I g1 p 2 = nI n := by show eg_I (eg_sI h (p + 1) (4 * n) x0) p 2 = _; rw [I_sI, if_neg (by omega)]; exact b.2.1
  have v2 : eg_I g2 p 2 = nI n := by show eg_I (eg_sI g1 (p + 1) (4 * n + 1) x1) p 2 = _; rw [I_sI, if_neg (by omega)]; exact v1
  have v3 : eg_I g3 p 2 = nI n := by show eg_I (eg_sI g2 (p + 1) (4 * n + 2) x2) p 2 = _; rw [I_sI, if_neg (by omega)]; exact v2
  have v4 : eg_I g4 p 2 = nI n := by show eg_I (eg_sI g3 (p + 1) (4 * n + 3) x3) p 2 = _; rw [I_sI, if_neg (by omega)]; exact v3
  have cv : ∀ i, eg_cov (SBk p) (p + 1) i = true := fun i => by simp [SBk, eg_cov]
  refine ⟨eg_sI g4 p 2 (nI (n + 1)), ?_, eq_sI (eq_sI (eq_sI (eq_sI (eq_sI eq_rfl (cv _)) (cv _)) (cv _)) (cv _)) (by simp [SBk, eg_cov]), ?_, ?_, fun k hk => ?_⟩
  · have k4 : (4 : Int32) * nI n = nI (4 * n) := nI_k4 n
    have k41 : (4 : Int32) * nI n + 1 = nI (4 * n + 1) := by rw [k4, nI_1]
    have k42 : (4 : Int32) * nI n + 2 = nI (4 * n + 2) := by rw [k4, show (2 : Int32) = nI 2 from rfl, nI_add]
    have k43 : (4 : Int32) * nI n + 3 = nI (4 * n + 3) := by rw [k4, show (3 : Int32) = nI 3 from rfl, nI_add]
    have w0 : eg_wI h 100 (p + 1) (nI (4 * n)) x0 = some g1 := wr h rfl 0 (by omega) x0
    have w1 : eg_wI g1 100 (p + 1) (nI (4 * n + 1)) x1 = some g2 := wr g1 rfl 1 (by omega) x1
    have w2 : eg_wI g2 100 (p + 1) (nI (4 * n + 2)) x2 = some g3 := wr g2 rfl 2 (by omega) x2
    have w3 : eg_wI g3 100 (p + 1) (nI (4 * n + 3)) x3 = some g4 := wr g3 rfl 3 (by omega) x3
    unfold fX1_add
    rw [if_pos o1, gI h rfl b.2.1, Option.bind_some, show eg_gI h 1 1 p = some (eg_I h p 1) from if_pos o1, Option.bind_some, b.1, if_neg (nI_ge hn (by omega)), gR h rfl rfl, Option.bind_some, Option.bind_some, k4, w0, Option.bind_some, gR g1 rfl rfl, Option.bind_some, gI g1 rfl v1, Option.bind_some, k41, w1, Option.bind_some, gR g2 rfl rfl, Option.bind_some, gI g2 rfl v2, Option.bind_some, k42, w2, Option.bind_some, gR g3 rfl rfl, Option.bind_some, gI g3 rfl v3, Option.bind_some, k43, w3, Option.bind_some, gI g4 rfl v4, Option.bind_some, nI_1]
    unfold eg_pI
    rw [if_pos (go g4 rfl), Option.bind_some]
  · rw [I_sI, if_neg (by omega)]
    show eg_I (eg_sI (eg_sI (eg_sI (eg_sI h (p + 1) (4 * n) x0) (p + 1) (4 * n + 1) x1) (p + 1) (4 * n + 2) x2) (p + 1) (4 * n + 3) x3) p 1 = _
    rw [I_sI, if_neg (by omega), I_sI, if_neg (by omega), I_sI, if_neg (by omega), I_sI, if_neg (by omega)]
    exact b.1
  · rw [I_sI, if_pos ⟨rfl, rfl⟩]
  · rw [I_sI, if_neg (by omega)]
    show eg_I (eg_sI (eg_sI (eg_sI (eg_sI h (p + 1) (4 * n) x0) (p + 1) (4 * n + 1) x1) (p + 1) (4 * n + 2) x2) (p + 1) (4 * n + 3) x3) (p + 1) k = _
    rw [I_sI, I_sI, I_sI, I_sI]
    unfold rw4
    by_cases c3 : k = 4 * n + 3
    · rw [if_pos ⟨rfl, c3⟩, if_neg (by omega), if_neg (by omega), if_neg (by omega), if_pos c3]
    · rw [if_neg (fun z => c3 z.2)]
      by_cases c2 : k = 4 * n + 2
      · rw [if_pos ⟨rfl, c2⟩, if_neg (by omega), if_neg (by omega), if_pos c2]
      · rw [if_neg (fun z => c2 z.2)]
        by_cases c1 : k = 4 * n + 1
        · rw [if_pos ⟨rfl, c1⟩, if_neg (by omega), if_pos c1]
        · rw [if_neg (fun z => c1 z.2)]
          by_cases c0 : k = 4 * n
          · rw [if_pos ⟨rfl, c0⟩, if_pos c0]
          · rw [if_neg (fun z => c0 z.2), if_neg c0, if_neg c1, if_neg c2, if_neg c3]
            exact b.2.2 k (by omega)
theorem Bk_eq {h' : eg_H} {p q m n : Nat} {r : Nat → Int32} (hp : isB p) (hq : isB q) (hne : ¬ p = q) (b : Bk h q m n r) (E : eg_eq (SBk p) h h') : Bk h' q m n r := by
  have c : ∀ i, eg_cov (SBk p) q i = false ∧ eg_cov (SBk p) (q + 1) i = false := fun i => by
    rcases hp with rfl | rfl | rfl | rfl <;> rcases hq with rfl | rfl | rfl | rfl <;> first | exact absurd rfl hne | exact ⟨rfl, rfl⟩
  exact ⟨by rw [(E.2 q 1 (c 1).1).1]; exact b.1, by rw [(E.2 q 2 (c 2).1).1]; exact b.2.1, fun k hk => by rw [(E.2 (q + 1) k (c k).2).1]; exact b.2.2 k hk⟩
theorem SBk_gr {h' : eg_H} {p : Nat} (hp : isB p) (E : eg_eq (SBk p) h h') : eg_gr (SBk p) h h' ∧ eg_gc h h' := by
  have G : eg_gr (SBk p) h h' := gr_eq E (by rcases hp with rfl | rfl | rfl | rfl <;> decide)
  refine ⟨G, fun q i h1 h2 => G.2.1 q i h2 ?_⟩
  unfold SBk eg_cov
  have e1 : (p == q) = false := by rcases hp with rfl | rfl | rfl | rfl <;> (simp; omega)
  have e2 : (p + 1 == q) = false := by rcases hp with rfl | rfl | rfl | rfl <;> (simp; omega)
  simp only [List.any_cons, List.any_nil, e1, e2, Bool.false_and, Bool.or_false]
theorem XC_Bk {h' : eg_H} {U : Nat → Nat} {P E : Nat} {lw : eg_LW} {q : Option Nat} {era : Nat} {p : Nat} (hp : isB p) (C : XC h U P E lw q era B) (Q : eg_eq (SBk p) h h') : XC h' U P E lw q era B := by
  rcases hp with rfl | rfl | rfl | rfl
  · exact XC_low C Q (by decide) (by decide) ⟨rfl, rfl, rfl, rfl, fun _ => ⟨rfl, rfl⟩⟩
  · exact XC_low C Q (by decide) (by decide) ⟨rfl, rfl, rfl, rfl, fun _ => ⟨rfl, rfl⟩⟩
  · exact XC_low C Q (by decide) (by decide) ⟨rfl, rfl, rfl, rfl, fun _ => ⟨rfl, rfl⟩⟩
  · exact XC_low C Q (by decide) (by decide) ⟨rfl, rfl, rfl, rfl, fun _ => ⟨rfl, rfl⟩⟩
theorem XI_Bk {h' : eg_H} {σ' : eg_S} {p : Nat} (hp : isB p) (X : XI h σ B) (Q : eg_eq (SBk p) h h') (W : Wσ σ') (h1 : ∀ j, (j ≤ 5 ∨ j = 10 ∨ j = 11) → σ'.1 j = σ.1 j) (h2 : ∀ r, (r ≤ 3 ∨ 8 ≤ r) → σ'.2 r = σ.2 r) (hb : Bk h' 27 20 (σ'.1 6) (σ'.2 4) ∧ Bk h' 29 20 (σ'.1 7) (σ'.2 5) ∧ Bk h' 31 40 (σ'.1 8) (σ'.2 6) ∧ Bk h' 33 40 (σ'.1 9) (σ'.2 7)) : XI h' σ' B := by
  obtain ⟨_, ⟨t1, t2⟩, C, ⟨a1, a2, a3, a4⟩, ⟨b1, b2⟩, _, i1, i2⟩ := X
  obtain ⟨G, _⟩ := SBk_gr hp Q
  have cI : ∀ q i, q = 16 ∨ q = 17 ∨ q = 18 ∨ q = 35 ∨ q = 25 ∨ q = 26 ∨ q = 36 → eg_I h' q i = eg_I h q i ∧ eg_P h' q i = eg_P h q i := fun q i hq => by
    have : eg_cov (SBk p) q i = false := by
      unfold SBk eg_cov
      have e1 : (p == q) = false := by rcases hp with rfl | rfl | rfl | rfl <;> (simp; omega)
      have e2 : (p + 1 == q) = false := by rcases hp with rfl | rfl | rfl | rfl <;> (simp; omega)
      simp only [List.any_cons, List.any_nil, e1, e2, Bool.false_and, Bool.or_false]
    exact ⟨(Q.2 q i this).1, (Q.2 q i this).2.2⟩
  have eU : sU σ' = sU σ := by unfold sU; rw [h2 1 (by omega)]
  have eT : ∀ j, laT σ' j = laT σ j := fun j => by unfold laT; rw [h2 10 (by omega)]
  have eN : ∀ j, laN σ' j = laN σ j := fun j => by unfold laN; rw [h2 9 (by omega)]
  have e3 : sN σ' = sN σ := h1 3 (by omega)
  have e4 : σ'.1 4 = σ.1 4 := h1 4 (by omega)
  have eL : sL σ' = sL σ := by unfold sL lwJ; rw [e4, eT, eN]
  have e36 : eg_P h' 36 2 = eg_P h 36 2 := (cI 36 2 (by omega)).2
  refine ⟨W, ⟨by rw [(cI 17 1 (by omega)).1, h1 0 (by omega)]; exact t1, fun i hi => by rw [(cI 18 i (by omega)).1, h2 0 (by omega)]; exact t2 i (by rw [← h1 0 (by omega)]; exact hi)⟩, ?_, ⟨?_, ?_, fun j hj => ?_, ?_⟩, ⟨?_, fun f hf => ?_⟩, hb, ?_, fun i hi hh => ?_⟩
  · have e1 : sP σ' = sP σ := h1 1 (by omega)
    have e2 : sE σ' = sE σ := h1 2 (by omega)
    rw [eU, e1, e2, eL, h1 11 (by omega), e36]
    exact XC_Bk hp C Q
  · rw [(cI 16 5 (by omega)).1, e3]; exact a1
  · rw [(cI 16 6 (by omega)).1, e4]; exact a2
  · rw [e3] at hj
    obtain ⟨k, w, x1, x2, x3, x4⟩ := a3 j hj
    exact ⟨k, w, by rw [(cI 25 j (by omega)).2]; exact x1, x2, by rw [eT, eN]; exact x3, G.2.2.1 k w.1 x2 x4⟩
  · rw [e36, e4, (cI 25 _ (by omega)).2]; exact a4
  · rw [(cI 16 8 (by omega)).1]
    have e5 : sF σ' = sF σ := h1 5 (by omega)
    rw [e5]; exact b1
  · have e5 : sF σ' = sF σ := h1 5 (by omega)
    rw [e5] at hf
    rw [h2 3 (by omega), h2 2 (by omega)]
    obtain ⟨k, g, x1, x2, x3, x4⟩ := b2 f hf
    exact ⟨k, g, by rw [(cI 26 f (by omega)).2]; exact x1, x2, G.2.2.2 k _ g x2 x3, x4⟩
  · rw [(cI 16 14 (by omega)).1, h1 10 (by omega)]; exact i1
  · rw [h1 10 (by omega)] at hh
    rw [(cI 35 i (by omega)).1, h2 8 (by omega)]; exact i2 i hi hh
end AD
