abbrev gLaw (σ : eg_S) (l : Int32) : Prop := (¬ sP σ = 0 ∧ ¬ l < (-1 : Int32)) ∧ l < nI (sN σ)
def aLaw (σ : eg_S) (l : Int32) : Int32 := if gLaw σ l then 1 else 0
def stL (σ : eg_S) (i : Nat) : eg_S := (fun j => if j = 4 then i else if j = 11 then σ.1 11 + 1 else σ.1 j, σ.2)
def sLaw (σ : eg_S) (l : Int32) : eg_S := if gLaw σ l then stL σ (l.toInt + 1).toNat else σ
section LA
variable {h h' : eg_H} {σ : eg_S} {B : Nat × Nat}
theorem law_n {l : Int32} (hN : sN σ ≤ 4) (g : gLaw σ l) : ∃ i, i ≤ sN σ ∧ (l.toInt + 1).toNat = i ∧ l = iI ((i : Int) - 1) := by
  have h1 : ¬ l.toInt < -1 := fun z => g.1.2 (by rw [Int32.lt_iff_toInt_lt]; exact z)
  have h2 : l.toInt < (sN σ : Int) := by
    have := g.2
    rw [Int32.lt_iff_toInt_lt, ← iI_n, iI_t (by unfold i3; omega)] at this
    exact this
  refine ⟨(l.toInt + 1).toNat, by omega, rfl, ?_⟩
  have e : ((l.toInt + 1).toNat : Int) - 1 = l.toInt := by omega
  rw [e, iI_o]
theorem W_law {i : Nat} (W : Wσ σ) (hi : i ≤ sN σ) : Wσ (stL σ i) := by
  obtain ⟨w1, w2, w3, w4⟩ := W
  exact ⟨w1, w2, ⟨w3.1, hi, w3.2.2⟩, w4⟩
theorem X_lawAtI (X : XI h σ B) {i : Nat} (hi : i ≤ sN σ) (E : eg_eq [(16, some 6)] h h') : fX12_lawAt h' 16 (iI ((i : Int) - 1)) = some (if i = 0 then none else eg_P h 25 (i - 1), h') := by
  have hs : eg_stt h' := eq_stt E X.2.2.1.1 (by decide)
  obtain ⟨a1, a2, a3, a4⟩ := X.2.2.2.1
  have hN := X.1.2.2.1.1
  have a1' : eg_I h' 16 5 = nI (sN σ) := by rw [(E.2 16 5 rfl).1]; exact a1
  unfold fX12_lawAt
  rw [if_pos (iO_16 hs)]
  by_cases c : i = 0
  · rw [if_pos (show iI ((i : Int) - 1) < (0 : Int32) from (iI_lt (b := 0) (by unfold i3; omega) (by unfold i3; omega)).mpr (by omega)), if_pos c]
  · have e : iI ((i : Int) - 1) = nI (i - 1) := by rw [← iI_n]; congr 1; omega
    have hcl : (nI (i - 1)).toNatClampNeg = i - 1 := nI_clamp (by omega)
    rw [e, if_neg (nI_pos (by omega)), gI_16 hs, Option.bind_some, a1', if_neg (nI_ge (by omega) (by omega)), gR_16 hs, rf_16_4 hs, Option.bind_some, al_25 hs, Option.bind_some, if_pos (nI_lt (by omega) (by omega)), Option.bind_some]
    unfold eg_aQ
    rw [if_pos (show eg_isA h' 115 25 (nI (i - 1)) from ⟨by omega, by rw [kd_25 hs], nI_pos (by omega), by rw [kd_25 hs, hcl]; show i - 1 < 4; omega⟩), hcl, Option.bind_some, if_neg c, (E.2 25 (i - 1) rfl).2.2]
def Shl : List (Nat × Option Nat) := [(16, some 6), (36, some 2), (38, some 3)]
theorem X_hold (X : XI h σ B) {i : Nat} (hi : i ≤ sN σ) (he : σ.1 11 + 1 < 2 ^ 30) : ∃ h', fX12_holdLaw h 16 (iI ((i : Int) - 1)) = some h' ∧ eg_eq Shl h h' ∧ eg_I h' 16 6 = iI ((i : Int) - 1) ∧ eg_P h' 36 2 = (if i = 0 then none else eg_P h 25 (i - 1)) ∧ eg_I h' 38 3 = nI (σ.1 11 + 1) := by
  have hs := X.2.2.1.1
  have k1 := X.2.2.1.2.2.2.2.1
  let h1 := eg_sI h 16 6 (iI ((i : Int) - 1))
  have E1 : eg_eq [(16, some 6)] h h1 := eq_sI eq_rfl rfl
  have s1 : eg_stt h1 := hs
  have ea := X_lawAtI X hi E1
  let h2 := eg_sP h1 36 2 (if i = 0 then none else eg_P h 25 (i - 1))
  have E2 : eg_eq Shl h h2 := eq_sP (eq_sI eq_rfl rfl) rfl
  have s2 : eg_stt h2 := stt_sP hs (by decide)
  have v38 : eg_I h2 38 3 = nI (σ.1 11) := by
    show eg_I (eg_sI h 16 6 (iI ((i : Int) - 1))) 38 3 = _
    rw [I_sI, if_neg (by omega)]; exact k1
  let h3 := eg_sI h2 38 3 (nI (σ.1 11 + 1))
  refine ⟨h3, ?_, eq_sI E2 rfl, ?_, ?_, ?_⟩
  · unfold fX12_holdLaw
    rw [if_pos (iO_16 hs), pI_16 hs, Option.bind_some]
    show ((eg_gR h1 12 15 16).bind _) = _
    rw [gR_16 s1, rf_16_15 s1, Option.bind_some, ea, Option.bind_some]
    dsimp only
    unfold fX11_obey
    rw [if_pos (iO_36 s1), pP_36 s1, Option.bind_some, Option.bind_some]
    show ((eg_gR h2 12 16 16).bind _) = _
    rw [gR_16 s2, rf_16_16 s2, Option.bind_some]
    unfold fX0_forget
    rw [if_pos (iO_38 s2), gI_38 s2, Option.bind_some, v38, nI_1, pI_38 s2, Option.bind_some, Option.bind_some]
  · show eg_I (eg_sI h2 38 3 _) 16 6 = _
    rw [I_sI, if_neg (by omega)]
    show eg_I (eg_sI h 16 6 (iI ((i : Int) - 1))) 16 6 = _
    rw [I_sI, if_pos ⟨rfl, rfl⟩]
  · show eg_P (eg_sP h1 36 2 _) 36 2 = _
    rw [P_sP, if_pos ⟨rfl, rfl⟩]
  · show eg_I (eg_sI h2 38 3 _) 38 3 = _
    rw [I_sI, if_pos ⟨rfl, rfl⟩]
theorem XL_at (X : XI h σ B) {i : Nat} (hi : i ≤ sN σ) : XL h (if i = 0 then none else eg_P h 25 (i - 1)) (lwI σ i) := by
  unfold lwI
  by_cases c : i = 0
  · rw [if_pos c, if_pos c]; trivial
  · obtain ⟨p, w, x1, x2, x3, x4⟩ := X.2.2.2.1.2.2.1 (i - 1) (by omega)
    rw [if_neg c, if_neg c, x1]
    unfold lwJ
    rw [x3]
    exact ⟨x2, laT σ (i - 1), laN σ (i - 1), w, x3, rfl, x4⟩
theorem X_law (X : XI h σ B) (l : Int32) (he : σ.1 11 + 1 < 2 ^ 30) : ∃ h', fX12_law h 16 l = some (aLaw σ l, h') ∧ XOk h h' (sLaw σ l) B := by
  have C := X.2.2.1
  have hs := C.1
  have hP := XI_P X
  have hN := X.1.2.2.1.1
  unfold fX12_law aLaw sLaw
  rw [if_pos (iO_16 hs), gR_16 hs, rf_16_3 hs, Option.bind_some, X_isTold X, Option.bind_some]
  dsimp only
  by_cases c1 : sP σ = 0
  · have gg : ¬ gLaw σ l := fun z => z.1.1 c1
    rw [if_pos c1, if_pos rfl, if_neg gg, if_neg gg]; exact ⟨h, rfl, XOk_rfl X⟩
  rw [if_neg c1, if_neg (show ¬ (1 : Int32) = 0 by decide)]
  by_cases c2 : l < (-1 : Int32)
  · have gg : ¬ gLaw σ l := fun z => z.1.2 c2
    rw [if_pos c2, if_neg gg, if_neg gg]; exact ⟨h, rfl, XOk_rfl X⟩
  rw [if_neg c2, gI_16 hs, Option.bind_some, X.2.2.2.1.1]
  by_cases c3 : l < nI (sN σ)
  rotate_left
  · have gg : ¬ gLaw σ l := fun z => c3 z.2
    rw [if_neg c3, if_neg gg, if_neg gg]; exact ⟨h, rfl, XOk_rfl X⟩
  have gg : gLaw σ l := ⟨⟨c1, c2⟩, c3⟩
  rw [if_pos c3, if_pos gg, if_pos gg]
  obtain ⟨i, hi, e1, rfl⟩ := law_n hN gg
  rw [e1]
  obtain ⟨h1, e2, E1, v6, v2, v3⟩ := X_hold X hi he
  obtain ⟨W, t, _, lb, f, ⟨k1, k2, k3, k4⟩, j⟩ := X
  have G := gr_eq E1 (by decide)
  have lo : XL h1 (eg_P h1 36 2) (lwI σ i) := by rw [v2]; exact gr_XL G (XL_at ⟨W, t, C, lb, f, ⟨k1, k2, k3, k4⟩, j⟩ hi)
  have hs1 : eg_stt h1 := eq_stt E1 hs (by decide)
  have C1 : XC h1 (sU σ) (sP σ) (sE σ) (lwI σ i) (eg_P h1 36 2) (σ.1 11 + 1) B := ⟨hs1, XV_eq C.2.1 G ⟨rfl, rfl, fun _ => rfl⟩, rfl, lo, XK_new C.2.2.2.2 E1 v3 he (by decide) (fun _ => rfl)⟩
  have l' : XBl h1 (stL σ i) := by
    refine ⟨by rw [(E1.2 16 5 rfl).1]; exact lb.1, v6, fun m hm => ?_, ?_⟩
    · obtain ⟨p, w, x1, x2, x3, x4⟩ := lb.2.2.1 m hm
      exact ⟨p, w, by rw [(E1.2 25 m rfl).2.2]; exact x1, x2, x3, G.2.2.1 p w.1 x2 x4⟩
    · show eg_P h1 36 2 = if i = 0 then none else eg_P h1 25 (i - 1)
      rw [v2, (E1.2 25 _ rfl).2.2]
  have f' : XBf h1 σ := XBf_g G ⟨rfl, fun _ => rfl⟩ f
  have j' : XBj h1 σ := XBj_g G ⟨rfl, fun _ => rfl⟩ j
  have t' : tapeX σ h1 := tapeX_g G ⟨rfl, fun _ => rfl⟩ t
  refine ⟨h1, by rw [e2, Option.bind_some], XI_in (W_law W hi) t' C1 l' f' ?_ ?_ ?_ ?_ j', gc_g G (by decide)⟩
  · exact Bk_g G (by omega) ⟨⟨rfl, rfl⟩, fun _ => rfl⟩ k1
  · exact Bk_g G (by omega) ⟨⟨rfl, rfl⟩, fun _ => rfl⟩ k2
  · exact Bk_g G (by omega) ⟨⟨rfl, rfl⟩, fun _ => rfl⟩ k3
  · exact Bk_g G (by omega) ⟨⟨rfl, rfl⟩, fun _ => rfl⟩ k4
theorem M_law (R : RI h σ) (l : Int32) : ∃ h', fX13_law h 54 l = some (aLaw σ l, h') ∧ ROk h h' (sLaw σ l) := by
  obtain ⟨R0, Q0⟩ := R_0 R
  have hs := R.1
  have s0 := R0.1
  have hP := RI_P R
  have hN := R.2.1.2.2.1.1
  unfold fX13_law aLaw sLaw
  rw [if_pos (iO_54 hs), pI_54 hs, Option.bind_some, gI_54 s0, Option.bind_some, R0.2.2.2.1.2.2.2.1]
  by_cases c1 : sP σ = 0
  · have gg : ¬ gLaw σ l := fun z => z.1.1 c1
    rw [if_pos (show nI (sP σ) = 0 by rw [c1]; rfl), if_neg gg, if_neg gg]; exact ⟨_, rfl, ROk_scr R Q0⟩
  rw [if_neg (nI_ne0 (by omega) (by omega))]
  have fin' : ∀ i, i ≤ sN σ → l = iI ((i : Int) - 1) → gLaw σ l → ∃ h', ((eg_pI (eg_sI h 54 0 0) 13 34 54 l).bind fun h7 => some ((1 : Int32), h7)) = some (1, h') ∧ ROk h h' (stL σ i) := by
    intro i hi hl gg
    rw [pI_54 s0, Option.bind_some]
    have E1 : eg_eq [(54, some 0), (54, some 34)] h (eg_sI (eg_sI h 54 0 0) 54 34 l) := eq_sI (eq_sI eq_rfl rfl) rfl
    obtain ⟨_, W, t, v, lb, f, w, m, g, i', j⟩ := R
    have t' : tapeM σ (eg_sI (eg_sI h 54 0 0) 54 34 l) := tapeM_e E1 ⟨rfl, fun _ => rfl⟩ t
    have v' : RV (eg_sI (eg_sI h 54 0 0) 54 34 l) (sU σ) (sP σ) (sE σ) := RV_e E1 ⟨⟨rfl, rfl⟩, fun _ => ⟨rfl, rfl, rfl⟩⟩ v
    have f' : RBf (eg_sI (eg_sI h 54 0 0) 54 34 l) σ := RBf_e E1 ⟨rfl, fun _ => ⟨rfl, rfl⟩⟩ f
    have w' : RBw (eg_sI (eg_sI h 54 0 0) 54 34 l) σ := RBw_e E1 ⟨rfl, fun _ => ⟨rfl, rfl, rfl⟩⟩ w
    have m' : RBm (eg_sI (eg_sI h 54 0 0) 54 34 l) σ := RBm_e E1 ⟨rfl, fun _ => ⟨rfl, rfl, rfl, rfl⟩⟩ m
    have g' : RBg (eg_sI (eg_sI h 54 0 0) 54 34 l) σ := RBg_e E1 ⟨rfl, fun _ => ⟨rfl, rfl, rfl⟩⟩ g
    have h'' : RBh (eg_sI (eg_sI h 54 0 0) 54 34 l) σ := RBh_e E1 ⟨rfl, fun _ => ⟨rfl, rfl, rfl⟩⟩ i'
    have j' : RBj (eg_sI (eg_sI h 54 0 0) 54 34 l) σ := RBj_e E1 ⟨rfl, fun _ => rfl⟩ j
    have l' : RBl (eg_sI (eg_sI h 54 0 0) 54 34 l) (stL σ i) := ⟨by rw [(E1.2 54 7 rfl).1]; exact lb.1, by rw [I_sI, if_pos ⟨rfl, rfl⟩, hl]; rfl, fun q hq => ⟨by rw [(E1.2 57 q rfl).1]; exact (lb.2.2 q hq).1, fun k hk => by rw [(E1.2 56 _ rfl).1]; exact (lb.2.2 q hq).2 k hk⟩⟩
    exact ⟨_, rfl, RI_in s0 (W_law W hi) t' v' l' f' w' m' g' h'' j', eq_rfS E1 (by decide)⟩
  by_cases c2 : l = (-1 : Int32)
  · have gg : gLaw σ l := ⟨⟨c1, by rw [c2]; decide⟩, by
      rw [c2, Int32.lt_iff_toInt_lt, ← iI_n, iI_t (by unfold i3; omega)]
      have : (-1 : Int32).toInt = -1 := by decide
      omega⟩
    obtain ⟨i, hi, e1, e2⟩ := law_n hN gg
    rw [if_pos c2, if_pos gg, if_pos gg, e1]
    exact fin' i hi e2 gg
  rw [if_neg c2, gI_54 s0, Option.bind_some, R0.2.2.2.2.1.1]
  have en : nI (sN σ) - 1 = iI ((sN σ : Int) - 1) := by rw [← iI_n, show (1 : Int32) = iI 1 from rfl, iI_sub]
  rw [en, M_GIi _ l (nI 0) (iI ((sN σ : Int) - 1)) 0 _ rfl rfl, Option.bind_some]
  dsimp only
  rw [g01]
  have tl : ¬ l.toInt = -1 := fun z => c2 (by rw [← iI_o l, z]; decide)
  have iff : GI (nI 0) (iI ((sN σ : Int) - 1)) l ↔ gLaw σ l := by
    have e0 : (nI 0).toInt = 0 := by decide
    have em : (-1 : Int32).toInt = -1 := by decide
    constructor
    · intro z
      have z1 : ¬ l.toInt < 0 := fun y => z.1 (by rw [Int32.lt_iff_toInt_lt, e0]; exact y)
      have z2 : ¬ (sN σ : Int) - 1 < l.toInt := fun y => z.2 (by rw [Int32.lt_iff_toInt_lt, iI_t (by unfold i3; omega)]; exact y)
      exact ⟨⟨c1, fun y => by rw [Int32.lt_iff_toInt_lt, em] at y; omega⟩, by rw [Int32.lt_iff_toInt_lt, ← iI_n, iI_t (by unfold i3; omega)]; omega⟩
    · intro z
      have z1 : ¬ l.toInt < -1 := fun y => z.1.2 (by rw [Int32.lt_iff_toInt_lt, em]; exact y)
      have z2 := z.2
      rw [Int32.lt_iff_toInt_lt, ← iI_n, iI_t (by unfold i3; omega)] at z2
      exact ⟨fun y => by rw [Int32.lt_iff_toInt_lt, e0] at y; omega, fun y => by rw [Int32.lt_iff_toInt_lt, iI_t (by unfold i3; omega)] at y; omega⟩
  by_cases c3 : gLaw σ l
  · obtain ⟨i, hi, e1, e2⟩ := law_n hN c3
    rw [if_pos (iff.mpr c3), if_pos c3, if_pos c3, e1]
    exact fin' i hi e2 c3
  · rw [if_neg (fun z => c3 (iff.mp z)), if_neg c3, if_neg c3]; exact ⟨_, rfl, ROk_scr R Q0⟩
end LA
def loM (w : Nat) : Nat := if w ≤ 1 then 0 else 1
def hiM (w : Nat) : Nat := if w = 1 then 1 else if w = 3 then 60 else 9
abbrev gSet (σ : eg_S) (w v : Int32) : Prop := ((¬ sP σ = 0 ∧ GI (nI 0) (nI 3) w) ∧ GI (nI (loM (dN w))) (nI (hiM (dN w))) v) ∧ ¬ v = nI (sU σ (dN w))
def aSet (σ : eg_S) (w v : Int32) : Int32 := if gSet σ w v then 1 else 0
def stS (σ : eg_S) (w : Nat) (v : Int32) : eg_S := (fun j => if j = 11 then (if w ≤ 1 then σ.1 11 + 1 else σ.1 11) else σ.1 j, fun r => if r = 1 then (fun x => if x = w then v else σ.2 1 x) else σ.2 r)
def sSet (σ : eg_S) (w v : Int32) : eg_S := if gSet σ w v then stS σ (dN w) v else σ
theorem sU_S (σ : eg_S) (w n : Nat) (hn : n < 2 ^ 31) : sU (stS σ w (nI n)) = upU (sU σ) w n := by
  funext x
  show dN (if x = w then nI n else σ.2 1 x) = if x = w then n else dN (σ.2 1 x)
  by_cases c : x = w
  · rw [if_pos c, if_pos c, dN_n hn]
  · rw [if_neg c, if_neg c]
theorem Uok_m {U : Nat → Nat} {P E w v : Nat} (h : Uok U P E) (hw : w < 4) (h1 : loM w ≤ v) (h2 : v ≤ hiM w) : Uok (upU U w v) P E := by
  obtain ⟨⟨a1, a2, a3, a4, a5, a6, a7, a8⟩, hp, he⟩ := h
  have hu : ∀ x, 4 ≤ x → upU U w v x = U x := fun x hx => if_neg (by omega)
  unfold loM at h1
  unfold hiM at h2
  refine ⟨⟨a1, a2, ?_, ?_, ?_, ?_, ?_, ?_⟩, fun p hp' => ?_, fun e he' => ?_⟩
  · unfold upU; split <;> (try subst w) <;> (try simp at h2) <;> omega
  · unfold upU; split <;> (try subst w) <;> (try simp at h2) <;> omega
  · unfold upU; split <;> (try subst w) <;> (try simp at h1) <;> omega
  · unfold upU; split <;> (try subst w) <;> (try simp at h2) <;> omega
  · unfold upU; split <;> (try subst w) <;> (try simp at h1) <;> omega
  · unfold upU; split <;> (try subst w) <;> (try simp at h2) <;> omega
  · rw [hu (4 + 4 * p) (by omega), hu (5 + 4 * p) (by omega), hu (6 + 4 * p) (by omega), hu (7 + 4 * p) (by omega)]; exact hp p hp'
  · rw [hu (28 + 2 * e) (by omega), hu (29 + 2 * e) (by omega)]; exact he e he'
theorem bV_m {U : Nat → Nat} {lw : eg_LW} {w v s y : Nat} (hw : w = 2 ∨ w = 3) : bV (upU U w v) lw s y = bV U lw s y := by
  have hu : ∀ x, ¬ x = w → upU U w v x = U x := fun x hx => if_neg hx
  have ht : ∀ p r e d, tOf (upU U w v) (upU U w v 0) p r e d = tOf U (U 0) p r e d := by
    intro p r e d
    unfold tOf blw limU
    rw [hu 0 (by omega), hu 1 (by omega), hu (4 + 4 * p) (by omega), hu (7 + 4 * p) (by omega), hu (5 + 4 * r) (by omega), hu (6 + 4 * r) (by omega), hu (29 + 2 * e) (by omega), hu (28 + 2 * e) (by omega)]
  unfold bV
  rw [ht]
section SE
variable {h h' : eg_H} {σ : eg_S} {B : Nat × Nat}
theorem W_set {w n : Nat} (W : Wσ σ) (hP : ¬ sP σ = 0) (hw : w < 4) (h1 : loM w ≤ n) (h2 : n ≤ hiM w) (hn : n < 2 ^ 31) : Wσ (stS σ w (nI n)) := by
  obtain ⟨w1, w2, w3⟩ := W
  have hU := (w2.2.2.2 (by omega))
  refine ⟨w1, ⟨w2.1, w2.2.1, fun z => absurd z hP, fun _ => ⟨hU.1, hU.2.1, ?_⟩⟩, w3⟩
  rw [sU_S σ w n hn]
  exact Uok_m hU.2.2 hw h1 h2
theorem tab_lo : ∀ w, w < 4 → eg_tI 2 (nI w) = some (nI (loM w)) ∧ eg_tI 3 (nI w) = some (nI (hiM w)) := by decide +kernel
theorem X_tellS (X : XI h σ B) {w n : Nat} (hw : w < 4) : fX7_tell h 23 (nI w) (nI n) = some (eg_sI h 24 w (nI n)) := by
  have hs := X.2.2.1.1
  have hcl : (nI w).toNatClampNeg = w := nI_clamp (by omega)
  unfold fX7_tell
  rw [if_pos (iO_23 hs), if_neg (nI_pos (by omega)), if_neg (show ¬ (4 : Int32) ≤ nI w from nI_ge (b := 4) (by omega) (by omega)), gR_23 hs, rf_23_0 hs, Option.bind_some, wI_24 hs (nI_pos (by omega)) (by rw [hcl]; omega), hcl, Option.bind_some]
theorem XV_tell {U : Nat → Nat} {P E w n : Nat} (V : XV h U P E) : XV (eg_sI h 24 w (nI n)) (upU U w n) P E := by
  refine ⟨by rw [I_sI, if_neg (by omega)]; exact V.1, by rw [I_sI, if_neg (by omega)]; exact V.2.1, fun x hx => ?_⟩
  rw [I_sI]
  unfold upU
  by_cases c : x = w
  · rw [if_pos ⟨rfl, c⟩, if_pos c]
  · rw [if_neg (fun z => c z.2), if_neg c]; exact V.2.2 x hx
theorem XI_val (X : XI h σ B) {S : List (Nat × Option Nat)} (E1 : eg_eq S h h') {σ' : eg_S} (W' : Wσ σ') (C1 : XC h' (sU σ') (sP σ') (sE σ') (sL σ') (eg_P h' 36 2) (σ'.1 11) B) (hS : S.all (fun t => t.1 < 95) = true) (hS2 : S.all (fun t => t.1 < 54 || 95 ≤ t.1) = true) (c : (((eg_cov S 17 1 = false ∧ ∀ i, eg_cov S 18 i = false) ∧ ((eg_cov S 16 5 = false ∧ eg_cov S 16 6 = false ∧ eg_cov S 36 2 = false) ∧ ∀ i, eg_cov S 25 i = false)) ∧ (eg_cov S 16 8 = false ∧ ∀ i, eg_cov S 26 i = false)) ∧ (eg_cov S 16 14 = false ∧ ∀ i, eg_cov S 35 i = false)) (cb : ∀ p, p = 27 ∨ p = 29 ∨ p = 31 ∨ p = 33 → (eg_cov S p 1 = false ∧ eg_cov S p 2 = false) ∧ ∀ i, eg_cov S (p + 1) i = false) (hσ : (∀ j, ¬ j = 11 → σ'.1 j = σ.1 j) ∧ ∀ r, ¬ r = 1 → σ'.2 r = σ.2 r) : XOk h h' σ' B := by
  obtain ⟨W, t, _, lb, f, ⟨k1, k2, k3, k4⟩, j⟩ := X
  have G := gr_eq E1 hS
  obtain ⟨h1, h2⟩ := hσ
  have t' := tapeX_g G c.1.1.1 t
  have l' := XBl_g G c.1.1.2 lb
  have f' := XBf_g G c.1.2 f
  have j' := XBj_g G c.2 j
  have q1 := Bk_g G (by omega) (cb 27 (by omega)) k1
  have q2 := Bk_g G (by omega) (cb 29 (by omega)) k2
  have q3 := Bk_g G (by omega) (cb 31 (by omega)) k3
  have q4 := Bk_g G (by omega) (cb 33 (by omega)) k4
  have eT : ∀ m, laT σ' m = laT σ m := fun m => by unfold laT; rw [h2 10 (by omega)]
  have eN : ∀ m, laN σ' m = laN σ m := fun m => by unfold laN; rw [h2 9 (by omega)]
  have e3 : sN σ' = sN σ := h1 3 (by omega)
  have e5 : sF σ' = sF σ := h1 5 (by omega)
  refine ⟨XI_in W' ⟨by rw [h1 0 (by omega)]; exact t'.1, fun i hi => by rw [h1 0 (by omega)] at hi; rw [h2 0 (by omega)]; exact t'.2 i hi⟩ C1 ⟨by rw [e3]; exact l'.1, by rw [h1 4 (by omega)]; exact l'.2.1, fun m hm => by rw [e3] at hm; rw [eT, eN]; exact l'.2.2.1 m hm, by rw [h1 4 (by omega)]; exact l'.2.2.2⟩ ⟨by rw [e5]; exact f'.1, fun m hm => by rw [e5] at hm; rw [h2 3 (by omega), h2 2 (by omega)]; exact f'.2 m hm⟩ ?_ ?_ ?_ ?_ ⟨by rw [h1 10 (by omega)]; exact j'.1, fun i hi hh => by rw [h1 10 (by omega)] at hh; rw [h2 8 (by omega)]; exact j'.2 i hi hh⟩, gc_g G hS2⟩
  · rw [h1 6 (by omega), h2 4 (by omega)]; exact q1
  · rw [h1 7 (by omega), h2 5 (by omega)]; exact q2
  · rw [h1 8 (by omega), h2 6 (by omega)]; exact q3
  · rw [h1 9 (by omega), h2 7 (by omega)]; exact q4
theorem X_set (X : XI h σ B) (w v : Int32) (he : σ.1 11 + 1 < 2 ^ 30) : ∃ h', fX12_set h 16 w v = some (aSet σ w v, h') ∧ XOk h h' (sSet σ w v) B := by
  have C := X.2.2.1
  have hs := C.1
  have hP := XI_P X
  unfold fX12_set aSet sSet
  rw [if_pos (iO_16 hs), gR_16 hs, rf_16_3 hs, Option.bind_some, X_isTold X, Option.bind_some]
  dsimp only
  by_cases c1 : sP σ = 0
  · have gg : ¬ gSet σ w v := fun z => z.1.1.1 c1
    rw [if_pos c1, if_pos rfl, if_neg gg, if_neg gg]; exact ⟨h, rfl, XOk_rfl X⟩
  rw [if_neg c1, if_neg (show ¬ (1 : Int32) = 0 by decide)]
  by_cases c2 : w < 0
  · have gg : ¬ gSet σ w v := fun z => z.1.1.2.1 c2
    rw [if_pos c2, if_neg gg, if_neg gg]; exact ⟨h, rfl, XOk_rfl X⟩
  rw [if_neg c2]
  obtain ⟨k, hk, rfl⟩ := pos_n c2
  have hdk := dN_n hk
  by_cases c3 : k < 4
  rotate_left
  · have gg : ¬ gSet σ (nI k) v := fun z => z.1.1.2.2 (show nI 3 < nI k from nI_lt (by omega) hk)
    rw [if_neg (show ¬ nI k < (4 : Int32) from nI_nlt (b := 4) (by omega) (by omega)), if_neg gg, if_neg gg]; exact ⟨h, rfl, XOk_rfl X⟩
  have g3 : GI (nI 0) (nI 3) (nI k) := ⟨nI_pos (by omega), nI_nlt (by omega) (by omega)⟩
  obtain ⟨tl, th⟩ := tab_lo k c3
  have et : fX7_told h 23 (nI k) = some (nI (sU σ k), h) := X_told hs C.2.1 c3
  rw [if_pos (show nI k < (4 : Int32) from nI_lt (b := 4) c3 (by omega)), tl, Option.bind_some]
  by_cases c4 : v < nI (loM k)
  · have gg : ¬ gSet σ (nI k) v := fun z => z.1.2.1 (by rw [hdk]; exact c4)
    rw [if_pos c4, if_neg gg, if_neg gg]; exact ⟨h, rfl, XOk_rfl X⟩
  rw [if_neg c4, th, Option.bind_some]
  by_cases c5 : nI (hiM k) < v
  · have gg : ¬ gSet σ (nI k) v := fun z => z.1.2.2 (by rw [hdk]; exact c5)
    rw [if_pos c5, if_neg gg, if_neg gg]; exact ⟨h, rfl, XOk_rfl X⟩
  rw [if_neg c5, gR_16 hs, rf_16_3 hs, Option.bind_some, et, Option.bind_some]
  dsimp only
  by_cases c6 : v = nI (sU σ k)
  · have gg : ¬ gSet σ (nI k) v := fun z => z.2 (by rw [hdk]; exact c6)
    rw [if_pos c6, if_neg gg, if_neg gg]; exact ⟨h, rfl, XOk_rfl X⟩
  have gg : gSet σ (nI k) v := ⟨⟨⟨c1, g3⟩, by rw [hdk]; exact ⟨c4, c5⟩⟩, by rw [hdk]; exact c6⟩
  have l60 : loM k ≤ 1 ∧ hiM k ≤ 60 := by unfold loM hiM; constructor <;> (split <;> (try split) <;> omega)
  obtain ⟨n, n1, n2, rfl⟩ := GI_n (by omega) (by omega) (show GI (nI (loM k)) (nI (hiM k)) v from ⟨c4, c5⟩)
  have hU := XI_U X (by omega)
  rw [if_neg c6, if_pos gg, if_pos gg, gR_16 hs, rf_16_3 hs, Option.bind_some, X_tellS X c3, Option.bind_some, hdk]
  have W' := W_set X.1 c1 c3 n1 n2 (show n < 2 ^ 31 by omega)
  have eU := sU_S σ k n (by omega)
  have V' := XV_tell (w := k) (n := n) C.2.1
  have E1 : eg_eq [(24, none), (38, some 3)] h (eg_sI h 24 k (nI n)) := eq_sI eq_rfl (by rfl)
  have s1 : eg_stt (eg_sI h 24 k (nI n)) := hs
  have k1 : eg_I (eg_sI h 24 k (nI n)) 38 3 = nI (σ.1 11) := by rw [I_sI, if_neg (by omega)]; exact C.2.2.2.2.1
  have hfor : ∀ (_ : k ≤ 1), ∃ h', ((eg_gR (eg_sI h 24 k (nI n)) 12 16 16).bind fun p => (fX0_forget (eg_sI h 24 k (nI n)) p).bind fun h28 => some ((1 : Int32), h28)) = some (1, h') ∧ XOk h h' (stS σ k (nI n)) B := by
    intro hk1
    rw [gR_16 s1, rf_16_16 s1, Option.bind_some]
    unfold fX0_forget
    rw [if_pos (iO_38 s1), gI_38 s1, Option.bind_some, k1, nI_1, pI_38 s1, Option.bind_some, Option.bind_some]
    refine ⟨_, rfl, ?_⟩
    have E2 : eg_eq [(24, none), (38, some 3)] h (eg_sI (eg_sI h 24 k (nI n)) 38 3 (nI (σ.1 11 + 1))) := eq_sI E1 rfl
    have G2 := gr_eq E2 (by decide)
    have e11 : (stS σ k (nI n)).1 11 = σ.1 11 + 1 := if_pos hk1
    refine XI_val X E2 W' ?_ (by decide) (by decide) ⟨⟨⟨⟨rfl, fun _ => rfl⟩, ⟨rfl, rfl, rfl⟩, fun _ => rfl⟩, rfl, fun _ => rfl⟩, rfl, fun _ => rfl⟩ (fun p hp => by rcases hp with rfl | rfl | rfl | rfl <;> exact ⟨⟨rfl, rfl⟩, fun _ => rfl⟩) ⟨fun j hj => if_neg hj, fun r hr => if_neg hr⟩
    rw [eU, e11]
    refine ⟨hs, ⟨?_, ?_, fun x hx => ?_⟩, rfl, ?_, XK_new C.2.2.2.2 E2 (by rw [I_sI, if_pos ⟨rfl, rfl⟩]) he (by decide) (fun _ => rfl)⟩
    · rw [I_sI, if_neg (by omega)]; exact V'.1
    · rw [I_sI, if_neg (by omega)]; exact V'.2.1
    · rw [I_sI, if_neg (by omega)]; exact V'.2.2 x hx
    · exact gr_XL G2 C.2.2.2.1
  by_cases d0 : k = 0
  · rw [if_pos (show nI k = 0 by rw [d0]; rfl)]
    exact hfor (by omega)
  rw [if_neg (nI_ne0 (by omega) (by omega))]
  by_cases d1 : k = 1
  · rw [if_pos (show nI k = 1 by rw [d1]; rfl)]
    exact hfor (by omega)
  rw [if_neg (ne_1 (by omega) d1)]
  refine ⟨_, rfl, ?_⟩
  have E3 : eg_eq [(24, none)] h (eg_sI h 24 k (nI n)) := eq_sI eq_rfl (by rfl)
  have G3 := gr_eq E3 (by decide)
  have e11 : (stS σ k (nI n)).1 11 = σ.1 11 := if_neg (by omega)
  refine XI_val X E3 W' ?_ (by decide) (by decide) ⟨⟨⟨⟨rfl, fun _ => rfl⟩, ⟨rfl, rfl, rfl⟩, fun _ => rfl⟩, rfl, fun _ => rfl⟩, rfl, fun _ => rfl⟩ (fun p hp => by rcases hp with rfl | rfl | rfl | rfl <;> exact ⟨⟨rfl, rfl⟩, fun _ => rfl⟩) ⟨fun j hj => if_neg hj, fun r hr => if_neg hr⟩
  rw [eU, e11]
  refine ⟨hs, V', rfl, gr_XL G3 C.2.2.2.1, ?_⟩
  obtain ⟨q1, q2, q3, q4, q5, q6⟩ := XK_low C.2.2.2.2 E3 (by decide) rfl (fun _ => rfl)
  refine ⟨q1, q2, fun s hs' p hp => ?_, q4, q5, q6⟩
  obtain ⟨z1, e', z2, z3, z4⟩ := q3 s hs' p hp
  exact ⟨z1, e', z2, z3, fun z y hy => by rw [bV_m (by omega)]; exact z4 z y hy⟩
theorem M_set (R : RI h σ) (w v : Int32) : ∃ h', fX13_set h 54 w v = some (aSet σ w v, h') ∧ ROk h h' (sSet σ w v) := by
  obtain ⟨R0, Q0⟩ := R_0 R
  have hs := R.1
  have s0 := R0.1
  have hP := RI_P R
  unfold fX13_set aSet sSet
  rw [if_pos (iO_54 hs), pI_54 hs, Option.bind_some, gI_54 s0, Option.bind_some, R0.2.2.2.1.2.2.2.1]
  by_cases c1 : sP σ = 0
  · have gg : ¬ gSet σ w v := fun z => z.1.1.1 c1
    rw [if_pos (show nI (sP σ) = 0 by rw [c1]; rfl), if_neg gg, if_neg gg]; exact ⟨_, rfl, ROk_scr R Q0⟩
  rw [if_neg (nI_ne0 (by omega) (by omega)), M_GI (lo := 0) (hi := 3) _ w (by omega) (by omega) 0 3 rfl rfl, Option.bind_some]
  dsimp only
  rw [g01]
  by_cases c2 : GI (nI 0) (nI 3) w
  rotate_left
  · have gg : ¬ gSet σ w v := fun z => c2 z.1.1.2
    rw [if_neg c2, if_neg gg, if_neg gg]; exact ⟨_, rfl, ROk_scr R Q0⟩
  have c20 := c2
  obtain ⟨k, k1, k2, rfl⟩ := GI_n (by omega) (by omega) c2
  have hdk := dN_n (show k < 2 ^ 31 by omega)
  have lm : ∀ g, ∀ k, k < 4 → fX13_leastOf g 109 (nI k) = some (nI (loM k), g) ∧ fX13_mostOf g 109 (nI k) = some (nI (hiM k), g) := by
    intro g k hk
    rcases (by omega : k = 0 ∨ k = 1 ∨ k = 2 ∨ k = 3) with rfl | rfl | rfl | rfl <;> exact ⟨rfl, rfl⟩
  obtain ⟨tl, th⟩ := lm (eg_sI h 54 0 0) k (by omega)
  rw [if_pos c20, tl, Option.bind_some]
  dsimp only
  rw [th, Option.bind_some]
  dsimp only
  rw [M_GIi _ v (nI (loM k)) (nI (hiM k)) _ _ rfl rfl, Option.bind_some]
  dsimp only
  rw [g01]
  by_cases c3 : GI (nI (loM k)) (nI (hiM k)) v
  rotate_left
  · have gg : ¬ gSet σ (nI k) v := fun z => c3 (by have := z.1.2; rw [hdk] at this; exact this)
    rw [if_neg c3, if_neg gg, if_neg gg]; exact ⟨_, rfl, ROk_scr R Q0⟩
  have hcl : (nI k).toNatClampNeg = k := nI_clamp (by omega)
  have v1 := R0.2.2.2.1.1 k (by omega)
  rw [if_pos c3, gR_54 s0, rf_54_18 s0, Option.bind_some, aI_59 s0 (nI_pos (by omega)) (by rw [hcl]; omega), hcl, Option.bind_some, v1]
  by_cases c6 : v = nI (sU σ k)
  · have gg : ¬ gSet σ (nI k) v := fun z => z.2 (by rw [hdk]; exact c6)
    rw [if_pos c6.symm, if_neg gg, if_neg gg]; exact ⟨_, rfl, ROk_scr R Q0⟩
  have gg : gSet σ (nI k) v := ⟨⟨⟨c1, c20⟩, by rw [hdk]; exact c3⟩, by rw [hdk]; exact c6⟩
  have l60 : loM k ≤ 1 ∧ hiM k ≤ 60 := by unfold loM hiM; constructor <;> (split <;> (try split) <;> omega)
  obtain ⟨n, n1, n2, rfl⟩ := GI_n (by omega) (by omega) c3
  rw [if_neg (fun z => c6 z.symm), if_pos gg, if_pos gg, Option.bind_some, wI_59 s0 (nI_pos (by omega)) (by rw [hcl]; omega), hcl, Option.bind_some, hdk]
  have W' := W_set R.2.1 c1 (show k < 4 by omega) n1 n2 (show n < 2 ^ 31 by omega)
  have eU := sU_S σ k n (by omega)
  have E1 : eg_eq [(54, some 0), (59, none)] h (eg_sI (eg_sI h 54 0 0) 59 k (nI n)) := eq_sI (eq_sI eq_rfl rfl) (by rfl)
  obtain ⟨_, W, t, vv, lb, f, w', m, g, i', j⟩ := R
  have t' : tapeM σ (eg_sI (eg_sI h 54 0 0) 59 k (nI n)) := tapeM_e E1 ⟨rfl, fun _ => rfl⟩ t
  have f' : RBf (eg_sI (eg_sI h 54 0 0) 59 k (nI n)) σ := RBf_e E1 ⟨rfl, fun _ => ⟨rfl, rfl⟩⟩ f
  have w'' : RBw (eg_sI (eg_sI h 54 0 0) 59 k (nI n)) σ := RBw_e E1 ⟨rfl, fun _ => ⟨rfl, rfl, rfl⟩⟩ w'
  have m' : RBm (eg_sI (eg_sI h 54 0 0) 59 k (nI n)) σ := RBm_e E1 ⟨rfl, fun _ => ⟨rfl, rfl, rfl, rfl⟩⟩ m
  have g' : RBg (eg_sI (eg_sI h 54 0 0) 59 k (nI n)) σ := RBg_e E1 ⟨rfl, fun _ => ⟨rfl, rfl, rfl⟩⟩ g
  have h'' : RBh (eg_sI (eg_sI h 54 0 0) 59 k (nI n)) σ := RBh_e E1 ⟨rfl, fun _ => ⟨rfl, rfl, rfl⟩⟩ i'
  have j' : RBj (eg_sI (eg_sI h 54 0 0) 59 k (nI n)) σ := RBj_e E1 ⟨rfl, fun _ => rfl⟩ j
  have l' : RBl (eg_sI (eg_sI h 54 0 0) 59 k (nI n)) σ := RBl_e E1 ⟨⟨rfl, rfl⟩, fun _ => ⟨rfl, rfl⟩⟩ lb
  have P6 := W.2.1.1
  have v' : RV (eg_sI (eg_sI h 54 0 0) 59 k (nI n)) (sU (stS σ k (nI n))) (sP σ) (sE σ) := by
    rw [eU]
    refine ⟨fun x hx => ?_, fun x hx => ?_, fun x hx => ?_, ?_, ?_⟩
    · rw [I_sI]
      unfold upU
      by_cases c : x = k
      · rw [if_pos ⟨rfl, c⟩, if_pos c]
      · rw [if_neg (fun z => c z.2), if_neg c, I_sI, if_neg (by omega)]; exact vv.1 x hx
    · rw [I_sI, if_neg (by omega), I_sI, if_neg (by omega)]
      unfold upU
      rw [if_neg (by omega)]; exact vv.2.1 x hx
    · rw [I_sI, if_neg (by omega), I_sI, if_neg (by omega)]
      unfold upU
      rw [if_neg (by omega)]; exact vv.2.2.1 x hx
    · rw [I_sI, if_neg (by omega), I_sI, if_neg (by omega)]; exact vv.2.2.2.1
    · rw [I_sI, if_neg (by omega), I_sI, if_neg (by omega)]; exact vv.2.2.2.2
  exact ⟨_, rfl, RI_in s0 W' t' v' l' f' w'' m' g' h'' j', eq_rfS E1 (by decide)⟩
end SE
