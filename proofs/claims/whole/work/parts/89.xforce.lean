theorem iI_neg (z : Int) : -(iI z) = iI (-z) := (Int32.ofInt_neg z).symm
def Sq (q : Option Nat) : List (Nat × Option Nat) := match q with
  | none => []
  | some p => [(p + 1, none), (p + 2, none)]
theorem cov_Sq {q : Option Nat} {r i : Nat} (h : ∀ p, q = some p → ¬ r = p + 1 ∧ ¬ r = p + 2) : eg_cov (Sq q) r i = false := by
  cases q with
  | none => rfl
  | some p =>
    obtain ⟨h1, h2⟩ := h p rfl
    have e1 : (p + 1 == r) = false := by simp; omega
    have e2 : (p + 2 == r) = false := by simp; omega
    unfold Sq eg_cov
    simp only [List.any_cons, List.any_nil, e1, e2, Bool.false_and, Bool.or_false]
def XT (h : eg_H) (T : eg_TT) : Prop := eg_I h 36 3 = nI (tS T) ∧ eg_I h 36 4 = nI (tH T) ∧ eg_I h 36 5 = nI (tA T) ∧ eg_I h 36 6 = nI (tR T) ∧ eg_I h 36 7 = iI (tW T) ∧ eg_I h 36 8 = nI (tL T)
def XL (h : eg_H) (q : Option Nat) (lw : eg_LW) : Prop := match q, lw with
  | none, none => True
  | some p, some f => 95 ≤ p ∧ ∃ t n w, pLaw t n = .inr w ∧ f = w.2 ∧ Lw h p w.1
  | _, _ => False
theorem XL_p {h : eg_H} {p : Nat} {lw : eg_LW} (L : XL h (some p) lw) : 95 ≤ p := by
  cases lw with
  | none => exact L.elim
  | some f => exact L.1
theorem Sq_95 {h : eg_H} {q : Option Nat} {lw : eg_LW} (L : XL h q lw) {r : Nat} (hr : r < 95) (i : Nat) : eg_cov (Sq q) r i = false := cov_Sq (fun p hp => by
  subst hp
  have := XL_p L
  omega)
theorem Sq_stt {h h' : eg_H} {q : Option Nat} {lw : eg_LW} (L : XL h q lw) (hs : eg_stt h) (E : eg_eq (Sq q) h h') : eg_stt h' := by
  refine ⟨by rw [eq_nc E]; exact hs.1, fun p hp => by rw [eq_kd E]; exact hs.2.1 p hp, fun t ht => ?_⟩
  have h9 : t.1 < 95 := by
    have : ∀ t ∈ eg_P0, t.1 < 95 := by decide
    exact this t ht
  rw [(E.2 t.1 t.2.1 (Sq_95 L h9 _)).2.2]
  exact hs.2.2 t ht
theorem XL_eq {h h' : eg_H} {q : Option Nat} {lw : eg_LW} (L : XL h q lw) (E : eg_eq (Sq q) h h') : XL h' q lw := by
  cases q with
  | none =>
    cases lw with
    | none => trivial
    | some f => exact L.elim
  | some p =>
    cases lw with
    | none => exact L.elim
    | some f =>
      obtain ⟨p9, t, n, w, h1, h2, l0, l1, l2, l3, l4, l5, l6, l7, l8, l9⟩ := L
      have hc : ∀ r i, ¬ r = p + 1 → ¬ r = p + 2 → eg_cov (Sq (some p)) r i = false := fun r i a b => cov_Sq (fun p' hp' => by cases hp'; exact ⟨a, b⟩)
      refine ⟨p9, t, n, w, h1, h2, l0, l1, by rw [eq_kd E]; exact l2, by rw [eq_kd E]; exact l3, by rw [eq_kd E]; exact l4, by rw [eq_kd E]; exact l5, ?_, ?_, ?_, fun k hk => ?_⟩
      · rw [(E.2 p 0 (hc _ _ (by omega) (by omega))).2.2]; exact l6
      · rw [(E.2 p 1 (hc _ _ (by omega) (by omega))).2.2]; exact l7
      · rw [(E.2 p 2 (hc _ _ (by omega) (by omega))).2.2]; exact l8
      · rw [(E.2 (p + 3) k (hc _ _ (by omega) (by omega))).1]; exact l9 k hk
def XO (h : eg_H) (T : eg_TT) (q : Option Nat) (lw : eg_LW) : Prop := eg_stt h ∧ Tok T ∧ eg_P h 36 2 = q ∧ XT h T ∧ XL h q lw
theorem XO_eq {h h' : eg_H} {T : eg_TT} {q : Option Nat} {lw : eg_LW} (O : XO h T q lw) (E : eg_eq (Sq q) h h') : XO h' T q lw := by
  obtain ⟨o1, o2, o3, ⟨t1, t2, t3, t4, t5, t6⟩, o5⟩ := O
  have c : ∀ i, eg_cov (Sq q) 36 i = false := fun i => Sq_95 o5 (by decide) i
  refine ⟨Sq_stt o5 o1 E, o2, by rw [(E.2 36 2 (c _)).2.2]; exact o3, ⟨?_, ?_, ?_, ?_, ?_, ?_⟩, XL_eq o5 E⟩
  · rw [(E.2 36 3 (c _)).1]; exact t1
  · rw [(E.2 36 4 (c _)).1]; exact t2
  · rw [(E.2 36 5 (c _)).1]; exact t3
  · rw [(E.2 36 6 (c _)).1]; exact t4
  · rw [(E.2 36 7 (c _)).1]; exact t5
  · rw [(E.2 36 8 (c _)).1]; exact t6
theorem X_85 (h : eg_H) {x : Int32} {z : Int} (hz : i3 z) (hx : x = iI z) : fX11_forceBy_j85 h x = some (nI (cf z), h) := by
  subst hx
  unfold fX11_forceBy_j85 cf
  by_cases c1 : z < 0
  · rw [if_neg (fun w : (0 : Int32) ≤ iI z => by have := (iI_le (a := 0) (by unfold i3; omega) hz).mp w; omega), if_pos c1]; rfl
  · rw [if_pos (show (0 : Int32) ≤ iI z from (iI_le (a := 0) (by unfold i3; omega) hz).mpr (by omega)), if_neg c1]
    by_cases c2 : 999 < z
    · rw [if_neg (fun w : iI z ≤ (999 : Int32) => by have := (iI_le (b := 999) hz (by unfold i3; omega)).mp w; omega), if_pos c2]; rfl
    · rw [if_pos (show iI z ≤ (999 : Int32) from (iI_le (b := 999) hz (by unfold i3; omega)).mpr (by omega)), if_neg c2, ← iI_n]
      congr 2
      congr 1
      omega
theorem envF_bd {y b a : Nat} {w off : Int} (hy : y ≤ 60) (hb : b ≤ 9) (ha : a ≤ 9) (hw : -9 ≤ w ∧ w ≤ 9) (ho : -99 ≤ off ∧ off ≤ 99) : bd (envF y b a w off) := by
  intro l
  unfold envF
  split
  · rw [← iI_n, iI_t (by unfold i3; omega)]; omega
  · split
    · rw [← iI_n, iI_t (by unfold i3; omega)]; omega
    · split
      · rw [← iI_n, iI_t (by unfold i3; omega)]; omega
      · split
        · rw [iI_t (by unfold i3; omega)]; omega
        · split
          · rw [iI_t (by unfold i3; omega)]; omega
          · exact ⟨by decide, by decide⟩
theorem tell_eq {h : eg_H} {p : Nat} {C : List Int32} (L : Lw h p C) (x0 x1 x2 x3 x4 : Int32) : fX5_tell h p x0 x1 x2 x3 x4 = some (eg_sI (eg_sI (eg_sI (eg_sI (eg_sI h (p + 2) 0 x0) (p + 2) 1 x1) (p + 2) 2 x2) (p + 2) 3 x3) (p + 2) 4 x4) := by
  have hO : eg_isO h 5 p := Lw_o L
  have hw : ∀ (g : eg_H), g.1 = h.1 → ∀ (i : Nat), i < 5 → ∀ x, eg_wI g 100 (p + 2) (nI i) x = some (eg_sI g (p + 2) i x) := by
    intro g hg i hi x
    have hcl : (nI i).toNatClampNeg = i := nI_clamp (by omega)
    have hk : eg_kd g (p + 2) = (100, 5) := by unfold eg_kd; rw [hg]; exact L.2.2.2.2.1
    unfold eg_wI
    rw [if_pos ⟨by have := L.1; omega, by rw [hk], nI_pos (by omega), by rw [hk, hcl]; exact hi⟩, hcl]
  have hr : ∀ (g : eg_H), g.1 = h.1 → g.2.2.2 = h.2.2.2 → eg_gR g 5 2 p = some (p + 2) := by
    intro g hg hp
    unfold eg_gR
    rw [if_pos (show eg_isO g 5 p from ⟨L.1, by unfold eg_kd; rw [hg]; exact L.2.2.1⟩)]
    show g.2.2.2 p 2 = _
    rw [hp]
    exact L.2.2.2.2.2.2.2.2.1
  unfold fX5_tell
  rw [if_pos hO, hr h rfl rfl, Option.bind_some, show (0 : Int32) = nI 0 from rfl, hw h rfl 0 (by omega), Option.bind_some, hr (eg_sI h (p + 2) 0 x0) rfl rfl, Option.bind_some, show (1 : Int32) = nI 1 from rfl, hw (eg_sI h (p + 2) 0 x0) rfl 1 (by omega), Option.bind_some, hr (eg_sI (eg_sI h (p + 2) 0 x0) (p + 2) 1 x1) rfl rfl, Option.bind_some, show (2 : Int32) = nI 2 from rfl, hw (eg_sI (eg_sI h (p + 2) 0 x0) (p + 2) 1 x1) rfl 2 (by omega), Option.bind_some, hr (eg_sI (eg_sI (eg_sI h (p + 2) 0 x0) (p + 2) 1 x1) (p + 2) 2 x2) rfl rfl, Option.bind_some, show (3 : Int32) = nI 3 from rfl, hw (eg_sI (eg_sI (eg_sI h (p + 2) 0 x0) (p + 2) 1 x1) (p + 2) 2 x2) rfl 3 (by omega), Option.bind_some, hr (eg_sI (eg_sI (eg_sI (eg_sI h (p + 2) 0 x0) (p + 2) 1 x1) (p + 2) 2 x2) (p + 2) 3 x3) rfl rfl, Option.bind_some, show (4 : Int32) = nI 4 from rfl, hw (eg_sI (eg_sI (eg_sI (eg_sI h (p + 2) 0 x0) (p + 2) 1 x1) (p + 2) 2 x2) (p + 2) 3 x3) rfl 4 (by omega), Option.bind_some]
theorem td_4 (y : Nat) : (y : Int).tdiv 4 = (y : Int) / 4 := Int.tdiv_eq_ediv_of_nonneg (by omega)
theorem X_force {h : eg_H} {T : eg_TT} {q : Option Nat} {lw : eg_LW} (hs : eg_stt h) (hA : eg_I h 36 5 = nI (tA T)) (hW : eg_I h 36 7 = iI (tW T)) (hk : Tok T) (L : XL h q lw) {y b : Nat} {off : Int} (hy : y ≤ 60) (hb : b ≤ 9) (ho : -99 ≤ off ∧ off ≤ 99) :
    ∃ h', fX11_forceBy h 36 q (nI y) (nI b) (iI off) = some (nI (frc lw (tA T) (tW T) y b off), h') ∧ eg_eq (Sq q) h h' := by
  obtain ⟨k1, k2, k3, k4, k5, k6, k7⟩ := hk
  unfold fX11_forceBy
  rw [if_pos (iO_36 hs)]
  cases q with
  | none =>
    cases lw with
    | some f => exact L.elim
    | none =>
      refine ⟨h, ?_, eq_rfl⟩
      rw [if_pos rfl, Option.bind_some]
      have i60 : i3 (y : Int) := by unfold i3; omega
      have e4 : nI b - nI y / 4 = iI ((b : Int) - (y : Int) / 4) := by
        rw [← iI_n, ← iI_n, show (4 : Int32) = iI 4 from rfl, iI_div i60 (by unfold i3; omega) (by rw [td_4]; unfold i3; omega), td_4, iI_sub]
      have hi : i3 ((b : Int) - (y : Int) / 4) := by unfold i3; omega
      have j28 : ∀ z : Int, z = (((b : Int) - (y : Int) / 4).natAbs : Int) → fX11_forceBy_j28 h 36 (iI off) ((2 : Int32) * nI y) 3 (iI z) = some (nI (frc none (tA T) (tW T) y b off), h) := by
        intro z hz
        unfold fX11_forceBy_j28
        rw [gI_36 hs, Option.bind_some, gI_36 hs, Option.bind_some, hA, hW]
        have i0 : i3 off := by unfold i3; omega
        have hh : ((2 : Int32) * nI y + 3 * iI z - 2 * nI (tA T) - iI (tW T)) = iI (2 * y + 3 * z - 2 * (tA T) - tW T) := by
          rw [← iI_n, ← iI_n, show (2 : Int32) = iI 2 from rfl, show (3 : Int32) = iI 3 from rfl, iI_mul, iI_mul, iI_mul, iI_add, iI_sub, iI_sub]
        have c0 : (iI off ≤ (0 : Int32)) ↔ ¬ 0 < off := by
          have := iI_le (b := 0) i0 (by unfold i3; omega)
          exact this.trans (by omega)
        rw [hh]
        unfold frc fz
        dsimp only
        rw [← hz]
        by_cases c : 0 < off
        · rw [if_neg (fun w => (c0.mp w) c), if_pos c]
          unfold fX11_forceBy_j57
          rw [Option.bind_some, iI_add]
          exact X_85 h (by unfold i3; omega) rfl
        · rw [if_pos (c0.mpr c), if_neg c]
          unfold fX11_forceBy_j57
          rw [show (-3 : Int32) = iI (-3) by decide, iI_mul, Option.bind_some, iI_add]
          exact X_85 h (by unfold i3; omega) rfl
      rw [e4]
      by_cases c : 0 ≤ (b : Int) - (y : Int) / 4
      · rw [if_pos (show (0 : Int32) ≤ iI _ from (iI_le (a := 0) (by unfold i3; omega) hi).mpr c)]
        exact j28 _ (by omega)
      · rw [if_neg (fun w : (0 : Int32) ≤ iI _ => c ((iI_le (a := 0) (by unfold i3; omega) hi).mp w)), iI_neg]
        exact j28 _ (by omega)
  | some p =>
    cases lw with
    | none => exact L.elim
    | some f =>
      obtain ⟨p9, t, n, w, h1, h2, l⟩ := L
      have hcov : ∀ i, eg_cov (Sq (some p)) (p + 2) i = true := fun i => by
        unfold Sq eg_cov
        simp
      let g := eg_sI (eg_sI (eg_sI (eg_sI (eg_sI h (p + 2) 0 (nI y)) (p + 2) 1 (nI b)) (p + 2) 2 (nI (tA T))) (p + 2) 3 (iI (tW T))) (p + 2) 4 (iI off)
      have E1 : eg_eq (Sq (some p)) h g := eq_sI (eq_sI (eq_sI (eq_sI (eq_sI eq_rfl (hcov _)) (hcov _)) (hcov _)) (hcov _)) (hcov _)
      have L1 : XL g (some p) (some f) := XL_eq (show XL h (some p) (some f) from ⟨p9, t, n, w, h1, h2, l⟩) E1
      have hlg : Lw g p w.1 := by
        obtain ⟨l0, l1, l2, l3, l4, l5, l6, l7, l8, l9⟩ := l
        refine ⟨l0, l1, l2, l3, l4, l5, l6, l7, l8, fun k hk => ?_⟩
        have hc : eg_cov (Sq (some p)) (p + 3) k = false := cov_Sq (fun p' hp' => by cases hp'; omega)
        rw [(E1.2 (p + 3) k hc).1]; exact l9 k hk
      have T5 : Lt5 g p (envF y b (tA T) (tW T) off) := by
        intro j hj
        show eg_I (eg_sI (eg_sI (eg_sI (eg_sI (eg_sI h (p + 2) 0 (nI y)) (p + 2) 1 (nI b)) (p + 2) 2 (nI (tA T))) (p + 2) 3 (iI (tW T))) (p + 2) 4 (iI off)) (p + 2) j = _
        rw [I_sI, I_sI, I_sI, I_sI, I_sI]
        unfold envF
        rcases (by omega : j = 0 ∨ j = 1 ∨ j = 2 ∨ j = 3 ∨ j = 4) with rfl | rfl | rfl | rfl | rfl
        · rw [if_neg (by omega), if_neg (by omega), if_neg (by omega), if_neg (by omega), if_pos ⟨rfl, rfl⟩, if_pos rfl]
        · rw [if_neg (by omega), if_neg (by omega), if_neg (by omega), if_pos ⟨rfl, rfl⟩, if_neg (by omega), if_pos rfl]
        · rw [if_neg (by omega), if_neg (by omega), if_pos ⟨rfl, rfl⟩, if_neg (by omega), if_neg (by omega), if_pos rfl]
        · rw [if_neg (by omega), if_pos ⟨rfl, rfl⟩, if_neg (by omega), if_neg (by omega), if_neg (by omega), if_pos rfl]
        · rw [if_pos ⟨rfl, rfl⟩, if_neg (by omega), if_neg (by omega), if_neg (by omega), if_neg (by omega), if_pos rfl]
      obtain ⟨h', e, E⟩ := X_worth (env := envF y b (tA T) (tW T) off) h1 hlg T5
      refine ⟨h', ?_, eq_tr E1 (eq_mono E (fun r i hc => ?_))⟩
      · rw [if_neg (by simp), gI_36 hs, Option.bind_some, gI_36 hs, Option.bind_some, Option.bind_some, hA, hW, tell_eq l, Option.bind_some]
        show ((fX5_worth g p).bind _) = _
        rw [e, Option.bind_some]
        show fX11_forceBy_j85 h' _ = some (nI (cf (f (envF y b (tA T) (tW T) off)).toInt), h')
        rw [h2]
        exact X_85 h' (i3_t _) (iI_o _).symm
      · rw [cov_Sw]
        have hne : ¬ r = p + 1 := by
          intro z
          subst z
          unfold Sq eg_cov at hc
          simp at hc
        simp [hne]
