def nx (x : Int64) : Int64 := x * (6364136223846793005 : Int64) + (1442695040888963407 : Int64)
def drN (x : Int64) (s : Nat) : Nat := x.toUInt64.toNat / 2 ^ 33 % (2 * s + 1)
theorem sh33 (x : Int64) : (x.toUInt64 >>> ((33 : Int32).toInt64.toUInt64 &&& Int64.toUInt64 63)).toInt64 = jI ((x.toUInt64.toNat / 2 ^ 33 : Nat) : Int) := by
  have e0 : ((33 : Int32).toInt64.toUInt64 &&& Int64.toUInt64 63) = 33 := by decide
  have e1 : (x.toUInt64 >>> (33 : UInt64)).toNat = x.toUInt64.toNat / 2 ^ 33 := by
    rw [UInt64.toNat_shiftRight, Nat.shiftRight_eq_div_pow]
    rfl
  have hlt : x.toUInt64.toNat < 2 ^ 64 := UInt64.toNat_lt _
  rw [e0]
  apply Int64.toInt_inj.mp
  rw [jI_t (by unfold i6; omega), ← e1]
  have h2 : (x.toUInt64 >>> (33 : UInt64)).toNat < 2 ^ 63 := by rw [e1]; omega
  have h3 : ∀ u : UInt64, u.toNat < 2 ^ 63 → u.toInt64.toInt = (u.toNat : Int) := by
    intro u hu
    show u.toBitVec.toInt = _
    rw [BitVec.toInt_eq_toNat_of_lt (by show 2 * u.toNat < 2 ^ 64; omega)]
    rfl
  exact h3 _ h2
theorem dr_e (x : Int64) {s : Nat} (hs : s ≤ 5) : ¬ (nI (2 * s + 1)).toInt64 = 0 ∧ ((x.toUInt64 >>> ((33 : Int32).toInt64.toUInt64 &&& Int64.toUInt64 63)).toInt64 - (x.toUInt64 >>> ((33 : Int32).toInt64.toUInt64 &&& Int64.toUInt64 63)).toInt64 / (nI (2 * s + 1)).toInt64 * (nI (2 * s + 1)).toInt64).toInt32 - nI s = iI ((drN x s : Int) - s) := by
  have hlt : x.toUInt64.toNat < 2 ^ 64 := UInt64.toNat_lt _
  have hd : x.toUInt64.toNat / 2 ^ 33 < 2 ^ 31 := by omega
  have hm : drN x s < 2 * s + 1 := Nat.mod_lt _ (by omega)
  refine ⟨?_, ?_⟩
  · rw [nW (by omega)]
    intro z
    have := (jI_eq (b := 0) (by unfold i6; omega) (by unfold i6; omega)).mp z
    omega
  · rw [sh33, nW (by omega)]
    unfold drN at hm ⊢
    generalize x.toUInt64.toNat / 2 ^ 33 = a at hd hm ⊢
    have h1 := Nat.mod_add_div a (2 * s + 1)
    have hq : a / (2 * s + 1) ≤ a := Nat.div_le_self _ _
    have e3 : ((a : Nat) : Int).tdiv ((2 * s + 1 : Nat) : Int) = ((a / (2 * s + 1) : Nat) : Int) := by
      rw [Int.tdiv_eq_ediv_of_nonneg (by omega), Int.natCast_ediv]
    have h0 : (0 : Int) ≤ ((a / (2 * s + 1) : Nat) : Int) := Int.natCast_nonneg _
    have h4 : ((a / (2 * s + 1) : Nat) : Int) ≤ (a : Int) := by exact_mod_cast hq
    have e4 : (a : Int) - ((a / (2 * s + 1) : Nat) : Int) * ((2 * s + 1 : Nat) : Int) = ((a % (2 * s + 1) : Nat) : Int) := by
      have h2 : ((a % (2 * s + 1) : Nat) : Int) + ((2 * s + 1 : Nat) : Int) * ((a / (2 * s + 1) : Nat) : Int) = (a : Int) := by exact_mod_cast h1
      rw [Int.mul_comm]
      omega
    rw [jI_div (by unfold i6; omega) (by unfold i6; omega) (by rw [e3]; unfold i6; generalize ((a / (2 * s + 1) : Nat) : Int) = z at h0 h4; omega), e3, jI_mul, jI_sub, e4, jW (by omega), ← iI_n, ← iI_n, iI_sub]
def cgt (lw : eg_LW) (T : eg_TT) (y : Nat) (x : Int64) : Bool := hT lw T y (bst lw T y / 11) (lo T (bst lw T y / 11) ((bst lw T y % 11 : Nat) - 5) + drN (nx x) (tS T))
section DW
variable {h : eg_H} {σ : eg_S} {B : Nat × Nat}
theorem XTL_sL {T : eg_TT} (X : XTL h σ B T) (x : Int64) : XTL (eg_sL h 36 9 x) σ B T ∧ eg_gc h (eg_sL h 36 9 x) := by
  obtain ⟨X, o1, o2, o3, o4, o5⟩ := X
  have E1 : eg_eq [(36, some 9)] h (eg_sL h 36 9 x) := eq_sL eq_rfl rfl
  have G : eg_gr Sx h (eg_sL h 36 9 x) := gr_sub (by decide) (gr_eq E1 (by decide))
  have C1 : XC (eg_sL h 36 9 x) (sU σ) (sP σ) (sE σ) (sL σ) (eg_P h 36 2) (σ.1 11) B := XC_low X.2.2.1 E1 (by decide) (by decide) ⟨rfl, rfl, rfl, rfl, fun _ => ⟨rfl, rfl⟩⟩
  have O := XOk_scr X G C1
  exact ⟨⟨O.1, o1, o2, rfl, o4, gr_XL G o5⟩, O.2⟩
theorem Sq_L9 {h' : eg_H} (X : XI h σ B) (E : eg_eq (Sq (eg_P h 36 2)) h h') : eg_L h' 36 9 = eg_L h 36 9 := (E.2 36 9 (Sq_95 X.2.2.1.2.2.2.1 (by omega) 9)).2.1
theorem X_cbd {T : eg_TT} {y k g : Nat} {x : Int64} (X : XTL h σ B T) (hx : eg_L h 36 9 = x) (hy : y ≤ 60) (hk : k < 110) (hg : g ≤ 11) : ∃ h', fX11_isCaughtByDraw h 36 (nI (pk k g)) (nI y) = some (if hT (sL σ) T y (k / 11) (lo T (k / 11) ((k % 11 : Nat) - 5) + drN (nx x) (tS T)) = true then 1 else 0, h') ∧ XTL h' σ B T ∧ eg_gc h h' ∧ eg_L h' 36 9 = nx x ∧ eg_gr [(36, some 9)] h h' := by
  have hs := X.2.1
  obtain ⟨k1, k2, k3, k4, k5, k6, k7⟩ := X.2.2.1
  obtain ⟨X1, g1⟩ := XTL_sL X (nx x)
  have s1 := X1.2.1
  obtain ⟨t1, t2, t3, t4, t5, t6⟩ := X1.2.2.2.2.1
  have o3 := X1.2.2.2.1
  have l9 : eg_L (eg_sL h 36 9 (nx x)) 36 9 = nx x := by rw [L_sL, if_pos ⟨rfl, rfl⟩]
  have G1 : eg_gr [(36, some 9)] h (eg_sL h 36 9 (nx x)) := gr_eq (eq_sL eq_rfl rfl) (by decide)
  have hbw : k / 11 ≤ 9 := by omega
  have hd : drN (nx x) (tS T) < 2 * tS T + 1 := Nat.mod_lt _ (by omega)
  obtain ⟨d1, d2⟩ := dr_e (nx x) k1
  have eds : fX11_drawSlip h 36 = some (iI ((drN (nx x) (tS T) : Int) - tS T), eg_sL h 36 9 (nx x)) := by
    unfold fX11_drawSlip
    rw [if_pos (iO_36 hs), gL_36 hs, Option.bind_some, hx, pL_36 hs, Option.bind_some]
    show ((eg_gI (eg_sL h 36 9 (nx x)) 11 3 36).bind _) = _
    rw [gI_36 s1, Option.bind_some, t1, nI_k2, nI_1, Option.bind_some, if_pos (show (0 : Int32) < nI (2 * tS T + 1) from nI_lt (a := 0) (by omega) (by omega))]
    show ((eg_gL (eg_sL h 36 9 (nx x)) 11 9 36).bind _) = _
    rw [gL_36 s1, Option.bind_some, l9, if_neg d1]
    show ((eg_gI (eg_sL h 36 9 (nx x)) 11 3 36).bind _) = _
    rw [gI_36 s1, Option.bind_some, t1, d2]
    rfl
  have eoff : iI (((k % 11 : Nat) : Int) - 5) + iI ((drN (nx x) (tS T) : Int) - tS T) + iI (tW T) * nI (k / 11) / 4 = iI (lo T (k / 11) ((k % 11 : Nat) - 5) + drN (nx x) (tS T)) := by
    have e := lo_eq (aim := ((k % 11 : Nat) : Int) - 5) ⟨k1, k2, k3, k4, k5, k6, k7⟩ hbw
    rw [Int32.add_assoc, Int32.add_comm (iI ((drN (nx x) (tS T) : Int) - tS T)), ← Int32.add_assoc, e, iI_add]
    unfold lo
    congr 1
    omega
  have hwb := wb_b (w := tW T) (b := k / 11) ⟨k5, k6⟩ hbw
  have htd : -21 ≤ (tW T * (k / 11 : Nat)).tdiv 4 ∧ (tW T * (k / 11 : Nat)).tdiv 4 ≤ 21 := by
    generalize tW T * ((k / 11 : Nat) : Int) = z at hwb
    by_cases c : z < 0
    · have : z.tdiv 4 = -((-z).tdiv 4) := by rw [Int.neg_tdiv, Int.neg_neg]
      rw [this, Int.tdiv_eq_ediv_of_nonneg (by omega)]
      omega
    · rw [Int.tdiv_eq_ediv_of_nonneg (by omega)]
      omega
  have hoff : -99 ≤ lo T (k / 11) ((k % 11 : Nat) - 5) + drN (nx x) (tS T) ∧ lo T (k / 11) ((k % 11 : Nat) - 5) + drN (nx x) (tS T) ≤ 99 := by
    unfold lo
    omega
  generalize hz : lo T (k / 11) (((k % 11 : Nat) : Int) - 5) + (drN (nx x) (tS T) : Int) = off at eoff hoff
  unfold fX11_isCaughtByDraw
  rw [if_pos (iO_36 hs), X_bowIn h hk hg, Option.bind_some]
  dsimp only
  rw [X_aimIn h hk hg, Option.bind_some]
  dsimp only
  rw [eds, Option.bind_some]
  dsimp only
  rw [gI_36 s1, Option.bind_some, t5, eoff, Option.bind_some, gI_36 s1, Option.bind_some, t4]
  have er : -(nI (tR T)) = iI (-(tR T : Int)) := by rw [← iI_n, iI_neg]
  by_cases c1 : off < -(tR T : Int)
  · rw [if_pos (show iI off < -(nI (tR T)) by rw [er]; exact (iI_lt (by unfold i3; omega) (by unfold i3; omega)).mpr c1), if_neg (hT_out _ _ _ _ (Or.inl c1))]
    exact ⟨_, rfl, X1, g1, l9, G1⟩
  rw [if_neg (show ¬ iI off < -(nI (tR T)) by rw [er]; exact fun z => c1 ((iI_lt (by unfold i3; omega) (by unfold i3; omega)).mp z)), Option.bind_some]
  by_cases c2 : (tR T : Int) < off
  · rw [if_pos (show nI (tR T) < iI off by rw [← iI_n]; exact (iI_lt (by unfold i3; omega) (by unfold i3; omega)).mpr c2), if_neg (hT_out _ _ _ _ (Or.inr c2))]
    exact ⟨_, rfl, X1, g1, l9, G1⟩
  rw [if_neg (show ¬ nI (tR T) < iI off by rw [← iI_n]; exact fun z => c2 ((iI_lt (by unfold i3; omega) (by unfold i3; omega)).mp z)), gQ_36 s1, Option.bind_some]
  obtain ⟨h2, e2, E2⟩ := X_force s1 t3 t5 ⟨k1, k2, k3, k4, k5, k6, k7⟩ X1.2.2.2.2.2 hy hbw hoff
  obtain ⟨X2, g2⟩ := XTL_law X1 E2
  have l92 : eg_L h2 36 9 = nx x := by rw [Sq_L9 X1.1 E2]; exact l9
  have t62 : eg_I h2 36 8 = nI (tL T) := X2.2.2.2.2.1.2.2.2.2.2
  have hf9 : frc (sL σ) (tA T) (tW T) y (k / 11) off ≤ 999 := cf_le _
  refine ⟨h2, ?_, X2, gc_tr g1 g2, l92, gr_tr G1 (gr_sub (fun t ht => by cases ht) (gr_Sq X1.2.2.2.2.2 E2))⟩
  rw [e2, Option.bind_some]
  dsimp only
  rw [gI_36 X2.2.1, Option.bind_some, t62]
  by_cases c3 : frc (sL σ) (tA T) (tW T) y (k / 11) off ≤ tL T
  · rw [if_neg (nI_nlt c3 (by omega)), if_pos (show hT (sL σ) T y (k / 11) off = true from decide_eq_true ⟨by omega, by omega, c3⟩)]
  · rw [if_pos (nI_lt (by omega) (by omega)), if_neg (show ¬ hT (sL σ) T y (k / 11) off = true from fun z => c3 (of_decide_eq_true z).2.2)]
def Sdw : List (Nat × Option Nat) := [(36, some 3), (36, some 4), (36, some 5), (36, some 6), (36, some 7), (36, some 8), (39, none), (36, some 9)]
theorem X_draw (X : XI h σ B) {x : Int64} (hx : eg_L h 36 9 = x) {a b e d k y : Nat} (ha : a < sP σ) (hb : b < sP σ) (he : e < sE σ) (hd : d ≤ 1) (hk : k ≤ 1000) (hy : y ≤ 60) : ∃ h', fX12_isCaughtByDraw h 16 (nI (10 * a + b)) (nI (10 * e + d)) (nI k) (nI y) = some (if cgt (sL σ) (tK (sU σ) (sU σ 0) a b e d k) y x = true then 1 else 0, h') ∧ XOk h h' σ B ∧ eg_L h' 36 9 = nx x ∧ eg_gr Sdw h h' := by
  have C := X.2.2.1
  have hs := C.1
  have hP := XI_P X
  have hU := XI_U X (by omega)
  have fa : fOd k a b < sP σ := by unfold fOd; split <;> assumption
  have fb : fOd k b a < sP σ := by unfold fOd; split <;> assumption
  have fd : fOd k d (1 - d) ≤ 1 := by unfold fOd; split <;> omega
  obtain ⟨h1, e1, G1', C1⟩ := X_of C hU fa fb he fd (y := y) hy hU.1.2.2.1
  have T := tOf_ok (d := fOd k d (1 - d)) hU hU.1.2.2.1 fa fb he
  have hb1 := bst_lt (lw := sL σ) T y
  have hg1 := bgd_le (lw := sL σ) T y
  have O1 := XOk_scr X (Sc_x G1') C1
  have s1 := C1.1
  obtain ⟨h2, e2, E2, T2⟩ := X_take s1 C1.2.1 hU (wd := sU σ 0) fa fb he fd
  have G2' : eg_gr Sx h1 h2 := gr_sub (by decide) (gr_eq E2 (by decide))
  have C2 : XC h2 (sU σ) (sP σ) (sE σ) (sL σ) (eg_P h1 36 2) (σ.1 11) B := XC_low O1.1.2.2.1 E2 (by decide) (by decide) ⟨rfl, rfl, rfl, rfl, fun _ => ⟨rfl, rfl⟩⟩
  have O2 := XOk_scr O1.1 G2' C2
  have X2 : XTL h2 σ B (tOf (sU σ) (sU σ 0) (fOd k a b) (fOd k b a) e (fOd k d (1 - d))) := ⟨O2.1, by rw [C2.2.2.1]; exact ⟨C2.1, T, C2.2.2.1, T2, C2.2.2.2.1⟩⟩
  have l2 : eg_L h2 36 9 = x := by rw [(E2.2 36 9 rfl).2.1, (G1'.2.1 36 9 (by omega) rfl).2.1]; exact hx
  obtain ⟨h3, e3, X3, g3, l3, G3⟩ := X_cbd X2 l2 hy hb1 hg1
  have e0 : fX7_told h 23 0 = some (nI (sU σ 0), h) := X_told hs C.2.1 (x := 0) (by omega)
  have e01 : fX7_told h1 23 0 = some (nI (sU σ 0), h1) := X_told s1 C1.2.1 (x := 0) (by omega)
  refine ⟨h3, ?_, XOk_tr O1 (XOk_tr O2 ⟨X3.1, g3⟩), l3, gr_tr (gr_sub (by decide) G1') (gr_tr (gr_sub (by decide) (gr_eq E2 (by decide))) (gr_sub (by decide) G3))⟩
  unfold fX12_isCaughtByDraw
  rw [if_pos (iO_16 hs), X_twoOf h hk (by omega) (by omega), Option.bind_some]
  dsimp only
  rw [X_endOf h hk (by omega) hd, Option.bind_some]
  dsimp only
  rw [gR_16 hs, rf_16_16 hs, Option.bind_some, gR_16 hs, rf_16_3 hs, Option.bind_some, e0, Option.bind_some]
  dsimp only
  rw [e1, Option.bind_some]
  dsimp only
  rw [gR_16 s1, rf_16_15 s1, Option.bind_some, gR_16 s1, rf_16_3 s1, Option.bind_some, e01, Option.bind_some]
  dsimp only
  rw [e2, Option.bind_some, gR_16 C2.1, rf_16_15 C2.1, Option.bind_some, e3, Option.bind_some]
  dsimp only
  show (if (if cgt (sL σ) (tK (sU σ) (sU σ 0) a b e d k) y x = true then (1 : Int32) else 0) = 0 ∨ (if cgt (sL σ) (tK (sU σ) (sU σ 0) a b e d k) y x = true then (1 : Int32) else 0) = 1 then _ else _) = _
  by_cases c : cgt (sL σ) (tK (sU σ) (sU σ 0) a b e d k) y x = true
  · rw [if_pos c, if_pos (Or.inr rfl)]
    show some ((if cgt (sL σ) (tK (sU σ) (sU σ 0) a b e d k) y x = true then (1 : Int32) else 0), h3) = _
    rw [if_pos c]
  · rw [if_neg c, if_pos (Or.inl rfl)]
    show some ((if cgt (sL σ) (tK (sU σ) (sU σ 0) a b e d k) y x = true then (1 : Int32) else 0), h3) = _
    rw [if_neg c]
def gmF (σ : eg_S) (a b e d : Nat) : Nat → Nat → Int64 → Nat
  | 0, n, _ => n
  | j + 1, n, x => if 60 < sU σ 3 + n * sU σ 2 then n else if cgt (sL σ) (tK (sU σ) (sU σ 0) a b e d (n + 1)) (sU σ 3 + n * sU σ 2) x = true then gmF σ a b e d j (n + 1) (nx x) else n
theorem gm_le (σ : eg_S) (a b e d : Nat) : ∀ j n x, gmF σ a b e d j n x ≤ n + j := by
  intro j
  induction j with
  | zero => intro n x; exact Nat.le_refl _
  | succ j ih =>
    intro n x
    unfold gmF
    split
    · omega
    · split
      · have := ih (n + 1) (nx x); omega
      · omega
abbrev gGam (σ : eg_S) (two c : Int32) : Prop := (G2 (sP σ) two ∧ GE (sE σ) c) ∧ σ.1 8 < 40
def gaN (σ : eg_S) (two c : Int32) (x : Int64) : Nat := gmF σ (dA two) (dB two) (dA c) (dB c) 60 0 x
def aGame (σ : eg_S) (two c : Int32) (x : Int64) : Int32 := if gGam σ two c then nI (gaN σ two c x) else -1
def sGame (σ : eg_S) (two c : Int32) (x : Int64) : eg_S := if gGam σ two c then st_row σ 8 6 two c (nI (gaN σ two c x)) 0 else σ
def exG (x : (Nat × Int32 × Int32 × Int32 × eg_H) ⊕ (Nat × Int32 × Int32 × Int32 × eg_H)) : Nat × Int32 × Int32 × Int32 × eg_H := match x with
  | .inl z => z
  | .inr z => z
theorem X_game_L {a b e d : Nat} (ha : a < sP σ) (hb : b < sP σ) (he : e < sE σ) (hd : d ≤ 1) : ∀ j n h x F, n + j = 60 → j < F → XI h σ B → eg_L h 36 9 = x → ∃ h' z, fX12_game_L35 F h 16 (nI (10 * a + b)) (nI (10 * e + d)) (nI n) (nI (n + 1)) = some z ∧ exG z = (16, nI (10 * a + b), nI (10 * e + d), nI (gmF σ a b e d j n x), h') ∧ XOk h h' σ B := by
  intro j
  induction j with
  | zero =>
    intro n h x F hn hF X hx
    obtain ⟨F, rfl⟩ : ∃ F', F = F' + 1 := ⟨F - 1, by omega⟩
    obtain rfl : n = 60 := by omega
    exact ⟨h, _, by rw [fX12_game_L35, if_pos (by decide)], rfl, XOk_rfl X⟩
  | succ j ih =>
    intro n h x F hn hF X hx
    obtain ⟨F, rfl⟩ : ∃ F', F = F' + 1 := ⟨F - 1, by omega⟩
    have C := X.2.2.1
    have hs := C.1
    have hU := XI_U X (by omega)
    have e2 : fX7_told h 23 2 = some (nI (sU σ 2), h) := X_told hs C.2.1 (x := 2) (by omega)
    have hm : n * sU σ 2 ≤ 60 * 9 := Nat.mul_le_mul (by omega) hU.1.2.2.2.2.2.1
    have h3 := hU.1.2.2.2.2.2.2.2
    rw [fX12_game_L35, if_neg (show ¬ (60 : Int32) < nI (n + 1) from nI_nlt (a := 60) (by omega) (by omega)), gR_16 hs, rf_16_3 hs, Option.bind_some, Option.bind_some, e2, Option.bind_some]
    dsimp only
    rw [X_yards hs C.2.1 (by omega), Option.bind_some, show n + 1 - 1 = n by omega]
    dsimp only
    unfold gmF
    by_cases c : 60 < sU σ 3 + n * sU σ 2
    · rw [if_pos (show (60 : Int32) < nI (sU σ 3 + n * sU σ 2) from nI_lt (a := 60) c (by omega)), if_pos c]
      exact ⟨h, _, rfl, rfl, XOk_rfl X⟩
    · obtain ⟨h1, e1, O1, l1, _⟩ := X_draw X hx ha hb he hd (k := n + 1) (y := sU σ 3 + n * sU σ 2) (by omega) (by omega)
      rw [if_neg (show ¬ (60 : Int32) < nI (sU σ 3 + n * sU σ 2) from nI_nlt (a := 60) (by omega) (by omega)), if_neg c, e1, Option.bind_some]
      dsimp only
      rw [g01]
      by_cases c2 : cgt (sL σ) (tK (sU σ) (sU σ 0) a b e d (n + 1)) (sU σ 3 + n * sU σ 2) x = true
      · rw [if_pos c2, if_pos c2, nI_1]
        obtain ⟨h2, z, e3, e4, O2⟩ := ih (n + 1) h1 (nx x) F (by omega) (by omega) O1.1 l1
        exact ⟨h2, z, e3, e4, XOk_tr O1 O2⟩
      · rw [if_neg c2, if_neg c2]
        exact ⟨h1, _, rfl, rfl, O1⟩
theorem W_game {x0 x1 x2 : Int32} (W : Wσ σ) (h40 : σ.1 8 < 40) : Wσ (st_row σ 8 6 x0 x1 x2 0) := by
  obtain ⟨w1, w2, w3, w4, w5, w6, w7⟩ := W
  exact ⟨w1, w2, w3, w4, w5, w6, show σ.1 8 + 1 ≤ 40 by omega, w7.2⟩
theorem X_game (X : XI h σ B) (two c : Int32) (x : Int64) : ∃ h', fX12_game h 16 two c x = some (aGame σ two c x, h') ∧ XOk h h' (sGame σ two c x) B := by
  have C := X.2.2.1
  have hs := C.1
  have hP := XI_P X
  have k3 := X.2.2.2.2.2.1.2.2.1
  have hq : isB 31 := Or.inr (Or.inr (Or.inl rfl))
  have h40 := X.1.2.2.2.2.2.2.1
  unfold fX12_game aGame sGame
  rw [if_pos (iO_16 hs), X_isCourse hs C.2.1 two c, Option.bind_some]
  dsimp only
  rw [g01]
  by_cases c1 : G2 (sP σ) two ∧ GE (sE σ) c
  rotate_left
  · have gg : ¬ gGam σ two c := fun z => c1 z.1
    rw [if_neg c1, if_neg gg, if_neg gg]; exact ⟨h, rfl, XOk_rfl X⟩
  rw [if_pos c1, gR_16 hs, rf_16_11 hs, Option.bind_some, X_isFull hs hq k3 (by omega) (by omega), Option.bind_some]
  dsimp only
  by_cases c3 : σ.1 8 < 40
  rotate_left
  · have gg : ¬ gGam σ two c := fun z => c3 z.2
    rw [if_neg c3, if_neg (show ¬ (1 : Int32) = 0 by decide), if_neg gg, if_neg gg]; exact ⟨h, rfl, XOk_rfl X⟩
  have gg : gGam σ two c := ⟨c1, c3⟩
  rw [if_pos c3, if_pos rfl, if_pos gg, if_pos gg, gR_16 hs, rf_16_15 hs, Option.bind_some]
  unfold gaN
  obtain ⟨a, b, ha, hb, hab, rfl⟩ := G2_n hP.1 c1.1
  obtain ⟨e, d, he, hd, rfl⟩ := GE_n hP.2 c1.2
  have E1 : eg_eq [(36, some 9)] h (eg_sL h 36 9 x) := eq_sL eq_rfl rfl
  have G : eg_gr Sx h (eg_sL h 36 9 x) := gr_sub (by decide) (gr_eq E1 (by decide))
  have C1 : XC (eg_sL h 36 9 x) (sU σ) (sP σ) (sE σ) (sL σ) (eg_P h 36 2) (σ.1 11) B := XC_low C E1 (by decide) (by decide) ⟨rfl, rfl, rfl, rfl, fun _ => ⟨rfl, rfl⟩⟩
  have O1 := XOk_scr X G C1
  obtain ⟨h2, z, e2, e3, O2⟩ := X_game_L ha hb he hd 60 0 (eg_sL h 36 9 x) x eg_F (by omega) (by rw [eg_F_eq]; omega) O1.1 (by rw [L_sL, if_pos ⟨rfl, rfl⟩])
  have e2' : fX12_game_L35 eg_F (eg_sL h 36 9 x) 16 (nI (10 * a + b)) (nI (10 * e + d)) 0 1 = some z := e2
  have X2 := O2.1
  have s2 := X2.2.2.1.1
  obtain ⟨b1, b2, b3, b4⟩ := X2.2.2.2.2.2.1
  obtain ⟨h3, e4, E3, bb⟩ := X_add s2 hq b3 rfl c3 (nI (10 * a + b)) (nI (10 * e + d)) (nI (gmF σ a b e d 60 0 x)) 0
  obtain ⟨_, gc3⟩ := SBk_gr hq E3
  have X3 : XI h3 (st_row σ 8 6 (nI (10 * a + b)) (nI (10 * e + d)) (nI (gmF σ a b e d 60 0 x)) 0) B := XI_Bk hq X2 E3 (W_game X.1 c3) (fun j hj => if_neg (by omega)) (fun r hr => by funext k; exact if_neg (by omega)) ⟨Bk_eq hq (Or.inl rfl) (by decide) b1 E3, Bk_eq hq (Or.inr (Or.inl rfl)) (by decide) b2 E3, bb, Bk_eq hq (Or.inr (Or.inr (Or.inr rfl))) (by decide) b4 E3⟩
  rw [(dAB (a := a) (b := b) (by omega) (by omega)).1, (dAB (a := a) (b := b) (by omega) (by omega)).2, (dAB (a := e) (b := d) (by omega) (by omega)).1, (dAB (a := e) (b := d) (by omega) (by omega)).2]
  refine ⟨h3, ?_, X3, gc_tr O1.2 (gc_tr O2.2 gc3)⟩
  unfold fX11_startDraws
  rw [if_pos (iO_36 hs), pL_36 hs, Option.bind_some, Option.bind_some, e2', Option.bind_some]
  cases z with
  | inl z =>
    have e3 : z = (16, nI (10 * a + b), nI (10 * e + d), nI (gmF σ a b e d 60 0 x), h2) := e3
    subst e3
    dsimp only
    rw [gR_16 s2, rf_16_11 s2, Option.bind_some, e4, Option.bind_some]
  | inr z =>
    have e3 : z = (16, nI (10 * a + b), nI (10 * e + d), nI (gmF σ a b e d 60 0 x), h2) := e3
    subst e3
    dsimp only
    rw [gR_16 s2, rf_16_11 s2, Option.bind_some, e4, Option.bind_some]
end DW
