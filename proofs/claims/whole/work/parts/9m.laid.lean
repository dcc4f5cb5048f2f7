def tArm (T : eg_TT) (v : Nat) : eg_TT := (T.1, T.2.1, v, T.2.2.2)
def tRun (T : eg_TT) (v : Nat) : eg_TT := (T.1, T.2.1, T.2.2.1, v, T.2.2.2.2)
theorem Uok_p {U : Nat → Nat} {P E b j v : Nat} (h : Uok U P E) (hb : b < P) (hj : j < 4) (hv : v ≤ (if j = 0 ∨ j = 2 then 5 else 9)) : Uok (upU U (4 + (4 * b + j)) v) P E := by
  obtain ⟨⟨a1, a2, a3, a4, a5, a6, a7, a8⟩, hp, he⟩ := h
  have hu : ∀ x, ¬ x = 4 + (4 * b + j) → upU U (4 + (4 * b + j)) v x = U x := fun x hx => if_neg hx
  refine ⟨⟨a1, a2, ?_, ?_, ?_, ?_, ?_, ?_⟩, fun p hp' => ?_, fun e he' => ?_⟩
  · rw [hu 0 (by omega)]; exact a3
  · rw [hu 1 (by omega)]; exact a4
  · rw [hu 2 (by omega)]; exact a5
  · rw [hu 2 (by omega)]; exact a6
  · rw [hu 3 (by omega)]; exact a7
  · rw [hu 3 (by omega)]; exact a8
  · obtain ⟨p1, p2, p3, p4⟩ := hp p hp'
    unfold upU
    refine ⟨?_, ?_, ?_, ?_⟩ <;> (split <;> first | assumption | (split at hv <;> omega))
  · rw [hu (28 + 2 * e) (by omega), hu (29 + 2 * e) (by omega)]; exact he e he'
theorem tOf_arm {U : Nat → Nat} {wd a b e d v : Nat} (hb : b < 6) : tOf (upU U (4 + (4 * b + 1)) v) wd a b e d = tArm (tOf U wd a b e d) v := by
  have hu : ∀ x, ¬ x = 4 + (4 * b + 1) → upU U (4 + (4 * b + 1)) v x = U x := fun x hx => if_neg hx
  have h5 : upU U (4 + (4 * b + 1)) v (5 + 4 * b) = v := if_pos (by omega)
  unfold tOf tArm blw limU
  rw [hu 1 (by omega), hu (4 + 4 * a) (by omega), hu (7 + 4 * a) (by omega), h5, hu (6 + 4 * b) (by omega), hu (29 + 2 * e) (by omega), hu (28 + 2 * e) (by omega)]
theorem tOf_run {U : Nat → Nat} {wd a b e d v : Nat} (hb : b < 6) : tOf (upU U (4 + (4 * b + 2)) v) wd a b e d = tRun (tOf U wd a b e d) v := by
  have hu : ∀ x, ¬ x = 4 + (4 * b + 2) → upU U (4 + (4 * b + 2)) v x = U x := fun x hx => if_neg hx
  have h5 : upU U (4 + (4 * b + 2)) v (6 + 4 * b) = v := if_pos (by omega)
  unfold tOf tRun blw limU
  rw [hu 1 (by omega), hu (4 + 4 * a) (by omega), hu (7 + 4 * a) (by omega), h5, hu (5 + 4 * b) (by omega), hu (29 + 2 * e) (by omega), hu (28 + 2 * e) (by omega)]
section LD
variable {h : eg_H} {σ : eg_S} {B : Nat × Nat}
theorem RO_p {U : Nat → Nat} {P E x v : Nat} {lw : eg_LW} (O : RO h U P E lw) (hx : x < 4 * P) (hU : Uok (upU U (4 + x) v) P E) : RO (eg_sI h 61 x (nI v)) (upU U (4 + x) v) P E lw := by
  obtain ⟨o1, o2, ⟨v1, v2, v3, v4, v5⟩, o4⟩ := O
  have hP := o2.1.1
  have hu : ∀ y, ¬ y = 4 + x → upU U (4 + x) v y = U y := fun y hy => if_neg hy
  refine ⟨o1, hU, ⟨fun y hy => ?_, fun y hy => ?_, fun y hy => ?_, ?_, ?_⟩, ?_⟩
  · rw [I_sI, if_neg (by omega), hu y (by omega)]; exact v1 y hy
  · rw [I_sI]
    by_cases c : y = x
    · subst c
      rw [if_pos ⟨rfl, rfl⟩]
      unfold upU
      rw [if_pos rfl]
    · rw [if_neg (fun z => c z.2), hu (4 + y) (by omega)]; exact v2 y hy
  · rw [I_sI, if_neg (by omega), hu (28 + y) (by omega)]; exact v3 y hy
  · rw [I_sI, if_neg (by omega)]; exact v4
  · rw [I_sI, if_neg (by omega)]; exact v5
  · cases lw with
    | none => show eg_I (eg_sI h 61 x (nI v)) 54 34 = -1; rw [I_sI, if_neg (by omega)]; exact o4
    | some f =>
      obtain ⟨j, n, t, u, a1, a2, a3, a4, a5, a6, a7, a8⟩ := o4
      refine ⟨j, n, t, u, a1, a2, ?_, ?_, a5, fun i hi => ?_, a7, a8⟩
      · rw [I_sI, if_neg (by omega)]; exact a3
      · rw [I_sI, if_neg (by omega)]; exact a4
      · rw [I_sI, if_neg (by omega)]; exact a6 i hi
def XTL (h : eg_H) (σ : eg_S) (B : Nat × Nat) (T : eg_TT) : Prop := XI h σ B ∧ XO h T (eg_P h 36 2) (sL σ)
theorem gc_rfl {h : eg_H} : eg_gc h h := fun _ _ _ _ => ⟨rfl, rfl, rfl⟩
theorem XI_law {h' : eg_H} (X : XI h σ B) (E : eg_eq (Sq (eg_P h 36 2)) h h') : XOk h h' σ B ∧ eg_P h' 36 2 = eg_P h 36 2 := by
  have C := X.2.2.1
  have C1 := XC_law C E
  exact ⟨XOk_scr X (gr_sub (by decide) (gr_Sq C.2.2.2.1 E)) C1, C1.2.2.1⟩
theorem X_lay (X : XI h σ B) {a b e d : Nat} (ha : a < sP σ) (hb : b < sP σ) (he : e < sE σ) (hd : d ≤ 1) : ∃ h1, fX11_take h 36 (nI (10 * a + b)) (nI (10 * e + d)) (nI (sU σ 0)) = some h1 ∧ XTL h1 σ B (tOf (sU σ) (sU σ 0) a b e d) ∧ eg_gc h h1 := by
  have C := X.2.2.1
  have hU := XI_U X (by omega)
  obtain ⟨h1, e1, E1, T1⟩ := X_take C.1 C.2.1 hU (wd := sU σ 0) ha hb he hd
  have G : eg_gr Sx h h1 := gr_sub (by decide) (gr_eq E1 (by decide))
  have C1 : XC h1 (sU σ) (sP σ) (sE σ) (sL σ) (eg_P h 36 2) (σ.1 11) B := XC_low C E1 (by decide) (by decide) ⟨rfl, rfl, rfl, rfl, fun _ => ⟨rfl, rfl⟩⟩
  have O := XOk_scr X G C1
  refine ⟨h1, e1, ⟨O.1, ?_⟩, O.2⟩
  rw [C1.2.2.1]
  exact ⟨C1.1, tOf_ok hU hU.1.2.2.1 ha hb he, C1.2.2.1, T1, C1.2.2.2.1⟩
theorem XTL_arm {T : eg_TT} (X : XTL h σ B T) {v : Nat} (hv : v ≤ 9) : XTL (eg_sI h 36 5 (nI v)) σ B (tArm T v) ∧ eg_gc h (eg_sI h 36 5 (nI v)) := by
  obtain ⟨X, o1, ⟨k1, k2, k3, k4, k5, k6, k7⟩, o3, ⟨t1, t2, t3, t4, t5, t6⟩, o5⟩ := X
  have E1 : eg_eq S36 h (eg_sI h 36 5 (nI v)) := eq_sI eq_rfl rfl
  have G : eg_gr Sx h (eg_sI h 36 5 (nI v)) := gr_sub (by decide) (gr_eq E1 (by decide))
  have C1 : XC (eg_sI h 36 5 (nI v)) (sU σ) (sP σ) (sE σ) (sL σ) (eg_P h 36 2) (σ.1 11) B := XC_low X.2.2.1 E1 (by decide) (by decide) ⟨rfl, rfl, rfl, rfl, fun _ => ⟨rfl, rfl⟩⟩
  have O := XOk_scr X G C1
  have k3 := hv
  have g : ∀ i, ¬ i = 5 → eg_I (eg_sI h 36 5 (nI v)) 36 i = eg_I h 36 i := fun i hi => by rw [I_sI, if_neg (fun z => hi z.2)]
  have t3 : eg_I (eg_sI h 36 5 (nI v)) 36 5 = nI v := by rw [I_sI, if_pos ⟨rfl, rfl⟩]
  refine ⟨⟨O.1, o1, ⟨k1, k2, k3, k4, k5, k6, k7⟩, rfl, ⟨?_, ?_, ?_, ?_, ?_, ?_⟩, gr_XL G o5⟩, O.2⟩
  · rw [g 3 (by decide)]; exact t1
  · rw [g 4 (by decide)]; exact t2
  · first | exact t3 | (rw [g 5 (by decide)]; exact t3)
  · first | exact t4 | (rw [g 6 (by decide)]; exact t4)
  · rw [g 7 (by decide)]; exact t5
  · rw [g 8 (by decide)]; exact t6
theorem XTL_run {T : eg_TT} (X : XTL h σ B T) {v : Nat} (hv : v ≤ 5) : XTL (eg_sI h 36 6 (nI v)) σ B (tRun T v) ∧ eg_gc h (eg_sI h 36 6 (nI v)) := by
  obtain ⟨X, o1, ⟨k1, k2, k3, k4, k5, k6, k7⟩, o3, ⟨t1, t2, t3, t4, t5, t6⟩, o5⟩ := X
  have E1 : eg_eq S36 h (eg_sI h 36 6 (nI v)) := eq_sI eq_rfl rfl
  have G : eg_gr Sx h (eg_sI h 36 6 (nI v)) := gr_sub (by decide) (gr_eq E1 (by decide))
  have C1 : XC (eg_sI h 36 6 (nI v)) (sU σ) (sP σ) (sE σ) (sL σ) (eg_P h 36 2) (σ.1 11) B := XC_low X.2.2.1 E1 (by decide) (by decide) ⟨rfl, rfl, rfl, rfl, fun _ => ⟨rfl, rfl⟩⟩
  have O := XOk_scr X G C1
  have k4 := hv
  have g : ∀ i, ¬ i = 6 → eg_I (eg_sI h 36 6 (nI v)) 36 i = eg_I h 36 i := fun i hi => by rw [I_sI, if_neg (fun z => hi z.2)]
  have t4 : eg_I (eg_sI h 36 6 (nI v)) 36 6 = nI v := by rw [I_sI, if_pos ⟨rfl, rfl⟩]
  refine ⟨⟨O.1, o1, ⟨k1, k2, k3, k4, k5, k6, k7⟩, rfl, ⟨?_, ?_, ?_, ?_, ?_, ?_⟩, gr_XL G o5⟩, O.2⟩
  · rw [g 3 (by decide)]; exact t1
  · rw [g 4 (by decide)]; exact t2
  · first | exact t3 | (rw [g 5 (by decide)]; exact t3)
  · first | exact t4 | (rw [g 6 (by decide)]; exact t4)
  · rw [g 7 (by decide)]; exact t5
  · rw [g 8 (by decide)]; exact t6
theorem XTL_law {h' : eg_H} {T : eg_TT} (X : XTL h σ B T) (E : eg_eq (Sq (eg_P h 36 2)) h h') : XTL h' σ B T ∧ eg_gc h h' := by
  obtain ⟨O, eq⟩ := XI_law X.1 E
  refine ⟨⟨O.1, ?_⟩, O.2⟩
  rw [eq]
  exact XO_eq X.2 E
theorem XTL_goodH {T : eg_TT} {y n : Nat} (X : XTL h σ B T) (hy : y ≤ 60) (hn : n < 2 ^ 31) (hb : n / 100 ≤ 9) (hi : n % 100 ≤ 10) : ∃ h', fX12_goodOf h 16 (nI y) (nI n) = some (nI (gd (sL σ) T y (n / 100) ((n % 100 : Nat) - 5)), h') ∧ XTL h' σ B T ∧ eg_gc h h' := by
  obtain ⟨h', e1, E1⟩ := X_goodH X.2 hy hn hb hi
  exact ⟨h', e1, XTL_law X E1⟩
theorem XTL_wholes {T : eg_TT} {y b : Nat} (X : XTL h σ B T) (hy : y ≤ 60) (hb : b ≤ 9) : ∃ h', fX11_wholes h 36 (nI y) (nI b) = some (nI (hM (sL σ) T y b), h') ∧ XTL h' σ B T ∧ eg_gc h h' := by
  obtain ⟨h', e1, E1⟩ := X_wholes X.2 hy hb
  exact ⟨h', e1, XTL_law X E1⟩
theorem XTL_seek {T : eg_TT} {y : Nat} (X : XTL h σ B T) (hy : y ≤ 60) : ∃ h', fX11_seek h 36 (nI y) = some (nI (pk (bst (sL σ) T y) (bgd (sL σ) T y)), h') ∧ XTL h' σ B T ∧ eg_gc h h' := by
  obtain ⟨h', e1, E1⟩ := X_seek X.2 hy
  exact ⟨h', e1, XTL_law X E1⟩
theorem XTL_ok {h' : eg_H} {T : eg_TT} (X : XTL h' σ B T) (G : eg_gc h h') : XOk h h' σ B := ⟨X.1, G⟩
end LD
theorem mkb_or {f : Nat → Bool} {i : Nat} (hi : i < 31) (hf : f i = true) : nI (mkF f i) ||| ((1 : Int32) <<< (nI i &&& 31)) = nI (mkF f (i + 1)) := by
  rw [one_shl i hi, nI_or]
  congr 1
  show _ = mkF f i ||| _
  rw [if_pos hf]
theorem mkb_no {f : Nat → Bool} {i : Nat} (hf : ¬ f i = true) : nI (mkF f i) = nI (mkF f (i + 1)) := by
  congr 1
  show _ = mkF f i ||| _
  rw [if_neg hf, Nat.or_zero]
theorem or_0 (x : Int32) : x ||| 0 = x := Int32.or_zero
