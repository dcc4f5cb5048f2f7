abbrev eg_isO (h : eg_H) (c p : Nat) : Prop := 16 ≤ p ∧ eg_kd h p = (c, eg_nf c)
abbrev eg_isA (h : eg_H) (k p : Nat) (i : Int32) : Prop := 16 ≤ p ∧ (eg_kd h p).1 = k ∧ ¬ i < 0 ∧ i.toNatClampNeg < (eg_kd h p).2
def eg_gI (h : eg_H) (c k p : Nat) : Option Int32 := if eg_isO h c p then some (eg_I h p k) else none
def eg_gL (h : eg_H) (c k p : Nat) : Option Int64 := if eg_isO h c p then some (eg_L h p k) else none
def eg_gQ (h : eg_H) (c k p : Nat) : Option (Option Nat) := if eg_isO h c p then some (eg_P h p k) else none
def eg_gR (h : eg_H) (c k p : Nat) : Option Nat := if eg_isO h c p then eg_P h p k else none
def eg_pI (h : eg_H) (c k p : Nat) (x : Int32) : Option eg_H := if eg_isO h c p then some (eg_sI h p k x) else none
def eg_pZ (h : eg_H) (c k p : Nat) (x : Int32) : Option eg_H := if eg_isO h c p ∧ (x = 0 ∨ x = 1) then some (eg_sI h p k x) else none
def eg_pL (h : eg_H) (c k p : Nat) (x : Int64) : Option eg_H := if eg_isO h c p then some (eg_sL h p k x) else none
def eg_pP (h : eg_H) (c k p : Nat) (x : Option Nat) : Option eg_H := if eg_isO h c p then some (eg_sP h p k x) else none
def eg_aI (h : eg_H) (k p : Nat) (i : Int32) : Option Int32 := if eg_isA h k p i then some (eg_I h p i.toNatClampNeg) else none
def eg_aL (h : eg_H) (p : Nat) (i : Int32) : Option Int64 := if eg_isA h 101 p i then some (eg_L h p i.toNatClampNeg) else none
def eg_aQ (h : eg_H) (k p : Nat) (i : Int32) : Option (Option Nat) := if eg_isA h k p i then some (eg_P h p i.toNatClampNeg) else none
def eg_aR (h : eg_H) (k p : Nat) (i : Int32) : Option Nat := if eg_isA h k p i then eg_P h p i.toNatClampNeg else none
def eg_wI (h : eg_H) (k p : Nat) (i x : Int32) : Option eg_H := if eg_isA h k p i then some (eg_sI h p i.toNatClampNeg x) else none
def eg_wL (h : eg_H) (p : Nat) (i : Int32) (x : Int64) : Option eg_H := if eg_isA h 101 p i then some (eg_sL h p i.toNatClampNeg x) else none
def eg_wR (h : eg_H) (c p : Nat) (i : Int32) (x : Nat) : Option eg_H := if eg_isA h (110 + c) p i ∧ eg_isO h c x then some (eg_sP h p i.toNatClampNeg (some x)) else none
abbrev eg_arr (k : Nat) : Prop := k = 100 ∨ k = 101 ∨ k = 102 ∨ k = 103 ∨ k = 112 ∨ k = 113 ∨ k = 114 ∨ k = 115
def eg_al (h : eg_H) (p : Nat) : Option Int32 := if 16 ≤ p ∧ eg_arr (eg_kd h p).1 then some (nI (eg_kd h p).2) else none
def eg_na (h : eg_H) (k : Nat) (n : Int32) : Option eg_H := if ¬ n < 0 ∧ n.toNatClampNeg ≤ 1000000 then some (eg_new h k n.toNatClampNeg) else none
def eg_tI (k : Nat) (i : Int32) : Option Int32 := if ¬ i < 0 ∧ i.toNatClampNeg < 10 then some ((eg_tb k).getD i.toNatClampNeg 0) else none
theorem eg_gI_s {h : eg_H} {c k p : Nat} {x : Int32} (e : eg_gI h c k p = some x) : eg_isO h c p ∧ eg_I h p k = x := by
  unfold eg_gI at e
  split at e
  · next q => cases e; exact ⟨q, rfl⟩
  · cases e
theorem eg_gL_s {h : eg_H} {c k p : Nat} {x : Int64} (e : eg_gL h c k p = some x) : eg_isO h c p ∧ eg_L h p k = x := by
  unfold eg_gL at e
  split at e
  · next q => cases e; exact ⟨q, rfl⟩
  · cases e
theorem eg_gQ_s {h : eg_H} {c k p : Nat} {x : Option Nat} (e : eg_gQ h c k p = some x) : eg_isO h c p ∧ eg_P h p k = x := by
  unfold eg_gQ at e
  split at e
  · next q => cases e; exact ⟨q, rfl⟩
  · cases e
theorem eg_gR_s {h : eg_H} {c k p x : Nat} (e : eg_gR h c k p = some x) : eg_isO h c p ∧ eg_P h p k = some x := by
  unfold eg_gR at e
  split at e
  · next q => exact ⟨q, e⟩
  · cases e
theorem eg_pI_s {h : eg_H} {c k p : Nat} {x : Int32} {h' : eg_H} (e : eg_pI h c k p x = some h') : eg_isO h c p ∧ eg_sI h p k x = h' := by
  unfold eg_pI at e
  split at e
  · next q => cases e; exact ⟨q, rfl⟩
  · cases e
theorem eg_pZ_s {h : eg_H} {c k p : Nat} {x : Int32} {h' : eg_H} (e : eg_pZ h c k p x = some h') : (eg_isO h c p ∧ (x = 0 ∨ x = 1)) ∧ eg_sI h p k x = h' := by
  unfold eg_pZ at e
  split at e
  · next q => cases e; exact ⟨q, rfl⟩
  · cases e
theorem eg_pL_s {h : eg_H} {c k p : Nat} {x : Int64} {h' : eg_H} (e : eg_pL h c k p x = some h') : eg_isO h c p ∧ eg_sL h p k x = h' := by
  unfold eg_pL at e
  split at e
  · next q => cases e; exact ⟨q, rfl⟩
  · cases e
theorem eg_pP_s {h : eg_H} {c k p : Nat} {x : Option Nat} {h' : eg_H} (e : eg_pP h c k p x = some h') : eg_isO h c p ∧ eg_sP h p k x = h' := by
  unfold eg_pP at e
  split at e
  · next q => cases e; exact ⟨q, rfl⟩
  · cases e
theorem eg_aI_s {h : eg_H} {k p : Nat} {i x : Int32} (e : eg_aI h k p i = some x) : eg_isA h k p i ∧ eg_I h p i.toNatClampNeg = x := by
  unfold eg_aI at e
  split at e
  · next q => cases e; exact ⟨q, rfl⟩
  · cases e
theorem eg_aL_s {h : eg_H} {p : Nat} {i : Int32} {x : Int64} (e : eg_aL h p i = some x) : eg_isA h 101 p i ∧ eg_L h p i.toNatClampNeg = x := by
  unfold eg_aL at e
  split at e
  · next q => cases e; exact ⟨q, rfl⟩
  · cases e
theorem eg_aQ_s {h : eg_H} {k p : Nat} {i : Int32} {x : Option Nat} (e : eg_aQ h k p i = some x) : eg_isA h k p i ∧ eg_P h p i.toNatClampNeg = x := by
  unfold eg_aQ at e
  split at e
  · next q => cases e; exact ⟨q, rfl⟩
  · cases e
theorem eg_aR_s {h : eg_H} {k p : Nat} {i : Int32} {x : Nat} (e : eg_aR h k p i = some x) : eg_isA h k p i ∧ eg_P h p i.toNatClampNeg = some x := by
  unfold eg_aR at e
  split at e
  · next q => exact ⟨q, e⟩
  · cases e
theorem eg_wI_s {h : eg_H} {k p : Nat} {i x : Int32} {h' : eg_H} (e : eg_wI h k p i x = some h') : eg_isA h k p i ∧ eg_sI h p i.toNatClampNeg x = h' := by
  unfold eg_wI at e
  split at e
  · next q => cases e; exact ⟨q, rfl⟩
  · cases e
theorem eg_wL_s {h : eg_H} {p : Nat} {i : Int32} {x : Int64} {h' : eg_H} (e : eg_wL h p i x = some h') : eg_isA h 101 p i ∧ eg_sL h p i.toNatClampNeg x = h' := by
  unfold eg_wL at e
  split at e
  · next q => cases e; exact ⟨q, rfl⟩
  · cases e
theorem eg_wR_s {h : eg_H} {c p x : Nat} {i : Int32} {h' : eg_H} (e : eg_wR h c p i x = some h') : (eg_isA h (110 + c) p i ∧ eg_isO h c x) ∧ eg_sP h p i.toNatClampNeg (some x) = h' := by
  unfold eg_wR at e
  split at e
  · next q => cases e; exact ⟨q, rfl⟩
  · cases e
theorem eg_al_s {h : eg_H} {p : Nat} {x : Int32} (e : eg_al h p = some x) : (16 ≤ p ∧ eg_arr (eg_kd h p).1) ∧ nI (eg_kd h p).2 = x := by
  unfold eg_al at e
  split at e
  · next q => cases e; exact ⟨q, rfl⟩
  · cases e
theorem eg_na_s {h : eg_H} {k : Nat} {n : Int32} {h' : eg_H} (e : eg_na h k n = some h') : (¬ n < 0 ∧ n.toNatClampNeg ≤ 1000000) ∧ eg_new h k n.toNatClampNeg = h' := by
  unfold eg_na at e
  split at e
  · next q => cases e; exact ⟨q, rfl⟩
  · cases e
theorem eg_tI_s {k : Nat} {i x : Int32} (e : eg_tI k i = some x) : (¬ i < 0 ∧ i.toNatClampNeg < 10) ∧ (eg_tb k).getD i.toNatClampNeg 0 = x := by
  unfold eg_tI at e
  split at e
  · next q => cases e; exact ⟨q, rfl⟩
  · cases e
theorem eg_bind {α β : Type} {x : Option α} {f : α → Option β} {b : β} (e : x.bind f = some b) : ∃ a, x = some a ∧ f a = some b := Option.bind_eq_some_iff.mp e
theorem eg_fs_len (ad : Nat → Nat) (h : eg_H) (p c n : Nat) : (eg_fs ad h p c n).length = n := by simp [eg_fs]
theorem eg_fs_at (ad : Nat → Nat) (h : eg_H) (p c : Nat) {n k : Nat} (hk : k < n) : (eg_fs ad h p c n)[k]? = some (eg_fv ad h p (eg_ft c k) k) := by simp [eg_fs, hk]
theorem eg_fs_set {ad : Nat → Nat} {h h' : eg_H} {p c n k : Nat} {v : Value} (hk : k < n) (hs : eg_fv ad h' p (eg_ft c k) k = v) (ho : ∀ i, i ≠ k → eg_fv ad h' p (eg_ft c i) i = eg_fv ad h p (eg_ft c i) i) : (eg_fs ad h p c n).set k v = eg_fs ad h' p c n := by
  apply List.ext_getElem?
  intro j
  by_cases hj : j < n
  · rw [eg_fs_at _ _ _ _ hj]
    by_cases hjk : j = k
    · subst hjk
      rw [List.getElem?_set_self (by rw [eg_fs_len]; exact hj), hs]
    · rw [List.getElem?_set_ne (Ne.symm hjk), eg_fs_at _ _ _ _ hj, ho j hjk]
  · rw [List.getElem?_eq_none (by rw [List.length_set, eg_fs_len]; omega), List.getElem?_eq_none (by rw [eg_fs_len]; omega)]
theorem eg_up_at {α : Type} {f : Nat → Nat → α} {p i : Nat} {x : α} : eg_up f p i x p i = x := by unfold eg_up; rw [if_pos ⟨rfl, rfl⟩]
theorem eg_up_j {α : Type} {f : Nat → Nat → α} {p i j : Nat} {x : α} (hj : j ≠ i) : eg_up f p i x p j = f p j := by unfold eg_up; rw [if_neg (fun z => hj z.2)]
theorem eg_ce_sI {dA : Nat → ClassId} {ad : Nat → Nat} {h : eg_H} {p c n k : Nat} {x : Int32} (hc : c < 100) (hk : k < n) (ht : eg_ft c k = 0) : eg_ce dA ad (eg_sI h p k x) p (c, n) = .inr (c, (eg_fs ad h p c n).set k (.int x)) := by
  unfold eg_ce
  rw [if_pos hc]
  refine congrArg (fun z => Sum.inr (c, z)) (Eq.symm (eg_fs_set hk ?_ (fun i hi => ?_)))
  · unfold eg_fv
    rw [ht, if_pos rfl]
    exact congrArg Value.int eg_up_at
  · unfold eg_fv
    rw [show eg_I (eg_sI h p k x) p i = eg_I h p i from eg_up_j hi]
    rfl
theorem eg_ce_sL {dA : Nat → ClassId} {ad : Nat → Nat} {h : eg_H} {p c n k : Nat} {x : Int64} (hc : c < 100) (hk : k < n) (ht : eg_ft c k = 1) : eg_ce dA ad (eg_sL h p k x) p (c, n) = .inr (c, (eg_fs ad h p c n).set k (.long x)) := by
  unfold eg_ce
  rw [if_pos hc]
  refine congrArg (fun z => Sum.inr (c, z)) (Eq.symm (eg_fs_set hk ?_ (fun i hi => ?_)))
  · unfold eg_fv
    rw [ht, if_neg (by decide), if_pos rfl]
    exact congrArg Value.long eg_up_at
  · unfold eg_fv
    rw [show eg_L (eg_sL h p k x) p i = eg_L h p i from eg_up_j hi]
    rfl
theorem eg_ce_sP {dA : Nat → ClassId} {ad : Nat → Nat} {h : eg_H} {p c n k : Nat} {x : Option Nat} (hc : c < 100) (hk : k < n) (ht : eg_ft c k = 2) : eg_ce dA ad (eg_sP h p k x) p (c, n) = .inr (c, (eg_fs ad h p c n).set k (va_rf (x.map ad))) := by
  unfold eg_ce
  rw [if_pos hc]
  refine congrArg (fun z => Sum.inr (c, z)) (Eq.symm (eg_fs_set hk ?_ (fun i hi => ?_)))
  · unfold eg_fv
    rw [ht, if_neg (by decide), if_neg (by decide)]
    exact congrArg (fun z => va_rf (Option.map ad z)) eg_up_at
  · unfold eg_fv
    rw [show eg_P (eg_sP h p k x) p i = eg_P h p i from eg_up_j hi]
    rfl
theorem eg_ce_O {dA : Nat → ClassId} {ad : Nat → Nat} {h : eg_H} {p c n : Nat} (hc : c < 100) : eg_ce dA ad h p (c, n) = .inr (c, eg_fs ad h p c n) := by unfold eg_ce; rw [if_pos hc]
theorem eg_ce_A {dA : Nat → ClassId} {ad : Nat → Nat} {h : eg_H} {p k n : Nat} (hk : 100 ≤ k) : eg_ce dA ad h p (k, n) = .inl (dA k, eg_ar ad h p k n) := by unfold eg_ce; rw [if_neg (by show ¬ k < 100; omega)]
theorem eg_ar_I {ad : Nat → Nat} {h : eg_H} {p k n : Nat} (hk : k < 110) (h1 : k ≠ 101) : eg_ar ad h p k n = (n, .inl (eg_I h p)) := by unfold eg_ar; rw [if_neg h1, if_pos hk]
theorem eg_ar_L {ad : Nat → Nat} {h : eg_H} {p n : Nat} : eg_ar ad h p 101 n = (n, .inr (.inl (eg_L h p))) := by unfold eg_ar; rw [if_pos rfl]
theorem eg_ar_P {ad : Nat → Nat} {h : eg_H} {p k n : Nat} (hk : 110 ≤ k) : eg_ar ad h p k n = (n, .inr (.inr (.inr (.inr (fun i => (eg_P h p i).map ad))))) := by unfold eg_ar; rw [if_neg (by omega), if_neg (by omega)]
theorem eg_upd_I {h : eg_H} {p i : Nat} {x : Int32} : upd (eg_I h p) i x = eg_I (eg_sI h p i x) p := by
  funext j
  show (if j = i then x else eg_I h p j) = (if p = p ∧ j = i then x else eg_I h p j)
  by_cases hj : j = i
  · rw [if_pos hj, if_pos ⟨rfl, hj⟩]
  · rw [if_neg hj, if_neg (fun z => hj z.2)]
theorem eg_upd_L {h : eg_H} {p i : Nat} {x : Int64} : vp_updL (eg_L h p) i x = eg_L (eg_sL h p i x) p := by
  funext j
  show (if j = i then x else eg_L h p j) = (if p = p ∧ j = i then x else eg_L h p j)
  by_cases hj : j = i
  · rw [if_pos hj, if_pos ⟨rfl, hj⟩]
  · rw [if_neg hj, if_neg (fun z => hj z.2)]
theorem eg_upd_P {ad : Nat → Nat} {h : eg_H} {p i : Nat} {x : Option Nat} : va_up (fun j => (eg_P h p j).map ad) i (x.map ad) = (fun j => (eg_P (eg_sP h p i x) p j).map ad) := by
  funext j
  show (if j = i then x.map ad else (eg_P h p j).map ad) = Option.map ad (if p = p ∧ j = i then x else eg_P h p j)
  by_cases hj : j = i
  · rw [if_pos hj, if_pos ⟨rfl, hj⟩]
  · rw [if_neg hj, if_neg (fun z => hj z.2)]
