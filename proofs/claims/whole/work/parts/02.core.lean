abbrev eg_H : Type := List (Nat × Nat) × (Nat → Nat → Int32) × (Nat → Nat → Int64) × (Nat → Nat → Option Nat)
def eg_nc (h : eg_H) : Nat := h.1.length
def eg_ns (h : eg_H) : Nat := (h.1.map (fun k => k.2)).sum
def eg_kd (h : eg_H) (p : Nat) : Nat × Nat := h.1.getD p (999, 0)
def eg_I (h : eg_H) : Nat → Nat → Int32 := h.2.1
def eg_L (h : eg_H) : Nat → Nat → Int64 := h.2.2.1
def eg_P (h : eg_H) : Nat → Nat → Option Nat := h.2.2.2
def eg_up {α : Type} (f : Nat → Nat → α) (p i : Nat) (x : α) : Nat → Nat → α := fun q j => if q = p ∧ j = i then x else f q j
def eg_sI (h : eg_H) (p i : Nat) (x : Int32) : eg_H := (h.1, eg_up h.2.1 p i x, h.2.2.1, h.2.2.2)
def eg_sL (h : eg_H) (p i : Nat) (x : Int64) : eg_H := (h.1, h.2.1, eg_up h.2.2.1 p i x, h.2.2.2)
def eg_sP (h : eg_H) (p i : Nat) (x : Option Nat) : eg_H := (h.1, h.2.1, h.2.2.1, eg_up h.2.2.2 p i x)
def eg_new (h : eg_H) (k n : Nat) : eg_H := (h.1 ++ [(k, n)], (fun q => if q = h.1.length then (fun _ => 0) else h.2.1 q), (fun q => if q = h.1.length then (fun _ => 0) else h.2.2.1 q), (fun q => if q = h.1.length then (fun _ => none) else h.2.2.2 q))
def eg_tc (t : FieldType) : Nat := match t with
  | .long => 1
  | .object _ => 2
  | .array _ => 2
  | _ => 0
def eg_ty (c : Nat) : Nat → FieldType := match c with
  | 0 => tyX0
  | 1 => tyX1
  | 2 => tyX2
  | 3 => tyX3
  | 4 => tyX4
  | 5 => tyX5
  | 6 => tyX6
  | 7 => tyX7
  | 8 => tyX8
  | 9 => tyX9
  | 10 => tyX10
  | 11 => tyX11
  | 12 => tyX12
  | _ => tyX13
def eg_ft (c i : Nat) : Nat := eg_tc (eg_ty c i)
def eg_cv (ad : Nat → Nat) (v : Value) : Value := match v with
  | .ref k => .ref (ad k)
  | w => w
def eg_fv (ad : Nat → Nat) (h : eg_H) (p t i : Nat) : Value := if t = 0 then .int (eg_I h p i) else if t = 1 then .long (eg_L h p i) else va_rf ((eg_P h p i).map ad)
def eg_fs (ad : Nat → Nat) (h : eg_H) (p c n : Nat) : List Value := (List.range n).map (fun i => eg_fv ad h p (eg_ft c i) i)
def eg_ar (ad : Nat → Nat) (h : eg_H) (p k n : Nat) : vp_A := (n, if k = 101 then .inr (.inl (eg_L h p)) else if k < 110 then .inl (eg_I h p) else .inr (.inr (.inr (.inr (fun i => (eg_P h p i).map ad)))))
def eg_ce (dA : Nat → ClassId) (ad : Nat → Nat) (h : eg_H) (p : Nat) (k : Nat × Nat) : va_E := if k.1 < 100 then .inr (k.1, eg_fs ad h p k.1 k.2) else .inl (dA k.1, eg_ar ad h p k.1 k.2)
def eg_ws (dA : Nat → ClassId) (ad : Nat → Nat) (h : eg_H) : va_W := (List.range (eg_nc h - 16)).map (fun k => (ad (k + 16), eg_ce dA ad h (k + 16) (eg_kd h (k + 16))))
def eg_tys (dA : Nat → ClassId) : List (ClassId × FieldType) := [(dA 100, .int), (dA 101, .long), (dA 102, .byte), (dA 103, .boolean), (dA 112, .object RX2), (dA 113, .object RX3), (dA 114, .object RX4), (dA 115, .object RX5)]
def eg_wf (h : eg_H) : Prop := 16 ≤ eg_nc h ∧ ∀ p i k, eg_P h p i = some k → k < eg_nc h
def eg_vk (n : Nat) (v : Value) : Prop := ∀ k, v = .ref k → k < n
def eg_ex (ad : Nat → Nat) (n q : Nat) : Nat → Nat := fun k => if k = n then q else ad k
theorem eg_nc_sI (h : eg_H) (p i : Nat) (x : Int32) : eg_nc (eg_sI h p i x) = eg_nc h := rfl
theorem eg_nc_sL (h : eg_H) (p i : Nat) (x : Int64) : eg_nc (eg_sL h p i x) = eg_nc h := rfl
theorem eg_nc_sP (h : eg_H) (p i : Nat) (x : Option Nat) : eg_nc (eg_sP h p i x) = eg_nc h := rfl
theorem eg_ns_sI (h : eg_H) (p i : Nat) (x : Int32) : eg_ns (eg_sI h p i x) = eg_ns h := rfl
theorem eg_ns_sL (h : eg_H) (p i : Nat) (x : Int64) : eg_ns (eg_sL h p i x) = eg_ns h := rfl
theorem eg_ns_sP (h : eg_H) (p i : Nat) (x : Option Nat) : eg_ns (eg_sP h p i x) = eg_ns h := rfl
theorem eg_nc_new (h : eg_H) (k n : Nat) : eg_nc (eg_new h k n) = eg_nc h + 1 := by simp [eg_nc, eg_new]
theorem eg_ns_new (h : eg_H) (k n : Nat) : eg_ns (eg_new h k n) = eg_ns h + n := by simp [eg_ns, eg_new]
theorem eg_wf_sI {h : eg_H} (w : eg_wf h) (p i : Nat) (x : Int32) : eg_wf (eg_sI h p i x) := w
theorem eg_wf_sL {h : eg_H} (w : eg_wf h) (p i : Nat) (x : Int64) : eg_wf (eg_sL h p i x) := w
theorem eg_wf_sP {h : eg_H} (w : eg_wf h) (p i : Nat) {x : Option Nat} (hx : ∀ k, x = some k → k < eg_nc h) : eg_wf (eg_sP h p i x) := by
  refine ⟨w.1, fun q j k hk => ?_⟩
  have hk : eg_up h.2.2.2 p i x q j = some k := hk
  unfold eg_up at hk
  split at hk
  · exact hx k hk
  · exact w.2 q j k hk
theorem eg_wf_new {h : eg_H} (w : eg_wf h) (k n : Nat) : eg_wf (eg_new h k n) := by
  refine ⟨by rw [eg_nc_new]; exact Nat.le_succ_of_le w.1, fun q j v hv => ?_⟩
  have hv : (if q = h.1.length then (fun _ => none) else h.2.2.2 q) j = some v := hv
  rw [eg_nc_new]
  split at hv
  · cases hv
  · exact Nat.lt_succ_of_lt (w.2 q j v hv)
theorem eg_kd_new_old {h : eg_H} {k n p : Nat} (hp : p < eg_nc h) : eg_kd (eg_new h k n) p = eg_kd h p := by
  have hp : p < h.1.length := hp
  simp [eg_kd, eg_new, List.getElem?_append_left hp]
theorem eg_kd_new (h : eg_H) (k n : Nat) : eg_kd (eg_new h k n) (eg_nc h) = (k, n) := by
  simp [eg_kd, eg_new, eg_nc]
theorem eg_kd_lt {h : eg_H} {p k n : Nat} (hk : eg_kd h p = (k, n)) (h9 : k ≠ 999) : p < eg_nc h := by
  rcases Nat.lt_or_ge p (eg_nc h) with q | q
  · exact q
  · have q : h.1.length ≤ p := q
    have e : eg_kd h p = (999, 0) := by simp [eg_kd, List.getElem?_eq_none q]
    rw [e] at hk
    cases hk
    exact absurd rfl h9
theorem eg_ws_at (dA : Nat → ClassId) (ad : Nat → Nat) (h : eg_H) {p : Nat} (h1 : 16 ≤ p) (h2 : p < eg_nc h) : (eg_ws dA ad h)[p - 16]? = some (ad p, eg_ce dA ad h p (eg_kd h p)) := by
  have e : p - 16 + 16 = p := by omega
  have hl : p - 16 < eg_nc h - 16 := by omega
  simp [eg_ws, hl, e]
theorem eg_ws_len (dA : Nat → ClassId) (ad : Nat → Nat) (h : eg_H) : (eg_ws dA ad h).length = eg_nc h - 16 := by simp [eg_ws]
theorem eg_ws_get (dA : Nat → ClassId) (ad : Nat → Nat) (h : eg_H) (k : Nat) : (eg_ws dA ad h)[k]? = if k < eg_nc h - 16 then some (ad (k + 16), eg_ce dA ad h (k + 16) (eg_kd h (k + 16))) else none := by
  by_cases hk : k < eg_nc h - 16
  · simp [eg_ws, hk]
  · simp [eg_ws, hk]
theorem eg_ce_congr {dA : Nat → ClassId} {ad : Nat → Nat} {h h' : eg_H} {p : Nat} (k : Nat × Nat) (hI : eg_I h' p = eg_I h p) (hL : eg_L h' p = eg_L h p) (hP : eg_P h' p = eg_P h p) : eg_ce dA ad h' p k = eg_ce dA ad h p k := by
  unfold eg_ce eg_fs eg_ar eg_fv
  rw [hI, hL, hP]
theorem eg_ws_set {dA : Nat → ClassId} {ad : Nat → Nat} {h h' : eg_H} {p : Nat} {e : va_E} (h1 : 16 ≤ p) (hk : h'.1 = h.1) (hI : ∀ q, q ≠ p → eg_I h' q = eg_I h q) (hL : ∀ q, q ≠ p → eg_L h' q = eg_L h q) (hP : ∀ q, q ≠ p → eg_P h' q = eg_P h q) (he : eg_ce dA ad h' p (eg_kd h p) = e) : (eg_ws dA ad h).set (p - 16) (ad p, e) = eg_ws dA ad h' := by
  have hn : eg_nc h' = eg_nc h := congrArg List.length hk
  have hkd : ∀ q, eg_kd h' q = eg_kd h q := fun q => by unfold eg_kd; rw [hk]
  apply List.ext_getElem?
  intro k
  rw [eg_ws_get, hn]
  by_cases hkp : k = p - 16
  · subst hkp
    by_cases hl : p - 16 < eg_nc h - 16
    · rw [List.getElem?_set_self (by rw [eg_ws_len]; exact hl), if_pos hl, show p - 16 + 16 = p by omega, hkd, he]
    · rw [if_neg hl, List.getElem?_eq_none]
      rw [List.length_set, eg_ws_len]
      omega
  · rw [List.getElem?_set_ne (Ne.symm hkp), eg_ws_get]
    by_cases hl : k < eg_nc h - 16
    · rw [if_pos hl, if_pos hl, hkd, eg_ce_congr _ (hI _ (by omega)) (hL _ (by omega)) (hP _ (by omega))]
    · rw [if_neg hl, if_neg hl]
theorem eg_up_ne {α : Type} {f : Nat → Nat → α} {p i q : Nat} {x : α} (hq : q ≠ p) : eg_up f p i x q = f q := by
  funext j
  unfold eg_up
  rw [if_neg (fun z => hq z.1)]
theorem eg_ws_sI {dA : Nat → ClassId} {ad : Nat → Nat} {h : eg_H} {p i : Nat} {x : Int32} {e : va_E} (h1 : 16 ≤ p) (he : eg_ce dA ad (eg_sI h p i x) p (eg_kd h p) = e) : (eg_ws dA ad h).set (p - 16) (ad p, e) = eg_ws dA ad (eg_sI h p i x) :=
  eg_ws_set h1 rfl (fun _ hq => eg_up_ne hq) (fun _ _ => rfl) (fun _ _ => rfl) he
theorem eg_ws_sL {dA : Nat → ClassId} {ad : Nat → Nat} {h : eg_H} {p i : Nat} {x : Int64} {e : va_E} (h1 : 16 ≤ p) (he : eg_ce dA ad (eg_sL h p i x) p (eg_kd h p) = e) : (eg_ws dA ad h).set (p - 16) (ad p, e) = eg_ws dA ad (eg_sL h p i x) :=
  eg_ws_set h1 rfl (fun _ _ => rfl) (fun _ hq => eg_up_ne hq) (fun _ _ => rfl) he
theorem eg_ws_sP {dA : Nat → ClassId} {ad : Nat → Nat} {h : eg_H} {p i : Nat} {x : Option Nat} {e : va_E} (h1 : 16 ≤ p) (he : eg_ce dA ad (eg_sP h p i x) p (eg_kd h p) = e) : (eg_ws dA ad h).set (p - 16) (ad p, e) = eg_ws dA ad (eg_sP h p i x) :=
  eg_ws_set h1 rfl (fun _ _ => rfl) (fun _ _ => rfl) (fun _ hq => eg_up_ne hq) he
theorem eg_map_congr {ad ad' : Nat → Nat} {n : Nat} (h : ∀ k, k < n → ad' k = ad k) {r : Option Nat} (hr : ∀ k, r = some k → k < n) : r.map ad' = r.map ad := by
  cases r with
  | none => rfl
  | some k => simp [h k (hr k rfl)]
theorem eg_ce_ad {dA : Nat → ClassId} {ad ad' : Nat → Nat} {h : eg_H} (w : eg_wf h) (hn : ∀ k, k < eg_nc h → ad' k = ad k) (p : Nat) (k : Nat × Nat) : eg_ce dA ad' h p k = eg_ce dA ad h p k := by
  unfold eg_ce eg_fs eg_ar
  have hv : ∀ t i, eg_fv ad' h p t i = eg_fv ad h p t i := fun t i => by
    unfold eg_fv
    rw [eg_map_congr hn (w.2 p i)]
  have hq : (fun i => (eg_P h p i).map ad') = (fun i => (eg_P h p i).map ad) := funext fun i => eg_map_congr hn (w.2 p i)
  simp only [hv, hq]
theorem eg_ws_ad {dA : Nat → ClassId} {ad ad' : Nat → Nat} {h : eg_H} (w : eg_wf h) (hn : ∀ k, k < eg_nc h → ad' k = ad k) : eg_ws dA ad' h = eg_ws dA ad h := by
  apply List.ext_getElem?
  intro k
  rw [eg_ws_get, eg_ws_get]
  by_cases hl : k < eg_nc h - 16
  · rw [if_pos hl, if_pos hl, eg_ce_ad w hn, hn _ (by omega)]
  · rw [if_neg hl, if_neg hl]
theorem eg_ex_old {ad : Nat → Nat} {n q : Nat} : ∀ k, k < n → eg_ex ad n q k = ad k := fun k hk => by unfold eg_ex; rw [if_neg (by omega)]
theorem eg_ex_new {ad : Nat → Nat} {n q : Nat} : eg_ex ad n q n = q := by unfold eg_ex; rw [if_pos rfl]
theorem eg_ws_new {dA : Nat → ClassId} {ad : Nat → Nat} {h : eg_H} {kn nn q : Nat} {e : va_E} (w : eg_wf h) (he : eg_ce dA (eg_ex ad (eg_nc h) q) (eg_new h kn nn) (eg_nc h) (kn, nn) = e) : eg_ws dA ad h ++ [(q, e)] = eg_ws dA (eg_ex ad (eg_nc h) q) (eg_new h kn nn) := by
  have w1 := w.1
  apply List.ext_getElem?
  intro k
  rw [eg_ws_get, eg_nc_new]
  by_cases hl : k < eg_nc h - 16
  · have hp : k + 16 < eg_nc h := by omega
    have hne : k + 16 ≠ h.1.length := fun z => by unfold eg_nc at hp; omega
    rw [List.getElem?_append_left (by rw [eg_ws_len]; exact hl), eg_ws_get, if_pos hl, if_pos (by omega), eg_kd_new_old hp, eg_ex_old _ hp]
    congr 2
    rw [← eg_ce_ad (ad' := eg_ex ad (eg_nc h) q) w eg_ex_old]
    refine (eg_ce_congr _ ?_ ?_ ?_).symm
    · show (if k + 16 = h.1.length then _ else h.2.1 (k + 16)) = _
      rw [if_neg hne]; rfl
    · show (if k + 16 = h.1.length then _ else h.2.2.1 (k + 16)) = _
      rw [if_neg hne]; rfl
    · show (if k + 16 = h.1.length then _ else h.2.2.2 (k + 16)) = _
      rw [if_neg hne]; rfl
  · rw [List.getElem?_append_right (by rw [eg_ws_len]; omega), eg_ws_len]
    by_cases hk : k = eg_nc h - 16
    · subst hk
      rw [if_pos (by omega), show eg_nc h - 16 - (eg_nc h - 16) = 0 by omega, show eg_nc h - 16 + 16 = eg_nc h by omega, eg_kd_new, eg_ex_new, he]
      rfl
    · rw [if_neg (by omega), List.getElem?_eq_none]
      simp
      omega
