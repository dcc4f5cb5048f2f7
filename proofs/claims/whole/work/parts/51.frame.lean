def eg_cov (S : List (Nat × Option Nat)) (p i : Nat) : Bool := S.any (fun t => t.1 == p && (match t.2 with
  | none => true
  | some j => j == i))
def eg_eq (S : List (Nat × Option Nat)) (h h' : eg_H) : Prop := h'.1 = h.1 ∧ ∀ p i, eg_cov S p i = false → eg_I h' p i = eg_I h p i ∧ eg_L h' p i = eg_L h p i ∧ eg_P h' p i = eg_P h p i
theorem eq_rfl {S : List (Nat × Option Nat)} {h : eg_H} : eg_eq S h h := ⟨rfl, fun _ _ _ => ⟨rfl, rfl, rfl⟩⟩
theorem eq_tr {S : List (Nat × Option Nat)} {h h1 h2 : eg_H} (a : eg_eq S h h1) (b : eg_eq S h1 h2) : eg_eq S h h2 := ⟨b.1.trans a.1, fun p i hc => ⟨(b.2 p i hc).1.trans (a.2 p i hc).1, (b.2 p i hc).2.1.trans (a.2 p i hc).2.1, (b.2 p i hc).2.2.trans (a.2 p i hc).2.2⟩⟩
theorem eq_sI {S : List (Nat × Option Nat)} {h h1 : eg_H} {p i : Nat} {x : Int32} (a : eg_eq S h h1) (hc : eg_cov S p i = true) : eg_eq S h (eg_sI h1 p i x) := by
  refine ⟨a.1, fun q j hq => ⟨?_, (a.2 q j hq).2⟩⟩
  have hne : ¬ (q = p ∧ j = i) := fun z => by rw [z.1, z.2, hc] at hq; cases hq
  rw [I_sI, if_neg hne]
  exact (a.2 q j hq).1
theorem eq_sL {S : List (Nat × Option Nat)} {h h1 : eg_H} {p i : Nat} {x : Int64} (a : eg_eq S h h1) (hc : eg_cov S p i = true) : eg_eq S h (eg_sL h1 p i x) := by
  refine ⟨a.1, fun q j hq => ⟨(a.2 q j hq).1, ?_, (a.2 q j hq).2.2⟩⟩
  have hne : ¬ (q = p ∧ j = i) := fun z => by rw [z.1, z.2, hc] at hq; cases hq
  rw [L_sL, if_neg hne]
  exact (a.2 q j hq).2.1
theorem eq_sP {S : List (Nat × Option Nat)} {h h1 : eg_H} {p i : Nat} {x : Option Nat} (a : eg_eq S h h1) (hc : eg_cov S p i = true) : eg_eq S h (eg_sP h1 p i x) := by
  refine ⟨a.1, fun q j hq => ⟨(a.2 q j hq).1, (a.2 q j hq).2.1, ?_⟩⟩
  have hne : ¬ (q = p ∧ j = i) := fun z => by rw [z.1, z.2, hc] at hq; cases hq
  rw [P_sP, if_neg hne]
  exact (a.2 q j hq).2.2
theorem eq_mono {S S' : List (Nat × Option Nat)} {h h' : eg_H} (a : eg_eq S h h') (hs : ∀ p i, eg_cov S' p i = false → eg_cov S p i = false) : eg_eq S' h h' := ⟨a.1, fun p i hc => a.2 p i (hs p i hc)⟩
theorem eq_nc {S : List (Nat × Option Nat)} {h h' : eg_H} (a : eg_eq S h h') : eg_nc h' = eg_nc h := congrArg List.length a.1
theorem eq_ns {S : List (Nat × Option Nat)} {h h' : eg_H} (a : eg_eq S h h') : eg_ns h' = eg_ns h := by unfold eg_ns; rw [a.1]
theorem eq_kd {S : List (Nat × Option Nat)} {h h' : eg_H} (a : eg_eq S h h') (p : Nat) : eg_kd h' p = eg_kd h p := by unfold eg_kd; rw [a.1]
theorem eq_stt {S : List (Nat × Option Nat)} {h h' : eg_H} (a : eg_eq S h h') (hs : eg_stt h) (hd : eg_P0.all (fun t => !(eg_cov S t.1 t.2.1)) = true) : eg_stt h' := by
  refine ⟨by rw [eq_nc a]; exact hs.1, fun p hp => by rw [eq_kd a]; exact hs.2.1 p hp, fun t ht => ?_⟩
  have h1 := List.all_eq_true.mp hd t ht
  rw [(a.2 t.1 t.2.1 (by simpa using h1)).2.2]
  exact hs.2.2 t ht
abbrev eg_S : Type := (Nat → Nat) × (Nat → Nat → Int32)
theorem nI_tn (n : Nat) (h : n < 2 ^ 31) : (nI n).toNatClampNeg = n := nI_clamp h
