section RH
variable {own : String} {cc : ByteArray} {nL d : Nat} {sc : Option (Nat × (Nat → Int32) × Nat)} {nm : String} {rt : Option FieldType} {Z : eg_C → State → Prop} {N S : Nat} {h0 : eg_H} {pc : Nat} {lv : List (Nat × Value)} {st : List Value} {h : eg_H}
theorem eg_gen {pc' : Nat} {st' : List Value} {h' : eg_H} (k : eg_AW (own, cc, nL, d, sc, nm, rt) Z N S h0 pc' lv st' h') (hn : eg_nc h' = eg_nc h) (hs : eg_ns h' = eg_ns h) (ho : eg_ok (eg_nc h) lv st → eg_wf h → eg_ok (eg_nc h) lv st') (hw : eg_ok (eg_nc h) lv st → eg_wf h → eg_wf h')
    (f : ∀ {p : Program} {l : Launch} {e : Env} {R : Room} {s : State} {m : MethodId} {args : Array Value} {below : List Frame} {meth : Method} {c : Code} {H : Heap} {locs : List Loc} {cells slots : Nat} {Q : State → Prop} {ls : Array Slot} {A : Nat → Prop} {D : va_G} {dA : Nat → ClassId} (ad : Nat → Nat), p.tables.exec = Jvm.exec → c.code = cc → s.vm.findClass own = some m.cls → (∀ w ∈ eg_G, w.before args s = true) → va_K D eg_cl (eg_tys dA) s →
      va_P D eg_cl (eg_ws dA ad h) H → va_D A (eg_ws dA ad h) → va_S A s.heap H locs → meth.name = nm → eg_Xt ad A s s.heap →
      (∀ H1 locs1, va_P D eg_cl (eg_ws dA ad h') H1 → va_D A (eg_ws dA ad h') → va_S A s.heap H1 locs1 → W p l e R s m args below meth c H1 locs1 cells slots Q (F0 m pc' ls (st'.map (eg_cv ad)))) → W p l e R s m args below meth c H locs cells slots Q (F0 m pc ls (st.map (eg_cv ad)))) :
    eg_AW (own, cc, nL, d, sc, nm, rt) Z N S h0 pc lv st h := by
  refine ⟨⟨by rw [← hn, ← hs]; exact k.1.1, k.1.2⟩, fun X hX => ?_⟩
  have k2 := k.2 X hX
  obtain ⟨p, l, e, R, s, m, args, below, meth, c, A, D, dA, ad0⟩ := X
  intro ad H locs ls hl hok hr
  obtain ⟨x1, x2, x3, x4, x5, x6, x7, x8, x9, x10, x11, x12, x13, x14, x15, x16⟩ := hX
  obtain ⟨r1, r2, r3, r4, r5, r6, r7, r8⟩ := hr
  rw [← hn, ← hs]
  exact f ad x1 x2 x4 x5 x6 r1 r2 r3 x14 (eg_Xt_ad x12 (fun k hk => r5 k (by omega))) (fun H1 locs1 q1 q2 q3 => k2 ad H1 locs1 ls hl (by rw [hn]; exact ho hok r4) ⟨q1, q2, q3, hw hok r4, r5, by rw [hn]; exact r6, by rw [hs]; exact r7, r8⟩)
theorem eg_getI {c k p idx : Nat} {x : Int32} (hd : decode cc pc = .ok (.getfield idx, 3)) (hg : eg_gI h c k p = some x) (hc : c < 14) (hk : k < eg_nf c) (ht : eg_ft c k = 0) (hlk : Cond.fieldLink own idx (eg_T c k).1 (eg_T c k).2.1 (eg_T c k).2.2.1 ∈ eg_G)
    (kk : eg_AW (own, cc, nL, d, sc, nm, rt) Z N S h0 (pc + 3) lv (.int x :: st) h) : eg_AW (own, cc, nL, d, sc, nm, rt) Z N S h0 pc lv (.ref p :: st) h := by
  obtain ⟨⟨g1, g2⟩, g3⟩ := eg_gI_s hg
  subst g3
  refine eg_gen kk rfl rfl (fun w _ => eg_oc (eg_o1 w) (eg_vi _)) (fun _ w => w) (fun {p' l e R s m args below meth cd H locs cells slots Q ls A D dA} ad hx hb hown hts hK hP hD hS hnm hXt k1 => ?_)
  have hat := eg_ws_at dA ad h g1 (eg_kd_lt g2 (by omega))
  rw [g2, eg_ce_O (by omega)] at hat
  refine va_get (D := D) (C := eg_R c) (T := eg_T c) (N := eg_nf c) hx hb hts (eg_uw c hc) hown hK hP (p - 16) hat (eg_clat c hc) k hk (hts _ hlk) (fun _ q => q) (eg_fs_at ad h p c hk) hd ?_
  have e : eg_fv ad h p (eg_ft c k) k = .int (eg_I h p k) := by unfold eg_fv; rw [ht, if_pos rfl]
  rw [e]
  exact k1 H locs hP hD hS
theorem eg_getL {c k p idx : Nat} {x : Int64} (hd : decode cc pc = .ok (.getfield idx, 3)) (hg : eg_gL h c k p = some x) (hc : c < 14) (hk : k < eg_nf c) (ht : eg_ft c k = 1) (hlk : Cond.fieldLink own idx (eg_T c k).1 (eg_T c k).2.1 (eg_T c k).2.2.1 ∈ eg_G)
    (kk : eg_AW (own, cc, nL, d, sc, nm, rt) Z N S h0 (pc + 3) lv (.long x :: st) h) : eg_AW (own, cc, nL, d, sc, nm, rt) Z N S h0 pc lv (.ref p :: st) h := by
  obtain ⟨⟨g1, g2⟩, g3⟩ := eg_gL_s hg
  subst g3
  refine eg_gen kk rfl rfl (fun w _ => eg_oc (eg_o1 w) (eg_vl _)) (fun _ w => w) (fun {p' l e R s m args below meth cd H locs cells slots Q ls A D dA} ad hx hb hown hts hK hP hD hS hnm hXt k1 => ?_)
  have hat := eg_ws_at dA ad h g1 (eg_kd_lt g2 (by omega))
  rw [g2, eg_ce_O (by omega)] at hat
  refine va_get (D := D) (C := eg_R c) (T := eg_T c) (N := eg_nf c) hx hb hts (eg_uw c hc) hown hK hP (p - 16) hat (eg_clat c hc) k hk (hts _ hlk) (fun _ q => q) (eg_fs_at ad h p c hk) hd ?_
  have e : eg_fv ad h p (eg_ft c k) k = .long (eg_L h p k) := by unfold eg_fv; rw [ht, if_neg (by decide), if_pos rfl]
  rw [e]
  exact k1 H locs hP hD hS
theorem eg_getQ {c k p idx : Nat} {x : Option Nat} (hd : decode cc pc = .ok (.getfield idx, 3)) (hg : eg_gQ h c k p = some x) (hc : c < 14) (hk : k < eg_nf c) (ht : eg_ft c k = 2) (hlk : Cond.fieldLink own idx (eg_T c k).1 (eg_T c k).2.1 (eg_T c k).2.2.1 ∈ eg_G)
    (kk : eg_AW (own, cc, nL, d, sc, nm, rt) Z N S h0 (pc + 3) lv (va_rf x :: st) h) : eg_AW (own, cc, nL, d, sc, nm, rt) Z N S h0 pc lv (.ref p :: st) h := by
  obtain ⟨⟨g1, g2⟩, g3⟩ := eg_gQ_s hg
  subst g3
  refine eg_gen kk rfl rfl (fun w wf => eg_oc (eg_o1 w) (eg_vq (wf.2 p k))) (fun _ w => w) (fun {p' l e R s m args below meth cd H locs cells slots Q ls A D dA} ad hx hb hown hts hK hP hD hS hnm hXt k1 => ?_)
  have hat := eg_ws_at dA ad h g1 (eg_kd_lt g2 (by omega))
  rw [g2, eg_ce_O (by omega)] at hat
  refine va_get (D := D) (C := eg_R c) (T := eg_T c) (N := eg_nf c) hx hb hts (eg_uw c hc) hown hK hP (p - 16) hat (eg_clat c hc) k hk (hts _ hlk) (fun _ q => q) (eg_fs_at ad h p c hk) hd ?_
  have e : eg_fv ad h p (eg_ft c k) k = eg_cv ad (va_rf (eg_P h p k)) := by unfold eg_fv; rw [ht, if_neg (by decide), if_neg (by decide), eg_cv_q]
  rw [e]
  exact k1 H locs hP hD hS
theorem eg_getR {c k p idx x : Nat} (hd : decode cc pc = .ok (.getfield idx, 3)) (hg : eg_gR h c k p = some x) (hc : c < 14) (hk : k < eg_nf c) (ht : eg_ft c k = 2) (hlk : Cond.fieldLink own idx (eg_T c k).1 (eg_T c k).2.1 (eg_T c k).2.2.1 ∈ eg_G)
    (kk : eg_AW (own, cc, nL, d, sc, nm, rt) Z N S h0 (pc + 3) lv (.ref x :: st) h) : eg_AW (own, cc, nL, d, sc, nm, rt) Z N S h0 pc lv (.ref p :: st) h := by
  obtain ⟨g1, g3⟩ := eg_gR_s hg
  exact eg_getQ (x := some x) hd (by unfold eg_gQ; rw [if_pos g1, g3]) hc hk ht hlk kk
theorem eg_putI {c k p idx : Nat} {x : Int32} {h' : eg_H} (hd : decode cc pc = .ok (.putfield idx, 3)) (hg : eg_pI h c k p x = some h') (hc : c < 14) (hk : k < eg_nf c) (hty : eg_ty c k = .int) (hlk : Cond.fieldLink own idx (eg_T c k).1 (eg_T c k).2.1 (eg_T c k).2.2.1 ∈ eg_G) (hf : (eg_T c k).2.2.2 = false ∨ ((eg_T c k).2.2.2 = true ∧ nm = "<init>" ∧ (eg_T c k).1 = own))
    (kk : eg_AW (own, cc, nL, d, sc, nm, rt) Z N S h0 (pc + 3) lv st h') : eg_AW (own, cc, nL, d, sc, nm, rt) Z N S h0 pc lv (.int x :: .ref p :: st) h := by
  obtain ⟨⟨g1, g2⟩, g3⟩ := eg_pI_s hg
  subst g3
  refine eg_gen kk rfl rfl (fun w _ => eg_o1 (eg_o1 w)) (fun _ w => w) (fun {p' l e R s m args below meth cd H locs cells slots Q ls A D dA} ad hx hb hown hts hK hP hD hS hnm hXt k1 => ?_)
  have hat := eg_ws_at dA ad h g1 (eg_kd_lt g2 (by omega))
  rw [g2, eg_ce_O (by omega)] at hat
  have hset := eg_ws_sI (dA := dA) (ad := ad) (h := h) (i := k) (x := x) (e := .inr (c, (eg_fs ad h p c (eg_nf c)).set k (.int x))) g1 (by rw [g2]; exact eg_ce_sI (by omega) hk (by unfold eg_ft; rw [hty]; rfl))
  have hpd : parseFieldDescriptor (eg_T c k).2.2.1 = some .int := by rw [← hty]; exact eg_tyok c hc k hk
  rcases hf with hf | ⟨hf, hi, ho⟩
  · exact va_put (D := D) (C := eg_R c) (T := eg_T c) (N := eg_nf c) (v := .int x) (ty := .int) hx hb hts (eg_uw c hc) (eg_ty c) (eg_tyok c hc) (eg_nmok c hc) hown hK hP hD hS (p - 16) hat (eg_clat c hc) k hk (hts _ hlk) (fun _ q => q) hf hpd rfl rfl (by rw [eg_fs_len]; exact hk) hd (fun H1 l1 q1 q2 q3 => k1 H1 l1 (hset ▸ q1) (hset ▸ q2) q3)
  · exact va_putF (D := D) (C := eg_R c) (T := eg_T c) (N := eg_nf c) (v := .int x) (ty := .int) hx hb hts (eg_uw c hc) (eg_ty c) (eg_tyok c hc) (eg_nmok c hc) hown hK hP hD hS (p - 16) hat (eg_clat c hc) k hk (hts _ hlk) (fun _ q => q) hf (hnm.trans hi) ho hpd rfl rfl (by rw [eg_fs_len]; exact hk) hd (fun H1 l1 q1 q2 q3 => k1 H1 l1 (hset ▸ q1) (hset ▸ q2) q3)
theorem eg_putZ {c k p idx : Nat} {x : Int32} {h' : eg_H} (hd : decode cc pc = .ok (.putfield idx, 3)) (hg : eg_pZ h c k p x = some h') (hc : c < 14) (hk : k < eg_nf c) (hty : eg_ty c k = .boolean) (hlk : Cond.fieldLink own idx (eg_T c k).1 (eg_T c k).2.1 (eg_T c k).2.2.1 ∈ eg_G) (hf : (eg_T c k).2.2.2 = false)
    (kk : eg_AW (own, cc, nL, d, sc, nm, rt) Z N S h0 (pc + 3) lv st h') : eg_AW (own, cc, nL, d, sc, nm, rt) Z N S h0 pc lv (.int x :: .ref p :: st) h := by
  obtain ⟨⟨⟨g1, g2⟩, gx⟩, g3⟩ := eg_pZ_s hg
  subst g3
  refine eg_gen kk rfl rfl (fun w _ => eg_o1 (eg_o1 w)) (fun _ w => w) (fun {p' l e R s m args below meth cd H locs cells slots Q ls A D dA} ad hx hb hown hts hK hP hD hS hnm hXt k1 => ?_)
  have hat := eg_ws_at dA ad h g1 (eg_kd_lt g2 (by omega))
  rw [g2, eg_ce_O (by omega)] at hat
  have hset := eg_ws_sI (dA := dA) (ad := ad) (h := h) (i := k) (x := x) (e := .inr (c, (eg_fs ad h p c (eg_nf c)).set k (.int x))) g1 (by rw [g2]; exact eg_ce_sI (by omega) hk (by unfold eg_ft; rw [hty]; rfl))
  have hpd : parseFieldDescriptor (eg_T c k).2.2.1 = some .boolean := by rw [← hty]; exact eg_tyok c hc k hk
  exact va_put (D := D) (C := eg_R c) (T := eg_T c) (N := eg_nf c) (v := .int x) (ty := .boolean) hx hb hts (eg_uw c hc) (eg_ty c) (eg_tyok c hc) (eg_nmok c hc) hown hK hP hD hS (p - 16) hat (eg_clat c hc) k hk (hts _ hlk) (fun _ q => q) hf hpd (by rcases gx with rfl | rfl <;> rfl) (by rcases gx with rfl | rfl <;> rfl) (by rw [eg_fs_len]; exact hk) hd (fun H1 l1 q1 q2 q3 => k1 H1 l1 (hset ▸ q1) (hset ▸ q2) q3)
theorem eg_putL {c k p idx : Nat} {x : Int64} {h' : eg_H} (hd : decode cc pc = .ok (.putfield idx, 3)) (hg : eg_pL h c k p x = some h') (hc : c < 14) (hk : k < eg_nf c) (hty : eg_ty c k = .long) (hlk : Cond.fieldLink own idx (eg_T c k).1 (eg_T c k).2.1 (eg_T c k).2.2.1 ∈ eg_G) (hf : (eg_T c k).2.2.2 = false)
    (kk : eg_AW (own, cc, nL, d, sc, nm, rt) Z N S h0 (pc + 3) lv st h') : eg_AW (own, cc, nL, d, sc, nm, rt) Z N S h0 pc lv (.long x :: .ref p :: st) h := by
  obtain ⟨⟨g1, g2⟩, g3⟩ := eg_pL_s hg
  subst g3
  refine eg_gen kk rfl rfl (fun w _ => eg_o1 (eg_o1 w)) (fun _ w => w) (fun {p' l e R s m args below meth cd H locs cells slots Q ls A D dA} ad hx hb hown hts hK hP hD hS hnm hXt k1 => ?_)
  have hat := eg_ws_at dA ad h g1 (eg_kd_lt g2 (by omega))
  rw [g2, eg_ce_O (by omega)] at hat
  have hset := eg_ws_sL (dA := dA) (ad := ad) (h := h) (i := k) (x := x) (e := .inr (c, (eg_fs ad h p c (eg_nf c)).set k (.long x))) g1 (by rw [g2]; exact eg_ce_sL (by omega) hk (by unfold eg_ft; rw [hty]; rfl))
  have hpd : parseFieldDescriptor (eg_T c k).2.2.1 = some .long := by rw [← hty]; exact eg_tyok c hc k hk
  exact va_put (D := D) (C := eg_R c) (T := eg_T c) (N := eg_nf c) (v := .long x) (ty := .long) hx hb hts (eg_uw c hc) (eg_ty c) (eg_tyok c hc) (eg_nmok c hc) hown hK hP hD hS (p - 16) hat (eg_clat c hc) k hk (hts _ hlk) (fun _ q => q) hf hpd rfl rfl (by rw [eg_fs_len]; exact hk) hd (fun H1 l1 q1 q2 q3 => k1 H1 l1 (hset ▸ q1) (hset ▸ q2) q3)
theorem eg_nar_ref {ty : FieldType} (ht : eg_tc ty = 2) (x : Option Nat) : narrow ty (va_rf x) = va_rf x ∧ fits ty (va_rf x) = true := by
  cases ty <;> first | (exact absurd ht (by decide)) | (cases x <;> exact ⟨rfl, rfl⟩)
theorem eg_putP {c k p idx : Nat} {x : Option Nat} {h' : eg_H} (hd : decode cc pc = .ok (.putfield idx, 3)) (hg : eg_pP h c k p x = some h') (hc : c < 14) (hk : k < eg_nf c) (ht : eg_ft c k = 2) (hlk : Cond.fieldLink own idx (eg_T c k).1 (eg_T c k).2.1 (eg_T c k).2.2.1 ∈ eg_G) (hf : (eg_T c k).2.2.2 = false ∨ ((eg_T c k).2.2.2 = true ∧ nm = "<init>" ∧ (eg_T c k).1 = own))
    (kk : eg_AW (own, cc, nL, d, sc, nm, rt) Z N S h0 (pc + 3) lv st h') : eg_AW (own, cc, nL, d, sc, nm, rt) Z N S h0 pc lv (va_rf x :: .ref p :: st) h := by
  obtain ⟨⟨g1, g2⟩, g3⟩ := eg_pP_s hg
  subst g3
  refine eg_gen kk rfl rfl (fun w _ => eg_o1 (eg_o1 w)) (fun w wf => eg_wf_sP wf p k (fun j hj => eg_ot w j (by rw [hj]; rfl))) (fun {p' l e R s m args below meth cd H locs cells slots Q ls A D dA} ad hx hb hown hts hK hP hD hS hnm hXt k1 => ?_)
  have hat := eg_ws_at dA ad h g1 (eg_kd_lt g2 (by omega))
  rw [g2, eg_ce_O (by omega)] at hat
  have hset := eg_ws_sP (dA := dA) (ad := ad) (h := h) (i := k) (x := x) (e := .inr (c, (eg_fs ad h p c (eg_nf c)).set k (va_rf (x.map ad)))) g1 (by rw [g2]; exact eg_ce_sP (by omega) hk ht)
  have hpd := eg_tyok c hc k hk
  obtain ⟨n1, n2⟩ := eg_nar_ref ht (x.map ad)
  show W _ _ _ _ _ _ _ _ _ _ _ _ _ _ _ (F0 m pc ls (eg_cv ad (va_rf x) :: .ref (ad p) :: st.map (eg_cv ad)))
  rw [eg_cv_q]
  rcases hf with hf | ⟨hf, hi, ho⟩
  · exact va_put (D := D) (C := eg_R c) (T := eg_T c) (N := eg_nf c) (v := va_rf (x.map ad)) hx hb hts (eg_uw c hc) (eg_ty c) (eg_tyok c hc) (eg_nmok c hc) hown hK hP hD hS (p - 16) hat (eg_clat c hc) k hk (hts _ hlk) (fun _ q => q) hf hpd n1 n2 (by rw [eg_fs_len]; exact hk) hd (fun H1 l1 q1 q2 q3 => k1 H1 l1 (hset ▸ q1) (hset ▸ q2) q3)
  · exact va_putF (D := D) (C := eg_R c) (T := eg_T c) (N := eg_nf c) (v := va_rf (x.map ad)) hx hb hts (eg_uw c hc) (eg_ty c) (eg_tyok c hc) (eg_nmok c hc) hown hK hP hD hS (p - 16) hat (eg_clat c hc) k hk (hts _ hlk) (fun _ q => q) hf (hnm.trans hi) ho hpd n1 n2 (by rw [eg_fs_len]; exact hk) hd (fun H1 l1 q1 q2 q3 => k1 H1 l1 (hset ▸ q1) (hset ▸ q2) q3)
theorem eg_putR {c k p idx x : Nat} {h' : eg_H} (hd : decode cc pc = .ok (.putfield idx, 3)) (hg : eg_pP h c k p (some x) = some h') (hc : c < 14) (hk : k < eg_nf c) (ht : eg_ft c k = 2) (hlk : Cond.fieldLink own idx (eg_T c k).1 (eg_T c k).2.1 (eg_T c k).2.2.1 ∈ eg_G) (hf : (eg_T c k).2.2.2 = false ∨ ((eg_T c k).2.2.2 = true ∧ nm = "<init>" ∧ (eg_T c k).1 = own))
    (kk : eg_AW (own, cc, nL, d, sc, nm, rt) Z N S h0 (pc + 3) lv st h') : eg_AW (own, cc, nL, d, sc, nm, rt) Z N S h0 pc lv (.ref x :: .ref p :: st) h := eg_putP (x := some x) hd hg hc hk ht hlk hf kk
theorem eg_in_of {i : Int32} {n : Nat} (h1 : ¬ i < 0) (h2 : i.toNatClampNeg < n) : vp_in i n := fun q => q.elim h1 (fun z => absurd h2 (Nat.not_lt.mpr z))
theorem eg_isA_lt {h : eg_H} {k p : Nat} {i : Int32} (g : eg_isA h k p i) : p < eg_nc h := by
  rcases Nat.lt_or_ge p (eg_nc h) with q | q
  · exact q
  · have q : h.1.length ≤ p := q
    have e : eg_kd h p = (999, 0) := by simp [eg_kd, List.getElem?_eq_none q]
    have := g.2.2.2
    rw [e] at this
    exact absurd this (Nat.not_lt_zero _)
theorem eg_at_A {dA : Nat → ClassId} {ad : Nat → Nat} {h : eg_H} {k p : Nat} {i : Int32} (g : eg_isA h k p i) (hk : 100 ≤ k) : (eg_ws dA ad h)[p - 16]? = some (ad p, .inl (dA k, eg_ar ad h p k (eg_kd h p).2)) := by
  rw [eg_ws_at dA ad h g.1 (eg_isA_lt g)]
  have e : eg_kd h p = (k, (eg_kd h p).2) := by rw [← g.2.1]
  rw [e, eg_ce_A hk]
theorem eg_iald {p : Nat} {i x : Int32} (hd : decode cc pc = .ok (.iaload, 1)) (hg : eg_aI h 100 p i = some x)
    (kk : eg_AW (own, cc, nL, d, sc, nm, rt) Z N S h0 (pc + 1) lv (.int x :: st) h) : eg_AW (own, cc, nL, d, sc, nm, rt) Z N S h0 pc lv (.int i :: .ref p :: st) h := by
  obtain ⟨g, g3⟩ := eg_aI_s hg
  subst g3
  refine eg_gen kk rfl rfl (fun w _ => eg_oc (eg_o1 (eg_o1 w)) (eg_vi _)) (fun _ w => w) (fun {p' l e R s m args below meth cd H locs cells slots Q ls A D dA} ad hx hb hown hts hK hP hD hS hnm hXt k1 => ?_)
  have hat := eg_at_A (dA := dA) (ad := ad) g (by omega)
  rw [eg_ar_I (by omega) (by omega)] at hat
  exact va_iald hx hb hK hP (p - 16) 0 hat rfl (eg_in_of g.2.2.1 g.2.2.2) hd (k1 H locs hP hD hS)
theorem eg_bald {p : Nat} {i x : Int32} (hd : decode cc pc = .ok (.baload, 1)) (hg : eg_aI h 102 p i = some x)
    (kk : eg_AW (own, cc, nL, d, sc, nm, rt) Z N S h0 (pc + 1) lv (.int x :: st) h) : eg_AW (own, cc, nL, d, sc, nm, rt) Z N S h0 pc lv (.int i :: .ref p :: st) h := by
  obtain ⟨g, g3⟩ := eg_aI_s hg
  subst g3
  refine eg_gen kk rfl rfl (fun w _ => eg_oc (eg_o1 (eg_o1 w)) (eg_vi _)) (fun _ w => w) (fun {p' l e R s m args below meth cd H locs cells slots Q ls A D dA} ad hx hb hown hts hK hP hD hS hnm hXt k1 => ?_)
  have hat := eg_at_A (dA := dA) (ad := ad) g (by omega)
  rw [eg_ar_I (by omega) (by omega)] at hat
  exact va_bald hx hb hK hP (p - 16) 2 hat rfl (eg_in_of g.2.2.1 g.2.2.2) hd (k1 H locs hP hD hS)
theorem eg_zald {p : Nat} {i x : Int32} (hd : decode cc pc = .ok (.baload, 1)) (hg : eg_aI h 103 p i = some x)
    (kk : eg_AW (own, cc, nL, d, sc, nm, rt) Z N S h0 (pc + 1) lv (.int x :: st) h) : eg_AW (own, cc, nL, d, sc, nm, rt) Z N S h0 pc lv (.int i :: .ref p :: st) h := by
  obtain ⟨g, g3⟩ := eg_aI_s hg
  subst g3
  refine eg_gen kk rfl rfl (fun w _ => eg_oc (eg_o1 (eg_o1 w)) (eg_vi _)) (fun _ w => w) (fun {p' l e R s m args below meth cd H locs cells slots Q ls A D dA} ad hx hb hown hts hK hP hD hS hnm hXt k1 => ?_)
  have hat := eg_at_A (dA := dA) (ad := ad) g (by omega)
  rw [eg_ar_I (by omega) (by omega)] at hat
  exact va_zald hx hb hK hP (p - 16) 3 hat rfl (eg_in_of g.2.2.1 g.2.2.2) hd (k1 H locs hP hD hS)
theorem eg_lald {p : Nat} {i : Int32} {x : Int64} (hd : decode cc pc = .ok (.laload, 1)) (hg : eg_aL h p i = some x)
    (kk : eg_AW (own, cc, nL, d, sc, nm, rt) Z N S h0 (pc + 1) lv (.long x :: st) h) : eg_AW (own, cc, nL, d, sc, nm, rt) Z N S h0 pc lv (.int i :: .ref p :: st) h := by
  obtain ⟨g, g3⟩ := eg_aL_s hg
  subst g3
  refine eg_gen kk rfl rfl (fun w _ => eg_oc (eg_o1 (eg_o1 w)) (eg_vl _)) (fun _ w => w) (fun {p' l e R s m args below meth cd H locs cells slots Q ls A D dA} ad hx hb hown hts hK hP hD hS hnm hXt k1 => ?_)
  have hat := eg_at_A (dA := dA) (ad := ad) g (by omega)
  rw [eg_ar_L] at hat
  exact va_lald hx hb hK hP (p - 16) 1 hat rfl (eg_in_of g.2.2.1 g.2.2.2) hd (k1 H locs hP hD hS)
def eg_tq (c : Nat) : Nat := c + 2
theorem eg_tq_ok (dA : Nat → ClassId) : ∀ c, 2 ≤ c → c < 6 → (eg_tys dA)[eg_tq c]? = some (dA (110 + c), .object (eg_R c)) := by
  intro c h1 h2
  rcases (show c = 2 ∨ c = 3 ∨ c = 4 ∨ c = 5 by omega) with rfl | rfl | rfl | rfl <;> rfl
theorem eg_aaldq {c p : Nat} {i : Int32} {x : Option Nat} (hd : decode cc pc = .ok (.aaload, 1)) (hg : eg_aQ h (110 + c) p i = some x) (hc1 : 2 ≤ c) (hc2 : c < 6)
    (kk : eg_AW (own, cc, nL, d, sc, nm, rt) Z N S h0 (pc + 1) lv (va_rf x :: st) h) : eg_AW (own, cc, nL, d, sc, nm, rt) Z N S h0 pc lv (.int i :: .ref p :: st) h := by
  obtain ⟨g, g3⟩ := eg_aQ_s hg
  subst g3
  refine eg_gen kk rfl rfl (fun w wf => eg_oc (eg_o1 (eg_o1 w)) (eg_vq (wf.2 _ _))) (fun _ w => w) (fun {p' l e R s m args below meth cd H locs cells slots Q ls A D dA} ad hx hb hown hts hK hP hD hS hnm hXt k1 => ?_)
  have hat := eg_at_A (dA := dA) (ad := ad) g (by omega)
  rw [eg_ar_P (by omega)] at hat
  refine va_aldq hx hb hK hP (p - 16) (eg_tq c) hat (eg_tq_ok dA c hc1 hc2) (eg_in_of g.2.2.1 g.2.2.2) hd ?_
  have k1 := k1 H locs hP hD hS
  rw [List.map_cons, eg_cv_q] at k1
  exact k1
theorem eg_aaldr {c p : Nat} {i : Int32} {x : Nat} (hd : decode cc pc = .ok (.aaload, 1)) (hg : eg_aR h (110 + c) p i = some x) (hc1 : 2 ≤ c) (hc2 : c < 6)
    (kk : eg_AW (own, cc, nL, d, sc, nm, rt) Z N S h0 (pc + 1) lv (.ref x :: st) h) : eg_AW (own, cc, nL, d, sc, nm, rt) Z N S h0 pc lv (.int i :: .ref p :: st) h := by
  obtain ⟨g, g3⟩ := eg_aR_s hg
  exact eg_aaldq (x := some x) hd (by unfold eg_aQ; rw [if_pos g, g3]) hc1 hc2 kk
theorem eg_set_I {dA : Nat → ClassId} {ad : Nat → Nat} {h : eg_H} {k p : Nat} {i x : Int32} (g : eg_isA h k p i) (h1 : 100 ≤ k) (h2 : k < 110) (h3 : k ≠ 101) : (eg_ws dA ad h).set (p - 16) (ad p, .inl (dA k, ((eg_kd h p).2, .inl (upd (eg_I h p) i.toNatClampNeg x)))) = eg_ws dA ad (eg_sI h p i.toNatClampNeg x) := by
  refine eg_ws_sI g.1 ?_
  have e : eg_kd h p = (k, (eg_kd h p).2) := by rw [← g.2.1]
  rw [e, eg_ce_A h1, eg_ar_I h2 h3, eg_upd_I]
theorem eg_iast {p : Nat} {i x : Int32} {h' : eg_H} (hd : decode cc pc = .ok (.iastore, 1)) (hg : eg_wI h 100 p i x = some h')
    (kk : eg_AW (own, cc, nL, d, sc, nm, rt) Z N S h0 (pc + 1) lv st h') : eg_AW (own, cc, nL, d, sc, nm, rt) Z N S h0 pc lv (.int x :: .int i :: .ref p :: st) h := by
  obtain ⟨g, g3⟩ := eg_wI_s hg
  subst g3
  refine eg_gen kk rfl rfl (fun w _ => eg_o1 (eg_o1 (eg_o1 w))) (fun _ w => w) (fun {p' l e R s m args below meth cd H locs cells slots Q ls A D dA} ad hx hb hown hts hK hP hD hS hnm hXt k1 => ?_)
  have hat := eg_at_A (dA := dA) (ad := ad) g (by omega)
  rw [eg_ar_I (by omega) (by omega)] at hat
  have hset := eg_set_I (dA := dA) (ad := ad) (x := x) g (by omega) (by omega) (by omega)
  exact va_iast hx hb hK hP hD hS (p - 16) 0 hat rfl (eg_in_of g.2.2.1 g.2.2.2) hd (fun H1 l1 q1 q2 q3 => k1 H1 l1 (hset ▸ q1) (hset ▸ q2) q3)
theorem eg_bast {p : Nat} {i x : Int32} {h' : eg_H} (hd : decode cc pc = .ok (.bastore, 1)) (hg : eg_wI h 102 p i (vp_nar .byte x) = some h')
    (kk : eg_AW (own, cc, nL, d, sc, nm, rt) Z N S h0 (pc + 1) lv st h') : eg_AW (own, cc, nL, d, sc, nm, rt) Z N S h0 pc lv (.int x :: .int i :: .ref p :: st) h := by
  obtain ⟨g, g3⟩ := eg_wI_s hg
  subst g3
  refine eg_gen kk rfl rfl (fun w _ => eg_o1 (eg_o1 (eg_o1 w))) (fun _ w => w) (fun {p' l e R s m args below meth cd H locs cells slots Q ls A D dA} ad hx hb hown hts hK hP hD hS hnm hXt k1 => ?_)
  have hat := eg_at_A (dA := dA) (ad := ad) g (by omega)
  rw [eg_ar_I (by omega) (by omega)] at hat
  have hset := eg_set_I (dA := dA) (ad := ad) (x := vp_nar .byte x) g (by omega) (by omega) (by omega)
  exact va_bast hx hb hK hP hD hS (p - 16) 2 hat rfl (eg_in_of g.2.2.1 g.2.2.2) hd (fun H1 l1 q1 q2 q3 => k1 H1 l1 (hset ▸ q1) (hset ▸ q2) q3)
theorem eg_zast {p : Nat} {i x : Int32} {h' : eg_H} (hd : decode cc pc = .ok (.bastore, 1)) (hg : eg_wI h 103 p i (vp_nar .boolean x) = some h')
    (kk : eg_AW (own, cc, nL, d, sc, nm, rt) Z N S h0 (pc + 1) lv st h') : eg_AW (own, cc, nL, d, sc, nm, rt) Z N S h0 pc lv (.int x :: .int i :: .ref p :: st) h := by
  obtain ⟨g, g3⟩ := eg_wI_s hg
  subst g3
  refine eg_gen kk rfl rfl (fun w _ => eg_o1 (eg_o1 (eg_o1 w))) (fun _ w => w) (fun {p' l e R s m args below meth cd H locs cells slots Q ls A D dA} ad hx hb hown hts hK hP hD hS hnm hXt k1 => ?_)
  have hat := eg_at_A (dA := dA) (ad := ad) g (by omega)
  rw [eg_ar_I (by omega) (by omega)] at hat
  have hset := eg_set_I (dA := dA) (ad := ad) (x := vp_nar .boolean x) g (by omega) (by omega) (by omega)
  exact va_zast hx hb hK hP hD hS (p - 16) 3 hat rfl (eg_in_of g.2.2.1 g.2.2.2) hd (fun H1 l1 q1 q2 q3 => k1 H1 l1 (hset ▸ q1) (hset ▸ q2) q3)
theorem eg_last {p : Nat} {i : Int32} {x : Int64} {h' : eg_H} (hd : decode cc pc = .ok (.lastore, 1)) (hg : eg_wL h p i x = some h')
    (kk : eg_AW (own, cc, nL, d, sc, nm, rt) Z N S h0 (pc + 1) lv st h') : eg_AW (own, cc, nL, d, sc, nm, rt) Z N S h0 pc lv (.long x :: .int i :: .ref p :: st) h := by
  obtain ⟨g, g3⟩ := eg_wL_s hg
  subst g3
  refine eg_gen kk rfl rfl (fun w _ => eg_o1 (eg_o1 (eg_o1 w))) (fun _ w => w) (fun {p' l e R s m args below meth cd H locs cells slots Q ls A D dA} ad hx hb hown hts hK hP hD hS hnm hXt k1 => ?_)
  have hat := eg_at_A (dA := dA) (ad := ad) g (by omega)
  rw [eg_ar_L] at hat
  have hset : (eg_ws dA ad h).set (p - 16) (ad p, .inl (dA 101, ((eg_kd h p).2, .inr (.inl (vp_updL (eg_L h p) i.toNatClampNeg x))))) = eg_ws dA ad (eg_sL h p i.toNatClampNeg x) := by
    refine eg_ws_sL g.1 ?_
    have e : eg_kd h p = (101, (eg_kd h p).2) := by rw [← g.2.1]
    rw [e, eg_ce_A (by omega), eg_ar_L, eg_upd_L]
  exact va_last hx hb hK hP hD hS (p - 16) 1 hat rfl (eg_in_of g.2.2.1 g.2.2.2) hd (fun H1 l1 q1 q2 q3 => k1 H1 l1 (hset ▸ q1) (hset ▸ q2) q3)
theorem eg_aast {c p x : Nat} {i : Int32} {h' : eg_H} (hd : decode cc pc = .ok (.aastore, 1)) (hg : eg_wR h c p i x = some h') (hc1 : 2 ≤ c) (hc2 : c < 6)
    (kk : eg_AW (own, cc, nL, d, sc, nm, rt) Z N S h0 (pc + 1) lv st h') : eg_AW (own, cc, nL, d, sc, nm, rt) Z N S h0 pc lv (.ref x :: .int i :: .ref p :: st) h := by
  obtain ⟨⟨g, gx⟩, g3⟩ := eg_wR_s hg
  subst g3
  refine eg_gen kk rfl rfl (fun w _ => eg_o1 (eg_o1 (eg_o1 w))) (fun w wf => eg_wf_sP wf p _ (fun j hj => eg_ot w j (by cases hj; rfl))) (fun {p' l e R s m args below meth cd H locs cells slots Q ls A D dA} ad hx hb hown hts hK hP hD hS hnm hXt k1 => ?_)
  have hat := eg_at_A (dA := dA) (ad := ad) g (by omega)
  rw [eg_ar_P (by omega)] at hat
  have hatx := eg_ws_at dA ad h gx.1 (eg_kd_lt gx.2 (by omega))
  rw [gx.2, eg_ce_O (by omega)] at hatx
  have hset : (eg_ws dA ad h).set (p - 16) (ad p, .inl (dA (110 + c), ((eg_kd h p).2, .inr (.inr (.inr (.inr (va_up (fun j => (eg_P h p j).map ad) i.toNatClampNeg (some (ad x))))))))) = eg_ws dA ad (eg_sP h p i.toNatClampNeg (some x)) := by
    refine eg_ws_sP g.1 ?_
    have e : eg_kd h p = (110 + c, (eg_kd h p).2) := by rw [← g.2.1]
    rw [e, eg_ce_A (by omega), eg_ar_P (by omega), ← eg_upd_P]
    rfl
  exact va_astq hx hb hK hP hD hS (p - 16) (eg_tq c) (x - 16) c hat (eg_tq_ok dA c hc1 hc2) hatx (eg_clat c (by omega)) (eg_in_of g.2.2.1 g.2.2.2) hd (fun H1 l1 q1 q2 q3 => k1 H1 l1 (hset ▸ q1) (hset ▸ q2) q3)
theorem eg_alen {p : Nat} {x : Int32} (hd : decode cc pc = .ok (.arraylength, 1)) (hg : eg_al h p = some x)
    (kk : eg_AW (own, cc, nL, d, sc, nm, rt) Z N S h0 (pc + 1) lv (.int x :: st) h) : eg_AW (own, cc, nL, d, sc, nm, rt) Z N S h0 pc lv (.ref p :: st) h := by
  obtain ⟨⟨g1, g2⟩, g3⟩ := eg_al_s hg
  subst g3
  refine eg_gen kk rfl rfl (fun w _ => eg_oc (eg_o1 w) (eg_vi _)) (fun _ w => w) (fun {p' l e R s m args below meth cd H locs cells slots Q ls A D dA} ad hx hb hown hts hK hP hD hS hnm hXt k1 => ?_)
  have hlt : p < eg_nc h := eg_kd_lt (k := (eg_kd h p).1) (n := (eg_kd h p).2) rfl (by omega)
  have hat := eg_ws_at dA ad h g1 hlt
  rw [show eg_kd h p = ((eg_kd h p).1, (eg_kd h p).2) from rfl, eg_ce_A (by omega)] at hat
  have go : ∀ (t0 : Nat) (ty : FieldType), (eg_tys dA)[t0]? = some (dA (eg_kd h p).1, ty) → W p' l e R s m args below meth cd H locs cells slots Q (F0 m pc ls ((.ref p :: st).map (eg_cv ad))) := fun t0 ty ht =>
    va_alen hx hb hK hP (p - 16) t0 hat ht rfl hd (k1 H locs hP hD hS)
  rcases g2 with q | q | q | q | q | q | q | q
  · exact go 0 .int (by rw [q]; rfl)
  · exact go 1 .long (by rw [q]; rfl)
  · exact go 2 .byte (by rw [q]; rfl)
  · exact go 3 .boolean (by rw [q]; rfl)
  · exact go 4 (.object RX2) (by rw [q]; rfl)
  · exact go 5 (.object RX3) (by rw [q]; rfl)
  · exact go 6 (.object RX4) (by rw [q]; rfl)
  · exact go 7 (.object RX5) (by rw [q]; rfl)
theorem eg_gets {k idx : Nat} (hd : decode cc pc = .ok (.getstatic idx, 3)) (h1 : 1 ≤ k) (h2 : k < 5) (hlk : Cond.fieldLink own idx "EggThrow" (eg_tn k) "[I" ∈ eg_G)
    (kk : eg_AW (own, cc, nL, d, sc, nm, rt) Z N S h0 (pc + 3) lv (.ref k :: st) h) : eg_AW (own, cc, nL, d, sc, nm, rt) Z N S h0 pc lv st h := by
  refine eg_gen kk rfl rfl (fun w wf => eg_oc w (eg_vr (by have := wf.1; omega))) (fun _ w => w) (fun {p' l e R s m args below meth cd H locs cells slots Q ls A D dA} ad hx hb hown hts hK hP hD hS hnm hXt k1 => ?_)
  exact va_gets hx hb (hXt.1 k h1 h2).1 hS hown (hts _ hlk) (fun _ q => q) hd (k1 H locs hP hD hS)
theorem eg_getsN {k idx : Nat} (hd : decode cc pc = .ok (.getstatic idx, 3)) (h1 : 1 ≤ k) (h2 : k < 5) (hown0 : own = "EggThrow$MeadowReader") (hlk : (idx = 83 ∧ eg_tn k = "ITEM_USUAL") ∨ (idx = 80 ∧ eg_tn k = "ITEM_LETTERS") ∨ (idx = 66 ∧ eg_tn k = "ITEM_LEAST") ∨ (idx = 69 ∧ eg_tn k = "ITEM_MOST"))
    (kk : eg_AW (own, cc, nL, d, sc, nm, rt) Z N S h0 (pc + 3) lv (.ref k :: st) h) : eg_AW (own, cc, nL, d, sc, nm, rt) Z N S h0 pc lv st h := by
  refine eg_gen kk rfl rfl (fun w wf => eg_oc w (eg_vr (by have := wf.1; omega))) (fun _ w => w) (fun {p' l e R s m args below meth cd H locs cells slots Q ls A D dA} ad hx hb hown hts hK hP hD hS hnm hXt k1 => ?_)
  exact va_getsN hx hb (hXt.1 k h1 h2).1 hS hown (va_Nw.use rfl (by rw [hown0]; exact hXt.2.2.1 idx _ hlk)) (fun _ q => q) hd (k1 H locs hP hD hS)
theorem eg_tald {k : Nat} {i x : Int32} (hd : decode cc pc = .ok (.iaload, 1)) (h1 : 1 ≤ k) (h2 : k < 5) (hg : eg_tI k i = some x)
    (kk : eg_AW (own, cc, nL, d, sc, nm, rt) Z N S h0 (pc + 1) lv (.int x :: st) h) : eg_AW (own, cc, nL, d, sc, nm, rt) Z N S h0 pc lv (.int i :: .ref k :: st) h := by
  obtain ⟨g, g3⟩ := eg_tI_s hg
  refine eg_gen kk rfl rfl (fun w _ => eg_oc (eg_o1 (eg_o1 w)) (eg_vi _)) (fun _ w => w) (fun {p' l e R s m args below meth cd H locs cells slots Q ls A D dA} ad hx hb hown hts hK hP hD hS hnm hXt k1 => ?_)
  exact va_ti hx hb (hXt.1 k h1 h2).2 hS (eg_in_of g.1 g.2) (congrArg Value.int g3) hd (k1 H locs hP hD hS)
end RH
