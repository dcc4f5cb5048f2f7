theorem eg_cv_ad {ad ad' : Nat → Nat} {n : Nat} (h : ∀ k, k < n → ad' k = ad k) {v : Value} (hv : eg_vk n v) : eg_cv ad' v = eg_cv ad v := by
  cases v with
  | ref k => exact congrArg Value.ref (h k (hv k rfl))
  | _ => rfl
theorem eg_lm_ad {ad ad' : Nat → Nat} {n : Nat} (h : ∀ k, k < n → ad' k = ad k) {lv : List (Nat × Value)} {st : List Value} (ho : eg_ok n lv st) : eg_lm ad' lv = eg_lm ad lv := by
  unfold eg_lm
  refine List.map_congr_left (fun q hq => ?_)
  rw [eg_cv_ad h (ho.1 q hq)]
theorem eg_sm_ad {ad ad' : Nat → Nat} {n : Nat} (h : ∀ k, k < n → ad' k = ad k) {lv : List (Nat × Value)} {st : List Value} (ho : eg_ok n lv st) : st.map (eg_cv ad') = st.map (eg_cv ad) := List.map_congr_left (fun v hv => eg_cv_ad h (ho.2 v hv))
theorem eg_ok_le {n n' : Nat} {lv : List (Nat × Value)} {st : List Value} (hn : n ≤ n') (ho : eg_ok n lv st) : eg_ok n' lv st := ⟨fun q hq k hk => Nat.lt_of_lt_of_le (ho.1 q hq k hk) hn, fun v hv k hk => Nat.lt_of_lt_of_le (ho.2 v hv k hk) hn⟩
theorem eg_I_new (h : eg_H) (k n : Nat) : eg_I (eg_new h k n) (eg_nc h) = fun _ => 0 := by
  show (if eg_nc h = h.1.length then _ else _) = _
  exact if_pos rfl
theorem eg_L_new (h : eg_H) (k n : Nat) : eg_L (eg_new h k n) (eg_nc h) = fun _ => 0 := by
  show (if eg_nc h = h.1.length then _ else _) = _
  exact if_pos rfl
theorem eg_P_new (h : eg_H) (k n : Nat) : eg_P (eg_new h k n) (eg_nc h) = fun _ => none := by
  show (if eg_nc h = h.1.length then _ else _) = _
  exact if_pos rfl
section RA
variable {own : String} {cc : ByteArray} {nL d : Nat} {sc : Option (Nat × (Nat → Int32) × Nat)} {nm : String} {rt : Option FieldType} {Z : eg_C → State → Prop} {N S : Nat} {h0 : eg_H} {pc : Nat} {lv : List (Nat × Value)} {st : List Value} {h : eg_H}
theorem eg_mk {pc' kn nn : Nat} {st1 : List Value} (kk : eg_AW (own, cc, nL, d, sc, nm, rt) Z N S h0 pc' lv (.ref (eg_nc h) :: st) (eg_new h kn nn)) (ho : eg_ok (eg_nc h) lv st1 → eg_ok (eg_nc h) lv st)
    (f : ∀ {p : Program} {l : Launch} {e : Env} {R : Room} {s : State} {m : MethodId} {args : Array Value} {below : List Frame} {meth : Method} {c : Code} {H : Heap} {locs : List Loc} {cells slots : Nat} {Q : State → Prop} {ls : Array Slot} {A : Nat → Prop} {D : va_G} {dA : Nat → ClassId} (ad : Nat → Nat), p.tables.exec = Jvm.exec → c.code = cc → s.vm.findClass own = some m.cls → (∀ w ∈ eg_G, w.before args s = true) → va_K D eg_cl (eg_tys dA) s →
      va_P D eg_cl (eg_ws dA ad h) H → va_D A (eg_ws dA ad h) → va_S A s.heap H locs → eg_Xt ad A s s.heap → (∀ q, s.heap.size ≤ q → A q) → cells + 1 ≤ R.cells → slots + nn ≤ R.slots →
      (∀ q H1, va_P D eg_cl (eg_ws dA ad h ++ [(q, eg_ce dA ad (eg_new h kn nn) (eg_nc h) (kn, nn))]) H1 → va_D A (eg_ws dA ad h ++ [(q, eg_ce dA ad (eg_new h kn nn) (eg_nc h) (kn, nn))]) → va_S A s.heap H1 locs → W p l e R s m args below meth c H1 locs (cells + 1) (slots + nn) Q (F0 m pc' ls (.ref q :: st.map (eg_cv ad)))) → W p l e R s m args below meth c H locs cells slots Q (F0 m pc ls (st1.map (eg_cv ad)))) :
    eg_AW (own, cc, nL, d, sc, nm, rt) Z N S h0 pc lv st1 h := by
  obtain ⟨⟨b1, b2⟩, b3⟩ := kk.1
  have b3 : eg_gb sc ≤ eg_gm sc := b3
  rw [eg_nc_new] at b1
  rw [eg_ns_new] at b2
  refine ⟨⟨⟨by omega, by omega⟩, b3⟩, fun X hX => ?_⟩
  have k2 := kk.2 X hX
  obtain ⟨p, l, e, R, s, m, args, below, meth, c, A, D, dA, ad0⟩ := X
  intro ad H locs ls hl hok hr
  obtain ⟨x1, x2, x3, x4, x5, x6, x7, x8, x9, x10, x11, x12, x13, x14, x15, x16⟩ := hX
  have x10 : N - eg_nc h0 + eg_gm sc ≤ R.cells := x10
  have x11 : S - eg_ns h0 + 16 * eg_gm sc ≤ R.slots := x11
  show W _ _ _ _ _ _ _ _ _ _ _ _ (eg_nc h - eg_nc h0 + eg_gb sc) (eg_ns h - eg_ns h0 + 16 * eg_gb sc) _ _
  obtain ⟨r1, r2, r3, r4, r5, r6, r7, r8⟩ := hr
  refine f ad x1 x2 x4 x5 x6 r1 r2 r3 (eg_Xt_ad x12 (fun k hk => r5 k (by omega))) x7 (by omega) (by omega) (fun q H1 q1 q2 q3 => ?_)
  have hok' := ho hok
  have he : eg_ce dA (eg_ex ad (eg_nc h) q) (eg_new h kn nn) (eg_nc h) (kn, nn) = eg_ce dA ad (eg_new h kn nn) (eg_nc h) (kn, nn) := by
    unfold eg_ce eg_fs eg_ar eg_fv
    rw [eg_P_new]
    rfl
  have hws := eg_ws_new (dA := dA) (ad := ad) (q := q) r4 he
  rw [hws] at q1 q2
  have hc : eg_nc h - eg_nc h0 + eg_gb sc + 1 = eg_nc (eg_new h kn nn) - eg_nc h0 + eg_gb sc := by rw [eg_nc_new]; omega
  have hs : eg_ns h - eg_ns h0 + 16 * eg_gb sc + nn = eg_ns (eg_new h kn nn) - eg_ns h0 + 16 * eg_gb sc := by rw [eg_ns_new]; omega
  rw [hc, hs]
  have go := k2 (eg_ex ad (eg_nc h) q) H1 locs ls (by rw [eg_lm_ad eg_ex_old hok']; exact hl) (by rw [eg_nc_new]; exact eg_oc (eg_ok_le (Nat.le_succ _) hok') (eg_vr (Nat.lt_succ_self _))) ⟨q1, q2, q3, eg_wf_new r4 kn nn, fun k hk => by rw [eg_ex_old k (by omega)]; exact r5 k hk, by rw [eg_nc_new]; omega, by rw [eg_ns_new]; omega, r8⟩
  rw [List.map_cons, eg_sm_ad eg_ex_old hok'] at go
  have e : eg_cv (eg_ex ad (eg_nc h) q) (.ref (eg_nc h)) = .ref q := congrArg Value.ref eg_ex_new
  rw [e] at go
  exact go
theorem eg_newO {c idx : Nat} (hd : decode cc pc = .ok (.new idx, 3)) (hc : c < 14) (hcl : Cond.classLink own idx (eg_R c) ∈ eg_G) (hin : Cond.instantiable (eg_R c) (eg_nf c) ∈ eg_G) (hini : Cond.initialized (eg_R c) ∈ eg_G)
    (kk : eg_AW (own, cc, nL, d, sc, nm, rt) Z N S h0 (pc + 3) lv (.ref (eg_nc h) :: st) (eg_new h c (eg_nf c))) : eg_AW (own, cc, nL, d, sc, nm, rt) Z N S h0 pc lv st h := by
  refine eg_mk kk (fun w => w) (fun {p' l e R s m args below meth cd H locs cells slots Q ls A D dA} ad hx hb hown hts hK hP hD hS hXt hA h1 h2 k1 => ?_)
  rw [eg_ce_O (by omega)] at k1
  refine va_new (D := D) (C := eg_R c) (T := eg_T c) (N := eg_nf c) hx hb hts (eg_uw c hc) (eg_ty c) (eg_tyok c hc) hown (hts _ hcl) (hts _ hin) (hts _ hini) hK hP hD hS hA (eg_clat c hc) (fun j hj => ?_) h1 h2 hd k1
  rw [eg_dfl c hc j hj]
  show _ = (eg_fs ad (eg_new h c (eg_nf c)) (eg_nc h) c (eg_nf c)).getD j .null
  rw [List.getD_eq_getElem?_getD, eg_fs_at _ _ _ _ hj, Option.getD_some]
  unfold eg_fv
  rw [eg_I_new, eg_L_new, eg_P_new]
  rfl
theorem eg_cA {D : va_G} {dA : Nat → ClassId} {s : State} {cA : ClassId} {ty : FieldType} {t0 k : Nat} (hK : va_K D eg_cl (eg_tys dA ++ [(cA, ty)]) s) (ht : (eg_tys dA)[t0]? = some (dA k, ty)) (hlt : t0 < 8) : cA = dA k := by
  have h1 := (hK.2 t0 (dA k, ty) (by rw [List.getElem?_append_left (by simp [eg_tys]; omega)]; exact ht)).2
  have h2 := (hK.2 8 (cA, ty) rfl).2
  cases ty with
  | object C =>
    obtain ⟨_, _, _, _, _, a1⟩ := h1
    obtain ⟨_, _, _, _, _, a2⟩ := h2
    exact Option.some.inj (a2.symm.trans a1)
  | _ => exact Option.some.inj (Eq.trans (Eq.symm h2) h1)
theorem eg_newa {k : Nat} {n : Int32} {h' : eg_H} (at0 : ArrayType) (hd : decode cc pc = .ok (.newarray at0, 2)) (hg : eg_na h k n = some h') (t0 : Nat) (hk1 : 100 ≤ k) (hk2 : k < 104) (ht0 : t0 < 8) (ht : ∀ dA, (eg_tys dA)[t0]? = some (dA k, newarray.typeOf at0)) (hb8 : componentBytes (newarray.typeOf at0) ≤ 8) (hdf : defaultValue (newarray.typeOf at0) = (if k = 101 then Value.long 0 else Value.int 0)) (hcl : Cond.arrayClass (newarray.typeOf at0) ∈ eg_G)
    (kk : eg_AW (own, cc, nL, d, sc, nm, rt) Z N S h0 (pc + 2) lv (.ref (eg_nc h) :: st) h') : eg_AW (own, cc, nL, d, sc, nm, rt) Z N S h0 pc lv (.int n :: st) h := by
  obtain ⟨⟨g1, g2⟩, g3⟩ := eg_na_s hg
  subst g3
  refine eg_mk kk (fun w => eg_o1 w) (fun {p' l e R s m args below meth cd H locs cells slots Q ls A D dA} ad hx hb hown hts hK hP hD hS hXt hA h1 h2 k1 => ?_)
  rw [eg_ce_A hk1] at k1
  refine va_newa (atype := at0) (ty := newarray.typeOf at0) (a0 := eg_ar ad (eg_new h k n.toNatClampNeg) (eg_nc h) k n.toNatClampNeg) hx hb (hts _ hcl) rfl hK hP hD hS hA (fun cA => ?_) g1 rfl ?_ h1 h2 hd (fun q cA H1 hK1 hP1 hD1 hS1 => ?_)
  · rw [hdf]
    by_cases hk : k = 101
    · subst hk
      rw [eg_ar_L, eg_L_new]
      rfl
    · rw [if_neg hk, eg_ar_I (by omega) hk, eg_I_new]
      rfl
  · exact Nat.le_trans (Nat.mul_le_mul g2 hb8) (Nat.le_of_ble_eq_true rfl)
  · have e := eg_cA hK1 (ht dA) ht0
    subst e
    exact k1 q H1 hP1 hD1 hS1
theorem eg_newq {c idx : Nat} {n : Int32} {h' : eg_H} (hd : decode cc pc = .ok (.anewarray idx, 3)) (hg : eg_na h (110 + c) n = some h') (hc1 : 2 ≤ c) (hc2 : c < 6) (hcl : Cond.classLink own idx (eg_R c) ∈ eg_G)
    (kk : eg_AW (own, cc, nL, d, sc, nm, rt) Z N S h0 (pc + 3) lv (.ref (eg_nc h) :: st) h') : eg_AW (own, cc, nL, d, sc, nm, rt) Z N S h0 pc lv (.int n :: st) h := by
  obtain ⟨⟨g1, g2⟩, g3⟩ := eg_na_s hg
  subst g3
  refine eg_mk kk (fun w => eg_o1 w) (fun {p' l e R s m args below meth cd H locs cells slots Q ls A D dA} ad hx hb hown hts hK hP hD hS hXt hA h1 h2 k1 => ?_)
  rw [eg_ce_A (by omega), eg_ar_P (by omega), eg_P_new] at k1
  refine va_newq (C := eg_R c) hx hb hown (hts _ hcl) (hXt.2.1 _ (by rcases (show c = 2 ∨ c = 3 ∨ c = 4 ∨ c = 5 by omega) with rfl | rfl | rfl | rfl <;> simp [eg_R])) hK hP hD hS hA g1 rfl ?_ h1 h2 hd (fun q cA H1 hK1 hP1 hD1 hS1 => ?_)
  · omega
  · have e := eg_cA hK1 (eg_tq_ok dA c hc1 hc2) (by unfold eg_tq; omega)
    subst e
    exact k1 q H1 hP1 hD1 hS1
end RA
