theorem st_K {s : State} {args : Array Value} (hts : ∀ w ∈ lw_tbl, w.before args s = true) : ∃ (D : va_G) (dA : Nat → ClassId), va_K D eg_cl (eg_tys dA) s := by
  have hG : ∀ w ∈ eg_G, w.before args s = true := fun w hw => hts w (List.mem_filter.mp hw).1
  have hk : ∀ c : Nat, ∃ q : ClassId × (Nat → Nat), c < 14 → u_Kn s (eg_R c) (eg_T c) (eg_nf c) q.1 q.2 := by
    intro c
    by_cases hc : c < 14
    · have go : ∀ (n : Nat), (∀ w ∈ u_ws (eg_R c) (eg_T c) (eg_nf c), w ∈ eg_G) → (Cond.instantiable (eg_R c) n).before args s = true → ∃ q : ClassId × (Nat → Nat), c < 14 → u_Kn s (eg_R c) (eg_T c) (eg_nf c) q.1 q.2 := fun n h1 h2 => by
        obtain ⟨a, b, h⟩ := u_known (ws := eg_G) hG h1 h2
        exact ⟨(a, b), fun _ => h⟩
      rcases (by omega : c = 0 ∨ c = 1 ∨ c = 2 ∨ c = 3 ∨ c = 4 ∨ c = 5 ∨ c = 6 ∨ c = 7 ∨ c = 8 ∨ c = 9 ∨ c = 10 ∨ c = 11 ∨ c = 12 ∨ c = 13) with rfl | rfl | rfl | rfl | rfl | rfl | rfl | rfl | rfl | rfl | rfl | rfl | rfl | rfl
      · exact go 4 eg_uw0 (hts _ (List.mem_of_getElem? (i := 269) (by decide +kernel)))
      · exact go 3 eg_uw1 (hts _ (List.mem_of_getElem? (i := 216) (by decide +kernel)))
      · exact go 5 eg_uw2 (hts _ (List.mem_of_getElem? (i := 291) (by decide +kernel)))
      · exact go 2 eg_uw3 (hts _ (List.mem_of_getElem? (i := 677) (by decide +kernel)))
      · exact go 2 eg_uw4 (hts _ (List.mem_of_getElem? (i := 843) (by decide +kernel)))
      · exact go 3 eg_uw5 (hts _ (List.mem_of_getElem? (i := 642) (by decide +kernel)))
      · exact go 3 eg_uw6 (hts _ (List.mem_of_getElem? (i := 180) (by decide +kernel)))
      · exact go 3 eg_uw7 (hts _ (List.mem_of_getElem? (i := 196) (by decide +kernel)))
      · exact go 5 eg_uw8 (hts _ (List.mem_of_getElem? (i := 158) (by decide +kernel)))
      · exact go 12 eg_uw9 (hts _ (List.mem_of_getElem? (i := 313) (by decide +kernel)))
      · exact go 5 eg_uw10 (hts _ (List.mem_of_getElem? (i := 135) (by decide +kernel)))
      · exact go 10 eg_uw11 (hts _ (List.mem_of_getElem? (i := 232) (by decide +kernel)))
      · exact go 19 eg_uw12 (hts _ (List.mem_of_getElem? (i := 127) (by decide +kernel)))
      · exact go 79 eg_uw13 (hts _ (List.mem_of_getElem? (i := 1427) (by decide +kernel)))
    · exact ⟨(0, fun _ => 0), fun h => absurd h hc⟩
  obtain ⟨cf, hcf⟩ := Classical.axiomOfChoice hk
  obtain ⟨a0, b0⟩ := st_arr1 (ty := .int) (hts _ (List.mem_of_getElem? (i := 156) (by decide +kernel))) (fun C h => by cases h)
  obtain ⟨a1, b1⟩ := st_arr1 (ty := .long) (hts _ (List.mem_of_getElem? (i := 355) (by decide +kernel))) (fun C h => by cases h)
  obtain ⟨a2, b2⟩ := st_arr1 (ty := .byte) (hts _ (List.mem_of_getElem? (i := 1425) (by decide +kernel))) (fun C h => by cases h)
  obtain ⟨a3, b3⟩ := st_arr1 (ty := .boolean) (hts _ (List.mem_of_getElem? (i := 1672) (by decide +kernel))) (fun C h => by cases h)
  obtain ⟨a4, b4⟩ := st_arrO (C := RX2) (hts _ (List.mem_of_getElem? (i := 290) (by decide +kernel)))
  obtain ⟨a5, b5⟩ := st_arrO (C := RX3) (hts _ (List.mem_of_getElem? (i := 214) (by decide +kernel)))
  obtain ⟨a6, b6⟩ := st_arrO (C := RX4) (hts _ (List.mem_of_getElem? (i := 275) (by decide +kernel)))
  obtain ⟨a7, b7⟩ := st_arrO (C := RX5) (hts _ (List.mem_of_getElem? (i := 212) (by decide +kernel)))
  refine ⟨(fun c => (cf c).1, fun c => (cf c).2), fun k => if k = 100 then a0 else if k = 101 then a1 else if k = 102 then a2 else if k = 103 then a3 else if k = 112 then a4 else if k = 113 then a5 else if k = 114 then a6 else a7, fun c q hq => ?_, fun k q hq => ?_⟩
  · have hc : c < 14 := by
      rcases Nat.lt_or_ge c 14 with z | z
      · exact z
      · have : eg_cl[c]? = none := List.getElem?_eq_none (by have : eg_cl.length = 14 := rfl
                                                             omega)
        rw [this] at hq; cases hq
    rw [eg_clat c hc] at hq
    cases hq
    exact hcf c hc
  · match k, hq with
    | 0, hq => cases hq; exact b0
    | 1, hq => cases hq; exact b1
    | 2, hq => cases hq; exact b2
    | 3, hq => cases hq; exact b3
    | 4, hq => cases hq; exact b4
    | 5, hq => cases hq; exact b5
    | 6, hq => cases hq; exact b6
    | 7, hq => cases hq; exact b7
    | k + 8, hq => simp [eg_tys] at hq
theorem st_Xt {s : State} {args : Array Value} {A : Nat → Prop} (b : Nat) (hgv : (Jvm.Cond.and given_1 narrow_1).before args s = true) (hts : ∀ w ∈ lw_tbl, w.before args s = true) (hA : ∀ a : Nat, a < s.heap.size → ¬ A a) : ∃ ad : Nat → Nat, ad 0 = b ∧ eg_Xt ad A s s.heap := by
  have hs := flat_of_before _ hgv
  obtain ⟨adK, adV, hS, hR⟩ := st_Str hgv hts hA
  have hz : ∀ k : Nat, ∃ t : Nat, 1 ≤ k → k < 5 → va_Z "EggThrow" (eg_tn k) "[I" (.ref t) A s s.heap ∧ va_T .int t 10 (fun j => .int ((eg_tb k).getD j 0)) A s s.heap := by
    intro k
    by_cases hk : 1 ≤ k ∧ k < 5
    · obtain ⟨t, h⟩ := st_Z hgv hts hA k hk.1 hk.2
      exact ⟨t, fun _ _ => h⟩
    · exact ⟨0, fun h1 h2 => absurd ⟨h1, h2⟩ hk⟩
  obtain ⟨tt, htt⟩ := Classical.axiomOfChoice hz
  refine ⟨fun k => if k = 0 then b else if k < 5 then tt k else adK (k - 5), rfl, fun k h1 h2 => ?_, fun C hC => ?_, fun i n hin => ?_, fun i c hic => ?_, ⟨⟨adV, ?_⟩, fun i hi => ?_⟩, ?_, ?_⟩
  · dsimp only
    rw [if_neg (by omega), if_pos h2]
    exact htt k h1 h2
  · rcases hC with rfl | rfl | rfl | rfl
    · exact va_AO.of (hts (.arrayOver (.object RX2)) (List.mem_of_getElem? (i := 290) (by decide +kernel)))
    · exact va_AO.of (hts (.arrayOver (.object RX3)) (List.mem_of_getElem? (i := 214) (by decide +kernel)))
    · exact va_AO.of (hts (.arrayOver (.object RX4)) (List.mem_of_getElem? (i := 275) (by decide +kernel)))
    · exact va_AO.of (hts (.arrayOver (.object RX5)) (List.mem_of_getElem? (i := 212) (by decide +kernel)))
  · rcases hin with ⟨rfl, rfl⟩ | ⟨rfl, rfl⟩ | ⟨rfl, rfl⟩ | ⟨rfl, rfl⟩
    · exact va_Nw.of rfl (hts _ (List.mem_of_getElem? (i := 450) (by decide +kernel)))
    · exact va_Nw.of rfl (hts _ (List.mem_of_getElem? (i := 484) (by decide +kernel)))
    · exact va_Nw.of rfl (hts _ (List.mem_of_getElem? (i := 486) (by decide +kernel)))
    · exact va_Nw.of rfl (hts _ (List.mem_of_getElem? (i := 488) (by decide +kernel)))
  · rcases hic with ⟨rfl, rfl⟩ | ⟨rfl, rfl⟩ | ⟨rfl, rfl⟩
    · exact va_Nw.of rfl (hts _ (List.mem_of_getElem? (i := 136) (by decide +kernel)))
    · exact va_Nw.of rfl (hts _ (List.mem_of_getElem? (i := 197) (by decide +kernel)))
    · exact va_Nw.of rfl (hts _ (List.mem_of_getElem? (i := 314) (by decide +kernel)))
  · have e : (fun i : Nat => (fun k : Nat => if k = 0 then b else if k < 5 then tt k else adK (k - 5)) (i + 5)) = adK := by
      funext i
      show (if i + 5 = 0 then b else if i + 5 < 5 then tt (i + 5) else adK (i + 5 - 5)) = adK i
      rw [if_neg (by omega), if_neg (by omega), Nat.add_sub_cancel]
    rw [e]
    exact hS
  · dsimp only
    rw [if_neg (by omega), if_neg (by omega), Nat.add_sub_cancel]
    exact hR i hi
  · exact va_Zof (hts _ (List.mem_of_getElem? (i := 1735) (by decide +kernel))) (hts (.initialized "java/lang/String") (by decide +kernel)) (va_eqt (hs _ (by decide +kernel))) hA
  · exact ⟨va_Zqof (hts _ (List.mem_of_getElem? (i := 1754) (by decide +kernel))) (hts (.initialized "jdk/internal/util/Preconditions") (by decide +kernel)) (hs _ (by decide +kernel)) hA, va_Nw.of rfl (hts _ (List.mem_of_getElem? (i := 655) (by decide +kernel)))⟩
theorem st_px {s : State} {args : Array Value} {A : Nat → Prop} (hgv : (Jvm.Cond.and given_1 narrow_1).before args s = true) (hts : ∀ w ∈ lw_tbl, w.before args s = true) (hA : ∀ a : Nat, a < s.heap.size → ¬ A a) : px_Z A s s.heap := by
  have hs := flat_of_before _ hgv
  have hi : (Cond.initialized Bundle.tN).before args s = true := hts _ (List.mem_of_getElem? (i := 120) (by decide +kernel))
  exact ⟨vx_Zqof (hts _ (List.mem_of_getElem? (i := 1387) (by decide +kernel))) hi (hs _ (by decide +kernel)) hA, vx_Zqof (hts _ (List.mem_of_getElem? (i := 1389) (by decide +kernel))) hi (hs _ (by decide +kernel)) hA, va_Nw.of rfl (hts _ (List.mem_of_getElem? (i := 1362) (by decide +kernel))), va_Nw.of rfl (hts _ (List.mem_of_getElem? (i := 1364) (by decide +kernel))), va_Nw.of rfl (hts _ (List.mem_of_getElem? (i := 1366) (by decide +kernel))), va_Nw.of rfl (hts _ (List.mem_of_getElem? (i := 1368) (by decide +kernel)))⟩
theorem whole_start {p : Program} {e : Env} {s : State} {m : MethodId} {below : List Frame} {meth : Method} {c : Code} (l : Launch) (hflags : l.flags = flags0) {b L : Nat} {xs : Nat → Int32} (hL : L ≤ 3072) (C0 : lw_At p s m meth c b L xs) : W p l e room_1 s m #[Value.ref b] below meth c s.heap [] 0 0 (lw_Z below #[Value.ref b] s) (entryFrame m ([Value.ref b] : List Value).toArray 7) := by
  obtain ⟨hx, hb, hr, hml, hown, hts, hX, hbl, hlocks, hgv⟩ := C0
  have hA : ∀ a : Nat, a < s.heap.size → ¬ (fun q : Nat => s.heap.size ≤ q) a := fun a h z => Nat.not_le.mpr h z
  obtain ⟨D, dA, hK⟩ := st_K hts
  obtain ⟨ad, h0, hXt⟩ := st_Xt b hgv hts hA
  have hZ := st_px hgv hts hA
  have htr : l.stackTraces = false := by
    unfold Launch.stackTraces
    rw [hflags]
    decide +kernel
  have hl := lv_entry ([Value.ref b]) (n := 7) (Nat.le_of_ble_eq_true rfl)
  rw [lg_entry_eq]
  have hl : lv_has _ 7 [(0, .ref b)] := hl
  have k2 := (law_begin (L := L) (xs := xs) (nm := meth.name) hL).2 (p, l, e, room_1, s, m, #[Value.ref b], below, meth, c, (fun q : Nat => s.heap.size ≤ q), D, dA, ad) ⟨hx, hb, hml, hown, fun w hw => hts w (List.mem_filter.mp hw).1, hK, fun q hq => hq, Nat.le_of_ble_eq_true rfl, Nat.le_of_ble_eq_true rfl, Nat.le_of_ble_eq_true rfl, Nat.le_of_ble_eq_true rfl, hXt, fun L' xs' g' q => (by cases q; rw [h0]; exact ⟨hX, hbl, fun z => Nat.not_le.mpr hbl z⟩), rfl, hr, hlocks⟩
  have ho : eg_ok (eg_nc h00) [(0, Value.ref 0)] [] := ⟨fun q hq => (by rw [List.mem_singleton.mp hq]; exact eg_vr (Nat.le_of_ble_eq_true rfl)), fun v hv => (by cases hv)⟩
  have no : ∀ (k : Nat) (q : Nat × va_E), ¬ (eg_ws dA ad h00)[k]? = some q := fun k q h => absurd (show ([] : va_W)[k]? = some q from h) (by simp)
  have hR : eg_Rl h00 s (fun q : Nat => s.heap.size ≤ q) D dA ad ad h00 s.heap [] := ⟨fun k q h => absurd h (no k q), ⟨fun i j p q h => absurd h (no i p), fun k q h => absurd h (no k q)⟩, va_S.rf, ⟨Nat.le_of_ble_eq_true rfl, fun p i k h => (by cases h)⟩, fun _ _ => rfl, Nat.le_refl _, Nat.le_refl _, Nat.le_of_ble_eq_true rfl⟩
  rw [← h0] at hl
  have k3 := k2 ad s.heap [] _ hl ho hR
  rw [Nat.sub_self, Nat.sub_self] at k3
  intro T hT X
  obtain ⟨t, a, q⟩ := k3 T hT X
  rw [h0] at a
  exact ⟨t, a, q htr hZ ⟨b, rfl⟩ rfl (fun _ h => h)⟩
