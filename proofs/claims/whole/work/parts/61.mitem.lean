section MI
variable {q b n : Nat} {t : Nat → Int32} {h : eg_H}
theorem sg_lk {i : Nat} (hd : dg (sg t n i)) : lk t n i = sg t n i := by
  have hlt := sg_lt hd
  unfold lk sg
  rw [if_pos hlt, if_pos hlt]
theorem dg_iff (i : Nat) : (i < n ∧ dg (t i)) ↔ dg (sg t n i) := by
  constructor
  · intro z
    unfold sg
    rw [if_pos z.1]
    exact z.2
  · intro z
    have hlt := sg_lt z
    unfold sg at z
    rw [if_pos hlt] at z
    exact ⟨hlt, z⟩
theorem M_isDigit' (H : Tm q b n t h) {f : Int32} {i : Nat} (hi : i ≤ 4000) : fX13_isDigit (mfi h (nI i) f) 54 = some (if dg (sg t n i) then 1 else 0, mfi h (nI i) f) := by
  rw [M_isDigit H hi]
  by_cases hd : dg (sg t n i)
  · rw [if_pos hd, if_pos ((dg_iff i).mpr hd)]
  · rw [if_neg hd, if_neg (fun z => hd ((dg_iff i).mp z))]
theorem z10 (x : Int32) : (10 : Int32) * 0 + x = x := by rw [Int32.mul_zero, Int32.zero_add]
theorem M_item78 (H : Tm q b n t h) {p pl i : Nat} {lo hi v : Int32} (hi9 : 1 ≤ i ∧ i ≤ 1000) (hw : ∀ a f v, eg_wI (mfi h a f) 100 p (nI pl) v = some (mfi (eg_sI h p pl v) a f)) :
    ∃ a, fX13_readItem_j78 (mfi h (nI i) (-1)) 54 p (nI pl) lo hi v = some (if dg (sg t n i) then mfi h a (nI i) else if v < lo ∨ hi < v then mfi h a (nI (i - 1)) else mfi (eg_sI h p pl v) (nI i) (-1)) := by
  have hs' : ∀ a c, eg_stt (mfi h a c) := fun _ _ => H.1
  unfold fX13_readItem_j78
  rw [M_isDigit' H (by omega), Option.bind_some]
  by_cases hd : dg (sg t n i)
  · refine ⟨nI i, ?_⟩
    rw [if_pos hd, if_pos hd]
    show (if (1 : Int32) = 0 then _ else _) = _
    rw [if_neg (by decide), M_fails H.1, Option.bind_some, if_pos rfl]
  · by_cases hv : v < lo ∨ hi < v
    · refine ⟨nI (i - 1), ?_⟩
      have em : nI i - 1 = nI (i - 1) := by
        rw [show i = (i - 1) + 1 by omega, nI_pred]
        rfl
      rw [if_neg hd, if_neg hd, if_pos hv]
      show (if (0 : Int32) = 0 then _ else _) = _
      rw [if_pos rfl, M_in, Option.bind_some, if_pos hv]
      show (if (0 : Int32) = 0 then _ else _) = _
      rw [if_pos rfl, gI_54 (hs' _ _), Option.bind_some, mfi_i10, pI_54 (hs' _ _), Option.bind_some, mfi_10, em, M_fails H.1, Option.bind_some, if_pos rfl]
    · refine ⟨0, ?_⟩
      rw [if_neg hd, if_neg hd, if_neg hv]
      show (if (0 : Int32) = 0 then _ else _) = _
      rw [if_pos rfl, M_in, Option.bind_some, if_neg hv]
      show (if (1 : Int32) = 0 then _ else _) = _
      rw [if_neg (by decide), hw]
      rfl
theorem M_item (H : Tm q b n t h) {p pl i : Nat} {lo hi : Int32} (hi9 : i ≤ 900) (hw : ∀ a f v, eg_wI (mfi h a f) 100 p (nI pl) v = some (mfi (eg_sI h p pl v) a f)) :
    ∃ a, fX13_readItem (mfi h (nI i) (-1)) 54 p (nI pl) lo hi = some (match numE t n 2 (skp t n (i + 1)) lo hi with
      | some e => mfi h a (nI e)
      | none => mfi (eg_sI h p pl (nvF t n 2 (skp t n (i + 1)) 0)) (nI (skp t n (i + 1) + ndF t n 2 (skp t n (i + 1)))) (-1)) := by
  have hs' : ∀ a c, eg_stt (mfi h a c) := fun _ _ => H.1
  have hn := Tm_n H
  unfold fX13_readItem
  rw [if_pos (iO_54 (hs' _ _)), gI_54 (hs' _ _), Option.bind_some, mfi_i10, pI_54 (hs' _ _), Option.bind_some, mfi_10, nI_1, M_look H (by omega), Option.bind_some]
  have hj : skp t n (i + 1) ≤ 901 := by
    rcases skp_le1 t n (i + 1) with z | z <;> omega
  generalize skp t n (i + 1) = j at hj
  show ∃ a, ((fX13_isDigit (mfi h (nI j) (-1)) 54).bind _) = _
  rw [M_isDigit' H (by omega), Option.bind_some]
  by_cases hd : dg (sg t n j)
  · rw [if_pos hd]
    show ∃ a, (if (1 : Int32) = 0 then _ else _) = _
    rw [if_neg (by decide), Option.bind_some, gI_54 (hs' _ _), Option.bind_some, mfi_i10, pI_54 (hs' _ _), Option.bind_some, mfi_10, nI_1, M_isDigit' H (by omega), Option.bind_some, sg_lk hd]
    by_cases hd2 : dg (sg t n (j + 1))
    · have e1 : ndF t n 2 j = 2 := by
        show (if _ then (if _ then _ else _) + 1 else _) = 2
        rw [if_pos hd, if_pos hd2]
        rfl
      have e2 : nvF t n 2 j 0 = 10 * (sg t n j - 48) + sg t n (j + 1) - 48 := by
        show (if dg (sg t n j) then (if dg (sg t n (j + 1)) then 10 * (10 * 0 + sg t n j - 48) + sg t n (j + 1) - 48 else _) else _) = _
        rw [if_pos hd, if_pos hd2, z10]
      obtain ⟨a, ea⟩ := M_item78 (lo := lo) (hi := hi) (v := 10 * (sg t n j - 48) + sg t n (j + 1) - 48) H (i := j + 2) (by omega) hw
      refine ⟨a, ?_⟩
      unfold numE
      rw [if_pos hd2, e1, e2, if_neg (by decide)]
      show (if (1 : Int32) = 0 then _ else _) = _
      rw [if_neg (by decide), M_here H (by omega), Option.bind_some]
      show ((some (10 * (sg t n j - 48) + lk t n (j + 1) - 48)).bind _) = _
      rw [Option.bind_some, sg_lk hd2, gI_54 (hs' _ _), Option.bind_some, mfi_i10, pI_54 (hs' _ _), Option.bind_some, mfi_10, nI_1, ea]
      by_cases c1 : dg (sg t n (j + 2))
      · rw [if_pos c1, if_pos c1]
      · rw [if_neg c1, if_neg c1]
        by_cases c2 : 10 * (sg t n j - 48) + sg t n (j + 1) - 48 < lo ∨ hi < 10 * (sg t n j - 48) + sg t n (j + 1) - 48
        · rw [if_pos c2, if_pos c2]
        · rw [if_neg c2, if_neg c2]
    · have e1 : ndF t n 2 j = 1 := by
        show (if _ then (if _ then _ else _) + 1 else _) = 1
        rw [if_pos hd, if_neg hd2]
      have e2 : nvF t n 2 j 0 = sg t n j - 48 := by
        show (if dg (sg t n j) then (if dg (sg t n (j + 1)) then _ else 10 * 0 + sg t n j - 48) else _) = _
        rw [if_pos hd, if_neg hd2, z10]
      obtain ⟨a, ea⟩ := M_item78 (lo := lo) (hi := hi) (v := sg t n j - 48) H (i := j + 1) (by omega) hw
      refine ⟨a, ?_⟩
      unfold numE
      rw [if_neg hd2, e1, e2, if_neg (by decide)]
      show (if (0 : Int32) = 0 then _ else _) = _
      rw [if_pos rfl, ea]
      by_cases c1 : dg (sg t n (j + 1))
      · rw [if_pos c1, if_pos c1]
      · rw [if_neg c1, if_neg c1]
        by_cases c2 : sg t n j - 48 < lo ∨ hi < sg t n j - 48
        · rw [if_pos c2, if_pos c2]
        · rw [if_neg c2, if_neg c2]
  · refine ⟨nI j, ?_⟩
    have e1 : ndF t n 2 j = 0 := by
      show (if _ then _ else 0) = 0
      rw [if_neg hd]
    unfold numE
    rw [if_neg hd, e1, if_pos rfl]
    show (if (0 : Int32) = 0 then _ else _) = _
    rw [if_pos rfl, M_fails H.1, Option.bind_some, if_pos rfl]
end MI
