section XC
variable {n : Nat} {t : Nat → Int32}
theorem RX_20 {g g' : eg_H} {M P E : Nat} {V V' : Nat → Int32} (R : RX g M P E V) (H : eg_eq S20 g g') (hV : ∀ x, x < 40 → eg_I g' 20 x = V' x) : RX g' M P E V' := ⟨by rw [(H.2 19 2 rfl).1]; exact R.1, by rw [(H.2 19 3 rfl).1]; exact R.2.1, by rw [(H.2 19 4 rfl).1]; exact R.2.2.1, hV⟩
theorem X_bad {g : eg_H} (H : Tp n t g) {i : Nat} {s : Int32} : ((eg_gR (fin g (nI i) s (-1)) 8 0 19).bind fun p => (fX10_markWrongHere (fin g (nI i) s (-1)) p).bind fun h7 => some h7) = some (fin g (nI n) 0 (nI i)) := by
  have hs' : ∀ a b c, eg_stt (fin g a b c) := fun _ _ _ => H.1
  rw [gR_19 (hs' _ _ _), rf_19_0 (hs' _ _ _), Option.bind_some, X_markH H, Option.bind_some, if_pos rfl]
theorem X_cl78 {g : eg_H} {M P E i : Nat} {V : Nat → Int32} (H : Tp n t g) (R : RX g M P E V) (hE : E ≤ 6) (hi : i ≤ n) (h1 : ¬ (sg t n i = 109 ∧ M = 0)) (h2 : ¬ (sg t n i = 112 ∧ P < 6)) :
    ∃ g' a s w, fX8_readClause_j78 (fin g (nI i) (sg t n i) (-1)) 19 (sg t n i) = some (fin g' a s w) ∧ eg_eq S19 g g' ∧ clX t n i M P E V g' a s w := by
  have hs' : ∀ a b c, eg_stt (fin g a b c) := fun _ _ _ => H.1
  unfold fX8_readClause_j78 clX clK
  rw [if_neg h1, if_neg h2]
  by_cases h3 : sg t n i = 101
  · rw [if_pos h3, gI_19 (hs' _ _ _), Option.bind_some, fin_i _ _ _ _ (by decide), R.2.1, show (6 : Int32) = nI 6 from rfl]
    by_cases h4 : E < 6
    · have hlt : i < n := by
        rcases Nat.lt_or_ge i n with z | z
        · exact z
        · have : sg t n i = 0 := if_neg (by omega)
          rw [this] at h3; exact absurd h3 (by decide)
      obtain ⟨g1, a, s, w, e1, E1, x1⟩ := X_readItems (k := 2) (b := 28 + 2 * E) (by omega) (by show 28 + 2 * E + 2 ≤ 40; omega) H R.2.2.2 hlt (s := sg t n i)
      have s1 : ∀ a b c, eg_stt (fin g1 a b c) := fun _ _ _ => (show eg_stt g1 from S20_stt E1 H.1)
      rw [if_neg (nI_ge h4 (by decide)), Option.bind_some, show (28 : Int32) = nI 28 from rfl, show (2 : Int32) = nI 2 from rfl, pk_mul, nI_add, if_pos ⟨h3, h4⟩]
      change fX8_readItems (fin g (nI i) (sg t n i) (-1)) 19 (nI (28 + 2 * E)) 8 (nI 2) = _ at e1
      rw [e1, Option.bind_some, gI_19 (s1 _ _ _), Option.bind_some, fin_i _ _ _ _ (by decide), (E1.2 19 3 rfl).1, R.2.1, nI_1, pI_19 (s1 _ _ _), Option.bind_some, fin_sI _ _ _ _ _ (by decide)]
      refine ⟨eg_sI g1 19 3 (nI (E + 1)), a, s, w, rfl, eq_sI (S20_19 E1) rfl, ?_⟩
      have hB : clB 2 P E = 28 + 2 * E := rfl
      dsimp only
      rw [hB]
      unfold itemsX at x1
      generalize itemsA t n 2 (28 + 2 * E) i V = r at x1
      obtain ⟨r1, r2⟩ := r
      cases r1 with
      | inl e => exact x1
      | inr j =>
        obtain ⟨y1, y2, y3, y4, y5⟩ := x1
        refine ⟨y1, y2, y3, y4, ?_, ?_, ?_, fun x hx => ?_⟩
        · rw [I_sI, if_neg (by decide), (E1.2 19 2 rfl).1]; exact R.1
        · rw [I_sI, if_pos ⟨rfl, rfl⟩]; rfl
        · rw [I_sI, if_neg (by decide), (E1.2 19 4 rfl).1]; exact R.2.2.1
        · rw [I_sI, if_neg (by omega)]; exact y5 x hx
    · rw [if_pos (nI_le (by omega) (by omega)), X_bad H, if_neg (fun z => h4 z.2)]
      exact ⟨g, nI n, 0, nI i, rfl, eq_rfl, rfl, rfl, rfl⟩
  · rw [if_neg h3, X_bad H, if_neg (fun z => h3 z.1)]
    exact ⟨g, nI n, 0, nI i, rfl, eq_rfl, rfl, rfl, rfl⟩
theorem X_cl36 {g : eg_H} {M P E i : Nat} {V : Nat → Int32} (H : Tp n t g) (R : RX g M P E V) (hP : P ≤ 6) (hE : E ≤ 6) (hi : i ≤ n) (h1 : ¬ (sg t n i = 109 ∧ M = 0)) :
    ∃ g' a s w, fX8_readClause_j36 (fin g (nI i) (sg t n i) (-1)) 19 (sg t n i) = some (fin g' a s w) ∧ eg_eq S19 g g' ∧ clX t n i M P E V g' a s w := by
  have hs' : ∀ a b c, eg_stt (fin g a b c) := fun _ _ _ => H.1
  unfold fX8_readClause_j36
  by_cases h3 : sg t n i = 112
  · rw [if_pos h3, gI_19 (hs' _ _ _), Option.bind_some, fin_i _ _ _ _ (by decide), R.1, show (6 : Int32) = nI 6 from rfl]
    by_cases h4 : P < 6
    · have hlt : i < n := by
        rcases Nat.lt_or_ge i n with z | z
        · exact z
        · have : sg t n i = 0 := if_neg (by omega)
          rw [this] at h3; exact absurd h3 (by decide)
      unfold clX clK
      obtain ⟨g1, a, s, w, e1, E1, x1⟩ := X_readItems (k := 1) (b := 4 + 4 * P) (by omega) (by show 4 + 4 * P + 4 ≤ 40; omega) H R.2.2.2 hlt (s := sg t n i)
      have s1 : ∀ a b c, eg_stt (fin g1 a b c) := fun _ _ _ => (show eg_stt g1 from S20_stt E1 H.1)
      rw [if_neg (nI_ge h4 (by decide)), Option.bind_some, show (4 : Int32) = nI 4 from rfl, pk_mul, nI_add, if_neg h1, if_pos ⟨h3, h4⟩]
      change fX8_readItems (fin g (nI i) (sg t n i) (-1)) 19 (nI (4 + 4 * P)) (nI 4) (nI 4) = _ at e1
      rw [e1, Option.bind_some, gI_19 (s1 _ _ _), Option.bind_some, fin_i _ _ _ _ (by decide), (E1.2 19 2 rfl).1, R.1, nI_1, pI_19 (s1 _ _ _), Option.bind_some, fin_sI _ _ _ _ _ (by decide)]
      refine ⟨eg_sI g1 19 2 (nI (P + 1)), a, s, w, rfl, eq_sI (S20_19 E1) rfl, ?_⟩
      have hB : clB 1 P E = 4 + 4 * P := rfl
      dsimp only
      rw [hB]
      unfold itemsX at x1
      generalize itemsA t n 1 (4 + 4 * P) i V = r at x1
      obtain ⟨r1, r2⟩ := r
      cases r1 with
      | inl e => exact x1
      | inr j =>
        obtain ⟨y1, y2, y3, y4, y5⟩ := x1
        refine ⟨y1, y2, y3, y4, ?_, ?_, ?_, fun x hx => ?_⟩
        · rw [I_sI, if_pos ⟨rfl, rfl⟩]; rfl
        · rw [I_sI, if_neg (by decide), (E1.2 19 3 rfl).1]; exact R.2.1
        · rw [I_sI, if_neg (by decide), (E1.2 19 4 rfl).1]; exact R.2.2.1
        · rw [I_sI, if_neg (by omega)]; exact y5 x hx
    · rw [if_pos (nI_le (by omega) (by omega))]
      exact X_cl78 H R hE hi h1 (fun z => h4 z.2)
  · rw [if_neg h3]
    exact X_cl78 H R hE hi h1 (fun z => h3 z.1)
theorem X_clause {g : eg_H} {M P E i : Nat} {V : Nat → Int32} (H : Tp n t g) (R : RX g M P E V) (hM : M ≤ 1) (hP : P ≤ 6) (hE : E ≤ 6) (hi : i ≤ n) :
    ∃ g' a s w, fX8_readClause (fin g (nI i) (sg t n i) (-1)) 19 = some (fin g' a s w) ∧ eg_eq S19 g g' ∧ clX t n i M P E V g' a s w := by
  have hs' : ∀ a b c, eg_stt (fin g a b c) := fun _ _ _ => H.1
  unfold fX8_readClause
  rw [if_pos (iO_19 (hs' _ _ _)), gR_19 (hs' _ _ _), rf_19_0 (hs' _ _ _), Option.bind_some, X_sign H, Option.bind_some]
  show ∃ g' a s w, (if sg t n i = 109 then _ else fX8_readClause_j36 (fin g (nI i) (sg t n i) (-1)) 19 (sg t n i)) = _ ∧ _ ∧ _
  by_cases h3 : sg t n i = 109
  · rw [if_pos h3, gI_19 (hs' _ _ _), Option.bind_some, fin_i _ _ _ _ (by decide), R.2.2.1]
    by_cases h4 : M = 0
    · have hlt : i < n := by
        rcases Nat.lt_or_ge i n with z | z
        · exact z
        · have : sg t n i = 0 := if_neg (by omega)
          rw [this] at h3; exact absurd h3 (by decide)
      have H1 : Tp n t (eg_sI g 19 4 1) := ⟨H.1, H.2.1, by rw [I_sI, if_neg (by decide)]; exact H.2.2.1, fun x hx => by rw [I_sI, if_neg (by omega)]; exact H.2.2.2 x hx⟩
      obtain ⟨g1, a, s, w, e1, E1, x1⟩ := X_readItems (k := 0) (b := 0) (V := V) (by omega) (by decide) H1 (fun x hx => by rw [I_sI, if_neg (by omega)]; exact R.2.2.2 x hx) hlt (s := sg t n i)
      unfold clX clK
      rw [if_pos (by rw [h4]; rfl), pZ_19 (hs' _ _ _) (Or.inr rfl), Option.bind_some, fin_sI _ _ _ _ _ (by decide), if_pos ⟨h3, h4⟩]
      change fX8_readItems (fin (eg_sI g 19 4 1) (nI i) (sg t n i) (-1)) 19 0 0 4 = _ at e1
      rw [e1, Option.bind_some]
      refine ⟨g1, a, s, w, rfl, eq_tr (eq_sI eq_rfl rfl) (S20_19 E1), ?_⟩
      have hB : clB 0 P E = 0 := rfl
      dsimp only
      rw [hB]
      unfold itemsX at x1
      generalize itemsA t n 0 0 i V = r at x1
      obtain ⟨r1, r2⟩ := r
      cases r1 with
      | inl e => exact x1
      | inr j =>
        obtain ⟨y1, y2, y3, y4, y5⟩ := x1
        refine ⟨y1, y2, y3, y4, ?_, ?_, ?_, y5⟩
        · rw [(E1.2 19 2 rfl).1, I_sI, if_neg (by decide)]; exact R.1
        · rw [(E1.2 19 3 rfl).1, I_sI, if_neg (by decide)]; exact R.2.1
        · rw [(E1.2 19 4 rfl).1, I_sI, if_pos ⟨rfl, rfl⟩]; rfl
    · rw [if_neg (nI_ne0 (by omega) (by omega))]
      exact X_cl36 H R hP hE hi (fun z => h4 z.2)
  · rw [if_neg h3]
    exact X_cl36 H R hP hE hi (fun z => h3 z.1)
end XC
