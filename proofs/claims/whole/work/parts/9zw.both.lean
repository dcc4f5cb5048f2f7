def LI (h : eg_H) (σ : eg_S) (B : Nat × Nat) (tm : Nat) : Prop := XI h σ (bRm B σ) ∧ RI h σ ∧ σ.1 11 ≤ tm
section LB
variable {h : eg_H} {σ : eg_S} {B : Nat × Nat} {tm : Nat}
theorem LI_step {α : Type} {a : α} {σ' : eg_S} {fx : Option (α × eg_H)} {fm : eg_H → Option (α × eg_H)} (L : LI h σ B tm) (X : ∃ h', fx = some (a, h') ∧ XOk h h' σ' (bRm B σ')) (M : ∀ g, RI g σ → ∃ h', fm g = some (a, h') ∧ ROk g h' σ') (e : σ'.1 11 ≤ σ.1 11 + 1) : ∃ h1 h2, fx = some (a, h1) ∧ fm h1 = some (a, h2) ∧ LI h2 σ' B (tm + 1) := by
  obtain ⟨h1, e1, X1, g1⟩ := X
  have R1 : RI h1 σ := RI_cl L.2.1 X1.2.2.1.1 g1
  obtain ⟨h2, e2, R2, r2⟩ := M h1 R1
  exact ⟨h1, h2, e1, e2, XI_rf X1 R2.1 r2, R2, by have := L.2.2; omega⟩
theorem LI_he (L : LI h σ B tm) (ht : tm < 1000000) : σ.1 11 + 1 < 2 ^ 30 := by have := L.2.2; omega
theorem bRm_e {σ' : eg_S} (h1 : sN σ' = sN σ) (h2 : sF σ' = sF σ) : bRm B σ' = bRm B σ := by unfold bRm; rw [h1, h2]
theorem e_feed (a b c d e : Int32) : (sN (sFeed σ a b c d e) = sN σ ∧ sF (sFeed σ a b c d e) = sF σ) ∧ (sFeed σ a b c d e).1 11 ≤ σ.1 11 + 1 := by
  unfold sFeed
  split
  · have o := (feed_o σ a b c d e).1
    exact ⟨⟨o 3 (by omega), o 5 (by omega)⟩, by rw [o 11 (by omega)]; exact Nat.le_succ _⟩
  · exact ⟨⟨rfl, rfl⟩, Nat.le_succ _⟩
theorem L_feed (L : LI h σ B tm) (a b c d e : Int32) : ∃ h1 h2, fX12_feed h 16 a b c d e = some (aFeed σ a b c d e, h1) ∧ fX13_feed h1 54 a b c d e = some (aFeed σ a b c d e, h2) ∧ LI h2 (sFeed σ a b c d e) B (tm + 1) := by
  have q := e_feed (σ := σ) a b c d e
  exact LI_step L (by rw [bRm_e q.1.1 q.1.2]; exact X_feed L.1 a b c d e) (fun gz R => M_feed R a b c d e) q.2
theorem e_end (n : Int32) : (sN (sEnd σ n) = sN σ ∧ sF (sEnd σ n) = sF σ) ∧ (sEnd σ n).1 11 ≤ σ.1 11 + 1 := by
  unfold sEnd
  split
  · exact ⟨⟨rfl, rfl⟩, by first | exact Nat.le_succ _ | exact Nat.le_refl _ | (unfold stS; dsimp only; repeat (first | exact Nat.le_succ _ | exact Nat.le_refl _ | omega | split))⟩
  · exact ⟨⟨rfl, rfl⟩, by first | exact Nat.le_succ _ | exact Nat.le_refl _ | (unfold stS; dsimp only; repeat (first | exact Nat.le_succ _ | exact Nat.le_refl _ | omega | split))⟩
theorem L_end (L : LI h σ B tm) (n : Int32) : ∃ h1 h2, fX12_end h 16 n = some (aEnd σ n, h1) ∧ fX13_end h1 54 n = some (aEnd σ n, h2) ∧ LI h2 (sEnd σ n) B (tm + 1) := by
  have q := e_end (σ := σ) n
  exact LI_step L (by rw [bRm_e q.1.1 q.1.2]; exact X_end L.1 n) (fun gz R => M_end R n) q.2
theorem L_fault (L : LI h σ B tm) (s : Int32) : ∃ h1 h2, fX12_fault h 16 s = some (aFault σ s, h1) ∧ fX13_fault h1 54 s = some (aFault σ s, h2) ∧ LI h2 σ B (tm + 1) := LI_step L (X_fault L.1 s) (fun gz R => M_fault R s) (by omega)
theorem text_11 (s : Int32) : (sText σ s).1 11 ≤ σ.1 11 + 1 := by
  unfold sText
  by_cases c0 : s = 0
  · rw [if_pos c0]
    cases rMd σ with
    | inl e => exact Nat.le_succ _
    | inr q => exact Nat.le_refl _
  rw [if_neg c0]
  by_cases c1 : s = 1
  · rw [if_pos c1]
    by_cases c : sN σ < 4 ∧ lwA (pLaw (tT σ) (σ.1 0)) = -1
    · rw [if_pos c]; exact Nat.le_succ _
    · rw [if_neg c]; exact Nat.le_succ _
  rw [if_neg c1]
  by_cases c2 : s = 2
  · rw [if_pos c2]
    by_cases c : sF σ < 4 ∧ flm (tT σ) (σ.1 0) = -1
    · rw [if_pos c]; exact Nat.le_succ _
    · rw [if_neg c]; exact Nat.le_succ _
  rw [if_neg c2]
  exact Nat.le_succ _
theorem L_text (L : LI h σ B tm) (s : Int32) (ht : tm < 1000000) : ∃ h1 h2, fX12_text h 16 s = some (aText σ s, h1) ∧ fX13_text h1 54 s = some (aText σ s, h2) ∧ LI h2 (sText σ s) B (tm + 1) := LI_step L (X_text L.1 s (LI_he L ht)) (fun gz R => M_text R s) (text_11 s)
theorem L_egg (L : LI h σ B tm) (e w : Int32) : ∃ h1 h2, fX12_egg h 16 e w = some (aEgg σ e w, h1) ∧ fX13_egg h1 54 e w = some (aEgg σ e w, h2) ∧ LI h2 σ B (tm + 1) := LI_step L (X_egg L.1 e w) (fun gz R => M_egg R e w) (by omega)
theorem e_law (l : Int32) : (sN (sLaw σ l) = sN σ ∧ sF (sLaw σ l) = sF σ) ∧ (sLaw σ l).1 11 ≤ σ.1 11 + 1 := by
  unfold sLaw
  split
  · exact ⟨⟨rfl, rfl⟩, by first | exact Nat.le_succ _ | exact Nat.le_refl _ | (unfold stS; dsimp only; repeat (first | exact Nat.le_succ _ | exact Nat.le_refl _ | omega | split))⟩
  · exact ⟨⟨rfl, rfl⟩, by first | exact Nat.le_succ _ | exact Nat.le_refl _ | (unfold stS; dsimp only; repeat (first | exact Nat.le_succ _ | exact Nat.le_refl _ | omega | split))⟩
theorem L_law (L : LI h σ B tm) (l : Int32) (ht : tm < 1000000) : ∃ h1 h2, fX12_law h 16 l = some (aLaw σ l, h1) ∧ fX13_law h1 54 l = some (aLaw σ l, h2) ∧ LI h2 (sLaw σ l) B (tm + 1) := by
  have q := e_law (σ := σ) l
  exact LI_step L (by rw [bRm_e q.1.1 q.1.2]; exact X_law L.1 l (LI_he L ht)) (fun gz R => M_law R l) q.2
theorem e_set (w v : Int32) : (sN (sSet σ w v) = sN σ ∧ sF (sSet σ w v) = sF σ) ∧ (sSet σ w v).1 11 ≤ σ.1 11 + 1 := by
  unfold sSet
  split
  · exact ⟨⟨rfl, rfl⟩, by first | exact Nat.le_succ _ | exact Nat.le_refl _ | (unfold stS; dsimp only; repeat (first | exact Nat.le_succ _ | exact Nat.le_refl _ | omega | split))⟩
  · exact ⟨⟨rfl, rfl⟩, by first | exact Nat.le_succ _ | exact Nat.le_refl _ | (unfold stS; dsimp only; repeat (first | exact Nat.le_succ _ | exact Nat.le_refl _ | omega | split))⟩
theorem L_set (L : LI h σ B tm) (w v : Int32) (ht : tm < 1000000) : ∃ h1 h2, fX12_set h 16 w v = some (aSet σ w v, h1) ∧ fX13_set h1 54 w v = some (aSet σ w v, h2) ∧ LI h2 (sSet σ w v) B (tm + 1) := by
  have q := e_set (σ := σ) w v
  exact LI_step L (by rw [bRm_e q.1.1 q.1.2]; exact X_set L.1 w v (LI_he L ht)) (fun gz R => M_set R w v) q.2
theorem L_off (L : LI h σ B tm) (p t b a s : Int32) : ∃ h1 h2, fX12_off h 16 p t b a s = some (aOff σ p t b a s, h1) ∧ fX13_off h1 54 p t b a s = some (aOff σ p t b a s, h2) ∧ LI h2 σ B (tm + 1) := LI_step L (X_off L.1 p t b a s) (fun gz R => M_offC R p t b a s) (by omega)
theorem L_force (L : LI h σ B tm) (p t y b o : Int32) : ∃ h1 h2, fX12_force h 16 p t y b o = some (aForce σ p t y b o, h1) ∧ fX13_force h1 54 p t y b o = some (aForce σ p t y b o, h2) ∧ LI h2 σ B (tm + 1) := LI_step L (X_forceC L.1 p t y b o) (fun gz R => M_forceC R p t y b o) (by omega)
theorem L_good (L : LI h σ B tm) (two c y w : Int32) : ∃ h1 h2, fX12_good h 16 two c y w = some (aGood σ two c y w, h1) ∧ fX13_good h1 54 two c y w = some (aGood σ two c y w, h2) ∧ LI h2 σ B (tm + 1) := LI_step L (X_good L.1 two c y w) (fun gz R => M_good R two c y w) (by omega)
theorem L_best (L : LI h σ B tm) (two c y w : Int32) : ∃ h1 h2, fX12_best h 16 two c y w = some (aBest σ two c y w, h1) ∧ fX13_best h1 54 two c y w = some (aBest σ two c y w, h2) ∧ LI h2 σ B (tm + 1) := LI_step L (X_best L.1 two c y w) (fun gz R => M_bestC R two c y w) (by omega)
theorem L_comes (L : LI h σ B tm) (two c k : Int32) : ∃ h1 h2, fX12_comes h 16 two c k = some (aComes σ two c k, h1) ∧ fX13_comes h1 54 two c k = some (aComes σ two c k, h2) ∧ LI h2 σ B (tm + 1) := LI_step L (X_comes L.1 two c k) (fun gz R => M_comes R two c k) (by omega)
theorem L_far (L : LI h σ B tm) (two c : Int32) : ∃ h1 h2, fX12_far h 16 two c = some (aFar σ two c, h1) ∧ fX13_far h1 54 two c = some (aFar σ two c, h2) ∧ LI h2 σ B (tm + 1) := LI_step L (X_far L.1 two c) (fun gz R => M_far R two c) (by omega)
theorem L_hope (L : LI h σ B tm) (two c : Int32) : ∃ h1 h2, fX12_hope h 16 two c = some (aHope σ two c, h1) ∧ fX13_hope h1 54 two c = some (aHope σ two c, h2) ∧ LI h2 σ B (tm + 1) := LI_step L (X_hope L.1 two c) (fun gz R => M_hope R two c) (by omega)
theorem L_first (L : LI h σ B tm) (two e w : Int32) : ∃ h1 h2, fX12_first h 16 two e w = some (aFirst σ two e w, h1) ∧ fX13_first h1 54 two e w = some (aFirst σ two e w, h2) ∧ LI h2 σ B (tm + 1) := LI_step L (X_first L.1 two e w) (fun gz R => M_first R two e w) (by omega)
theorem L_whom (L : LI h σ B tm) (k : Int32) : ∃ h1 h2, fX12_whom h 16 k = some (aWhom σ k, h1) ∧ fX13_whom h1 54 k = some (aWhom σ k, h2) ∧ LI h2 σ B (tm + 1) := LI_step L (X_whom L.1 k) (fun gz R => M_whom R k) (by omega)
theorem L_which (L : LI h σ B tm) (two t w : Int32) : ∃ h1 h2, fX12_which h 16 two t w = some (aWhich σ two t w, h1) ∧ fX13_which h1 54 two t w = some (aWhich σ two t w, h2) ∧ LI h2 σ B (tm + 1) := LI_step L (X_which L.1 two t w) (fun gz R => M_which R two t w) (by omega)
theorem e_witness (e f b : Int32) : (sN (sWit σ e f b) = sN σ ∧ sF (sWit σ e f b) = sF σ) ∧ (sWit σ e f b).1 11 ≤ σ.1 11 + 1 := by
  unfold sWit
  split
  · exact ⟨⟨rfl, rfl⟩, by first | exact Nat.le_succ _ | exact Nat.le_refl _ | (unfold stS; dsimp only; repeat (first | exact Nat.le_succ _ | exact Nat.le_refl _ | omega | split))⟩
  · exact ⟨⟨rfl, rfl⟩, by first | exact Nat.le_succ _ | exact Nat.le_refl _ | (unfold stS; dsimp only; repeat (first | exact Nat.le_succ _ | exact Nat.le_refl _ | omega | split))⟩
theorem L_witness (L : LI h σ B tm) (e f b : Int32) (hb : b = 0 ∨ b = 1) : ∃ h1 h2, fX12_witness h 16 e f b = some (aWit σ e f, h1) ∧ fX13_witness h1 54 e f b = some (aWit σ e f, h2) ∧ LI h2 (sWit σ e f b) B (tm + 1) := by
  have q := e_witness (σ := σ) e f b
  exact LI_step L (by rw [bRm_e q.1.1 q.1.2]; exact X_witness L.1 e f b hb) (fun gz R => M_witness R e f b hb) q.2
theorem L_strong (L : LI h σ B tm) (e w : Int32) : ∃ h1 h2, fX12_strong h 16 e w = some (aStrong σ e w, h1) ∧ fX13_strong h1 54 e w = some (aStrong σ e w, h2) ∧ LI h2 σ B (tm + 1) := LI_step L (X_strong L.1 e w) (fun gz R => M_strong R e w) (by omega)
theorem L_arms (L : LI h σ B tm) (two c y w l : Int32) : ∃ h1 h2, fX12_arms h 16 two c y w l = some (aArms σ two c y w l, h1) ∧ fX13_arms h1 54 two c y w l = some (aArms σ two c y w l, h2) ∧ LI h2 σ B (tm + 1) := LI_step L (X_arms L.1 two c y w l) (fun gz R => M_arms R two c y w l) (by omega)
theorem L_bold (L : LI h σ B tm) (one oth eg k i : Int32) : ∃ h1 h2, fX12_bold h 16 one oth eg k i = some (aBold σ one oth eg k i, h1) ∧ fX13_bold h1 54 one oth eg k i = some (aBold σ one oth eg k i, h2) ∧ LI h2 σ B (tm + 1) := LI_step L (X_bold L.1 one oth eg k i) (fun gz R => M_bold R one oth eg k i) (by omega)
theorem L_duel (L : LI h σ B tm) (one oth eg w : Int32) : ∃ h1 h2, fX12_duel h 16 one oth eg w = some (aDuel σ one oth eg w, h1) ∧ fX13_duel h1 54 one oth eg w = some (aDuel σ one oth eg w, h2) ∧ LI h2 σ B (tm + 1) := LI_step L (X_duel L.1 one oth eg w) (fun gz R => M_duel R one oth eg w) (by omega)
theorem L_lot (L : LI h σ B tm) (two t : Int32) : ∃ h1 h2, fX12_lot h 16 two t = some (aLot σ two t, h1) ∧ fX13_lot h1 54 two t = some (aLot σ two t, h2) ∧ LI h2 σ B (tm + 1) := LI_step L (X_lot L.1 two t) (fun gz R => M_lot R two t) (by omega)
theorem L_safe (L : LI h σ B tm) (two c : Int32) : ∃ h1 h2, fX12_safe h 16 two c = some (aSafe σ two c, h1) ∧ fX13_safe h1 54 two c = some (aSafe σ two c, h2) ∧ LI h2 σ B (tm + 1) := LI_step L (X_safe L.1 two c) (fun gz R => M_safe R two c) (by omega)
theorem L_spots (L : LI h σ B tm) (two c y l : Int32) : ∃ h1 h2, fX12_spots h 16 two c y l = some (aSpots σ two c y l, h1) ∧ fX13_spots h1 54 two c y l = some (aSpots σ two c y l, h2) ∧ LI h2 σ B (tm + 1) := LI_step L (X_spots L.1 two c y l) (fun gz R => M_spots R two c y l) (by omega)
theorem L_legs (L : LI h σ B tm) (two c y w l : Int32) : ∃ h1 h2, fX12_legs h 16 two c y w l = some (aLegs σ two c y w l, h1) ∧ fX13_legs h1 54 two c y w l = some (aLegs σ two c y w l, h2) ∧ LI h2 σ B (tm + 1) := LI_step L (X_legs L.1 two c y w l) (fun gz R => M_legs R two c y w l) (by omega)
theorem L_stride (L : LI h σ B tm) (two c w : Int32) : ∃ h1 h2, fX12_stride h 16 two c w = some (aStride σ two c w, h1) ∧ fX13_stride h1 54 two c w = some (aStride σ two c w, h2) ∧ LI h2 σ B (tm + 1) := LI_step L (X_stride L.1 two c w) (fun gz R => M_stride R two c w) (by omega)
theorem L_rank (L : LI h σ B tm) (e k : Int32) : ∃ h1 h2, fX12_rank h 16 e k = some (aRank σ e k, h1) ∧ fX13_rank h1 54 e k = some (aRank σ e k, h2) ∧ LI h2 σ B (tm + 1) := LI_step L (X_rank L.1 e k) (fun gz R => M_rank R e k) (by omega)
theorem L_calm (L : LI h σ B tm) (two c w : Int32) : ∃ h1 h2, fX12_calm h 16 two c w = some (aCalm σ two c w, h1) ∧ fX13_calm h1 54 two c w = some (aCalm σ two c w, h2) ∧ LI h2 σ B (tm + 1) := LI_step L (X_calm L.1 two c w) (fun gz R => M_calm R two c w) (by omega)
theorem L_learn (L : LI h σ B tm) (two c n g : Int32) : ∃ h1 h2, fX12_learn h 16 two c n g = some (aLrn σ two c n g, h1) ∧ fX13_learn h1 54 two c n g = some (aLrn σ two c n g, h2) ∧ LI h2 σ B (tm + 1) := LI_step L (X_learn L.1 two c n g) (fun gz R => M_learn R two c n g) (by omega)
theorem L_film (L : LI h σ B tm) (f w : Int32) : ∃ h1 h2, fX12_film h 16 f w = some (aFilm σ f w, h1) ∧ fX13_film h1 54 f w = some (aFilm σ f w, h2) ∧ LI h2 σ B (tm + 1) := LI_step L (X_film L.1 f w) (fun gz R => M_filmC R f w) (by omega)
theorem L_raw (L : LI h σ B tm) (f r w : Int32) : ∃ h1 h2, fX12_raw h 16 f r w = some (aRaw σ f r w, h1) ∧ fX13_raw h1 54 f r w = some (aRaw σ f r w, h2) ∧ LI h2 σ B (tm + 1) := LI_step L (X_raw L.1 f r w) (fun gz R => M_raw R f r w) (by omega)
theorem L_like (L : LI h σ B tm) (f g : Int32) : ∃ h1 h2, fX12_like h 16 f g = some (aLike σ f g, h1) ∧ fX13_like h1 54 f g = some (aLike σ f g, h2) ∧ LI h2 σ B (tm + 1) := LI_step L (X_like L.1 f g) (fun gz R => M_like R f g) (by omega)
theorem L_fete (L : LI h σ B tm) (x : Int32) (sd : Int64) (wh : Int32) : ∃ h1 h2, fX12_fete h 16 x sd wh = some (aFete σ x sd wh, h1) ∧ fX13_fete h1 54 x sd wh = some (aFete σ x sd wh, h2) ∧ LI h2 σ B (tm + 1) := LI_step L (X_fete L.1 x sd wh) (fun gz R => M_fete R x sd wh) (by omega)
theorem L_crown (L : LI h σ B tm) (x l : Int32) : ∃ h1 h2, fX12_crown h 16 x l = some (aCrown σ x l, h1) ∧ fX13_crown h1 54 x l = some (aCrown σ x l, h2) ∧ LI h2 σ B (tm + 1) := LI_step L (X_crown L.1 x l) (fun gz R => M_crown R x l) (by omega)
theorem L_carton (L : LI h σ B tm) (two d n k : Int32) : ∃ h1 h2, fX12_carton h 16 two d n k = some (aCar σ two d n k, h1) ∧ fX13_carton h1 54 two d n k = some (aCar σ two d n k, h2) ∧ LI h2 σ B (tm + 1) := LI_step L (X_carton L.1 two d n k) (fun gz R => M_carton R two d n k) (by omega)
theorem L_spare (L : LI h σ B tm) (two t y : Int32) : ∃ h1 h2, fX12_spare h 16 two t y = some (aSpare σ two t y, h1) ∧ fX13_spare h1 54 two t y = some (aSpare σ two t y, h2) ∧ LI h2 σ B (tm + 1) := LI_step L (X_spare L.1 two t y) (fun gz R => M_spare R two t y) (by omega)
theorem L_least (L : LI h σ B tm) (two c y w : Int32) : ∃ h1 h2, fX12_least h 16 two c y w = some (aLeast σ two c y w, h1) ∧ fX13_least h1 54 two c y w = some (aLeast σ two c y w, h2) ∧ LI h2 σ B (tm + 1) := LI_step L (X_least L.1 two c y w) (fun gz R => M_leastC R two c y w) (by omega)
theorem L_loft (L : LI h σ B tm) (two c y b w : Int32) : ∃ h1 h2, fX12_loft h 16 two c y b w = some (aLoft σ two c y b w, h1) ∧ fX13_loft h1 54 two c y b w = some (aLoft σ two c y b w, h2) ∧ LI h2 σ B (tm + 1) := LI_step L (X_loft L.1 two c y b w) (fun gz R => M_loft R two c y b w) (by omega)
theorem L_gusty (L : LI h σ B tm) (two c g : Int32) : ∃ h1 h2, fX12_gusty h 16 two c g = some (aGusty σ two c g, h1) ∧ fX13_gusty h1 54 two c g = some (aGusty σ two c g, h2) ∧ LI h2 σ B (tm + 1) := LI_step L (X_gusty L.1 two c g) (fun gz R => M_gusty R two c g) (by omega)
theorem e_measure (p w o f : Int32) : (sN (sMea σ p w o f) = sN σ ∧ sF (sMea σ p w o f) = sF σ) ∧ (sMea σ p w o f).1 11 ≤ σ.1 11 + 1 := by
  unfold sMea
  split
  · exact ⟨⟨rfl, rfl⟩, by first | exact Nat.le_succ _ | exact Nat.le_refl _ | (unfold stS; dsimp only; repeat (first | exact Nat.le_succ _ | exact Nat.le_refl _ | omega | split))⟩
  · exact ⟨⟨rfl, rfl⟩, by first | exact Nat.le_succ _ | exact Nat.le_refl _ | (unfold stS; dsimp only; repeat (first | exact Nat.le_succ _ | exact Nat.le_refl _ | omega | split))⟩
theorem L_measure (L : LI h σ B tm) (p w o f : Int32) : ∃ h1 h2, fX12_measure h 16 p w o f = some (aMea σ p w o f, h1) ∧ fX13_measure h1 54 p w o f = some (aMea σ p w o f, h2) ∧ LI h2 (sMea σ p w o f) B (tm + 1) := by
  have q := e_measure (σ := σ) p w o f
  exact LI_step L (by rw [bRm_e q.1.1 q.1.2]; exact X_measure L.1 p w o f) (fun gz R => M_measure R p w o f) q.2
theorem L_held (L : LI h σ B tm) : ∃ h1 h2, fX12_held h 16  = some (aHeld σ, h1) ∧ fX13_held h1 54  = some (aHeld σ, h2) ∧ LI h2 σ B (tm + 1) := LI_step L (X_held L.1 ) (fun gz R => M_held R ) (by omega)
theorem L_chain (L : LI h σ B tm) (x e y : Int32) : ∃ h1 h2, fX12_chain h 16 x e y = some (aChain σ x e y, h1) ∧ fX13_chain h1 54 x e y = some (aChain σ x e y, h2) ∧ LI h2 σ B (tm + 1) := LI_step L (X_chain L.1 x e y) (fun gz R => M_chain R x e y) (by omega)
theorem e_game (two c : Int32) (x : Int64) : (sN (sGame σ two c x) = sN σ ∧ sF (sGame σ two c x) = sF σ) ∧ (sGame σ two c x).1 11 ≤ σ.1 11 + 1 := by
  unfold sGame
  split
  · exact ⟨⟨rfl, rfl⟩, by first | exact Nat.le_succ _ | exact Nat.le_refl _ | (unfold stS; dsimp only; repeat (first | exact Nat.le_succ _ | exact Nat.le_refl _ | omega | split))⟩
  · exact ⟨⟨rfl, rfl⟩, by first | exact Nat.le_succ _ | exact Nat.le_refl _ | (unfold stS; dsimp only; repeat (first | exact Nat.le_succ _ | exact Nat.le_refl _ | omega | split))⟩
theorem L_game (L : LI h σ B tm) (two c : Int32) (x : Int64) : ∃ h1 h2, fX12_game h 16 two c x = some (aGame σ two c x, h1) ∧ fX13_game h1 54 two c x = some (aGame σ two c x, h2) ∧ LI h2 (sGame σ two c x) B (tm + 1) := by
  have q := e_game (σ := σ) two c x
  exact LI_step L (by rw [bRm_e q.1.1 q.1.2]; exact X_game L.1 two c x) (fun gz R => M_game R two c x) q.2
theorem L_played (L : LI h σ B tm) (g w : Int32) : ∃ h1 h2, fX12_played h 16 g w = some (aPlayed σ g w, h1) ∧ fX13_played h1 54 g w = some (aPlayed σ g w, h2) ∧ LI h2 σ B (tm + 1) := LI_step L (X_played L.1 g w) (fun gz R => M_played R g w) (by omega)
theorem L_row (L : LI h σ B tm) (e y k : Int32) : ∃ h1 h2, fX12_row h 16 e y k = some (aRow σ e y k, h1) ∧ fX13_row h1 54 e y k = some (aRow σ e y k, h2) ∧ LI h2 σ B (tm + 1) := LI_step L (X_row L.1 e y k) (fun gz R => M_row R e y k) (by omega)
theorem L_champion (L : LI h σ B tm) : ∃ h1 h2, fX12_champion h 16  = some (aChamp σ, h1) ∧ fX13_champion h1 54  = some (aChamp σ, h2) ∧ LI h2 σ B (tm + 1) := LI_step L (X_champion L.1 ) (fun gz R => M_champion R ) (by omega)
theorem e_undo : (sN (sUndo σ) = sN σ ∧ sF (sUndo σ) = sF σ) ∧ (sUndo σ).1 11 ≤ σ.1 11 + 1 := by
  unfold sUndo
  split
  · exact ⟨⟨rfl, rfl⟩, by first | exact Nat.le_succ _ | exact Nat.le_refl _ | (unfold stS; dsimp only; repeat (first | exact Nat.le_succ _ | exact Nat.le_refl _ | omega | split))⟩
  · exact ⟨⟨rfl, rfl⟩, by first | exact Nat.le_succ _ | exact Nat.le_refl _ | (unfold stS; dsimp only; repeat (first | exact Nat.le_succ _ | exact Nat.le_refl _ | omega | split))⟩
theorem L_undo (L : LI h σ B tm) : ∃ h1 h2, fX12_undo h 16  = some (aUndo σ, h1) ∧ fX13_undo h1 54  = some (aUndo σ, h2) ∧ LI h2 (sUndo σ) B (tm + 1) := by
  have q := e_undo (σ := σ)
  exact LI_step L (by rw [bRm_e q.1.1 q.1.2]; exact X_undo L.1 ) (fun gz R => M_undo R ) q.2
theorem L_count (L : LI h σ B tm) (w : Int32) : ∃ h1 h2, fX12_count h 16 w = some (aCount σ w, h1) ∧ fX13_count h1 54 w = some (aCount σ w, h2) ∧ LI h2 σ B (tm + 1) := LI_step L (X_count L.1 w) (fun gz R => M_count R w) (by omega)
theorem e_image : (sN (sImage σ) = sN σ ∧ sF (sImage σ) = sF σ) ∧ (sImage σ).1 11 ≤ σ.1 11 + 1 := by
  unfold sImage
  split
  · exact ⟨⟨rfl, rfl⟩, by first | exact Nat.le_succ _ | exact Nat.le_refl _ | (unfold stS; dsimp only; repeat (first | exact Nat.le_succ _ | exact Nat.le_refl _ | omega | split))⟩
  · exact ⟨⟨rfl, rfl⟩, by first | exact Nat.le_succ _ | exact Nat.le_refl _ | (unfold stS; dsimp only; repeat (first | exact Nat.le_succ _ | exact Nat.le_refl _ | omega | split))⟩
theorem L_image (L : LI h σ B tm) : ∃ h1 h2, fX12_image h 16  = some (aImage σ, h1) ∧ fX13_image h1 54  = some (aImage σ, h2) ∧ LI h2 (sImage σ) B (tm + 1) := by
  have q := e_image (σ := σ)
  exact LI_step L (by rw [bRm_e q.1.1 q.1.2]; exact X_image L.1 ) (fun gz R => M_image R ) q.2
theorem e_back : (sN (sBack σ) = sN σ ∧ sF (sBack σ) = sF σ) ∧ (sBack σ).1 11 ≤ σ.1 11 + 1 := by
  unfold sBack
  split
  · exact ⟨⟨rfl, rfl⟩, by first | exact Nat.le_succ _ | exact Nat.le_refl _ | (unfold stS; dsimp only; repeat (first | exact Nat.le_succ _ | exact Nat.le_refl _ | omega | split))⟩
  · exact ⟨⟨rfl, rfl⟩, by first | exact Nat.le_succ _ | exact Nat.le_refl _ | (unfold stS; dsimp only; repeat (first | exact Nat.le_succ _ | exact Nat.le_refl _ | omega | split))⟩
theorem L_back (L : LI h σ B tm) (ht : tm < 1000000) : ∃ h1 h2, fX12_back h 16  = some (aBack σ, h1) ∧ fX13_back h1 54  = some (aBack σ, h2) ∧ LI h2 (sBack σ) B (tm + 1) := by
  have q := e_back (σ := σ)
  exact LI_step L (by rw [bRm_e q.1.1 q.1.2]; exact X_back L.1  (LI_he L ht)) (fun gz R => M_back R ) q.2
end LB
