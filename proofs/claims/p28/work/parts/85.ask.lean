/-! THE QUESTIONS between two operations -/
section AS8
theorem c_0 {X : XM} {f : Nat → Int32} {n : Nat} {C : Nat → Nat → Int32} {g : Nat → Int32} (P : PS X f n C g) : fX8_count 0 X = some (f 2, X) := by
  unfold fX8_count
  rw [if_pos rfl, P.1.x0]
theorem c_1 {X : XM} {f : Nat → Int32} {n : Nat} {C : Nat → Nat → Int32} {g : Nat → Int32} (P : PS X f n C g) : fX8_count 1 X = some (nI (gsum f), X) := by
  unfold fX8_count
  rw [if_neg (by decide), if_pos rfl, f_tokenSum (by rw [P.1.x0]; exact P.1.g0.1), zi_ok, P.1.x0]
theorem c_2 {X : XM} {f : Nat → Int32} {n : Nat} {C : Nat → Nat → Int32} {g : Nat → Int32} (P : PS X f n C g) : fX8_count 2 X = some (f 3, X) := by
  unfold fX8_count
  rw [if_neg (by decide), if_neg (by decide), if_pos rfl, P.1.x0]
theorem c_3 {X : XM} {f : Nat → Int32} {n : Nat} {C : Nat → Nat → Int32} {g : Nat → Int32} (P : PS X f n C g) : fX8_count 3 X = some (if gmoves f = 0 then 1 else 0, X) := by
  unfold fX8_count
  rw [if_neg (by decide), if_neg (by decide), if_neg (by decide), if_pos rfl, f_isOver (by rw [P.1.x0]; exact P.1.g0.1), zi_ok, P.1.x0]
  by_cases d : gmoves f = 0
  · rw [if_pos d, if_neg i10]
  · rw [if_neg d, if_pos rfl]
theorem c_4 {X : XM} {f : Nat → Int32} {n : Nat} {C : Nat → Nat → Int32} {g : Nat → Int32} (P : PS X f n C g) : fX8_count 4 X = some (gwin f, X) := by
  unfold fX8_count
  rw [if_neg (by decide), if_neg (by decide), if_neg (by decide), if_neg (by decide), if_pos rfl, f_winner (by rw [P.1.x0]; exact P.1.g0.1), zi_ok, P.1.x0]
theorem c_5 {X : XM} {f : Nat → Int32} {n : Nat} {C : Nat → Nat → Int32} {g : Nat → Int32} (P : PS X f n C g) : fX8_count 5 X = some (f 6, X) := by
  unfold fX8_count
  rw [if_neg (by decide), if_neg (by decide), if_neg (by decide), if_neg (by decide), if_neg (by decide), if_pos rfl, P.1.x0]
theorem c_6 {X : XM} {f : Nat → Int32} {n : Nat} {C : Nat → Nat → Int32} {g : Nat → Int32} (P : PS X f n C g) : fX8_count 6 X = some (f 4, X) := by
  unfold fX8_count
  rw [if_neg (by decide), if_neg (by decide), if_neg (by decide), if_neg (by decide), if_neg (by decide), if_neg (by decide), if_pos rfl, P.1.x0, flag_ok (b01 P.1.g0.1.2.2.2.2.2.1)]
theorem c_7 {X : XM} {f : Nat → Int32} {n : Nat} {C : Nat → Nat → Int32} {g : Nat → Int32} (P : PS X f n C g) : fX8_count 7 X = some (f 0, X) := by
  unfold fX8_count
  rw [if_neg (by decide), if_neg (by decide), if_neg (by decide), if_neg (by decide), if_neg (by decide), if_neg (by decide), if_neg (by decide), if_pos rfl, P.1.x0]
theorem c_8 {X : XM} {f : Nat → Int32} {n : Nat} {C : Nat → Nat → Int32} {g : Nat → Int32} (P : PS X f n C g) : fX8_count 8 X = some (f 1, X) := by
  unfold fX8_count
  rw [if_neg (by decide), if_neg (by decide), if_neg (by decide), if_neg (by decide), if_neg (by decide), if_neg (by decide), if_neg (by decide), if_neg (by decide), if_pos rfl, P.1.x0]
theorem c_10 {X : XM} {f : Nat → Int32} {n : Nat} {C : Nat → Nat → Int32} {g : Nat → Int32} (P : PS X f n C g) : fX8_count 10 X = some (nI n, X) := by
  unfold fX8_count
  rw [if_neg (by decide), if_neg (by decide), if_neg (by decide), if_neg (by decide), if_neg (by decide), if_neg (by decide), if_neg (by decide), if_neg (by decide), if_neg (by decide), if_neg (by decide), if_pos rfl, P.1.hc.2.1]
theorem t_count (f : Nat → Int32) {i : Nat} (hi : i < 9) : ∃ v : Int32, ∀ X n C g, PS X f n C g → fX8_count (nI i) X = some (v, X) := by
  match i, hi with
  | 0, _ => exact ⟨_, fun X n C g P => c_0 P⟩
  | 1, _ => exact ⟨_, fun X n C g P => c_1 P⟩
  | 2, _ => exact ⟨_, fun X n C g P => c_2 P⟩
  | 3, _ => exact ⟨_, fun X n C g P => c_3 P⟩
  | 4, _ => exact ⟨_, fun X n C g P => c_4 P⟩
  | 5, _ => exact ⟨_, fun X n C g P => c_5 P⟩
  | 6, _ => exact ⟨_, fun X n C g P => c_6 P⟩
  | 7, _ => exact ⟨_, fun X n C g P => c_7 P⟩
  | 8, _ => exact ⟨_, fun X n C g P => c_8 P⟩
  | k + 9, h => exact absurd h (by omega)
theorem y_all {X : XM} {f : Nat → Int32} {n : Nat} {C : Nat → Nat → Int32} {g : Nat → Int32} (P : PS X f n C g) {w : Nat} (hw : w < 2) (b : Int32) : fX8_ofPlayer (nI w) b X = if b = 0 then some (f (9 + w), X) else if b = 1 then some (f (7 + w), X) else if b = 2 then some (gpurse f w + 100, X) else some (-2, X) := by
  have x0 := P.1.x0
  have gx : gok (X 0) := by rw [x0]; exact P.1.g0.1
  unfold fX8_ofPlayer
  match w, hw with
  | 0, _ =>
    rw [if_pos (show nI 0 = (0 : Int32) from rfl), f_player (g := 0) (X := X) (show (0 : Int32) = nI 0 from rfl) (by decide), f_purse gx (show (0 : Int32) = nI 0 from rfl) (by decide), zi_ok, zi_ok, zi_ok, x0]
  | 1, _ =>
    rw [if_neg (show ¬ nI 1 = (0 : Int32) by decide), if_pos (show nI 1 = (1 : Int32) from rfl), f_player (g := 0) (X := X) (show (1 : Int32) = nI 1 from rfl) (by decide), f_purse gx (show (1 : Int32) = nI 1 from rfl) (by decide), zi_ok, zi_ok, zi_ok, x0]
theorem y_gain {X : XM} {f : Nat → Int32} {n : Nat} {C : Nat → Nat → Int32} {g : Nat → Int32} (P : PS X f n C g) {w : Nat} (hw : w < 2) : fX8_ofPlayer (nI w) 0 X = some (f (9 + w), X) := by rw [y_all P hw, if_pos rfl]
theorem y_pass {X : XM} {f : Nat → Int32} {n : Nat} {C : Nat → Nat → Int32} {g : Nat → Int32} (P : PS X f n C g) {w : Nat} (hw : w < 2) : fX8_ofPlayer (nI w) 1 X = some (f (7 + w), X) := by rw [y_all P hw, if_neg (by decide), if_pos rfl]
theorem y_purse {X : XM} {f : Nat → Int32} {n : Nat} {C : Nat → Nat → Int32} {g : Nat → Int32} (P : PS X f n C g) {w : Nat} (hw : w < 2) : fX8_ofPlayer (nI w) 2 X = some (gpurse f w + 100, X) := by rw [y_all P hw, if_neg (by decide), if_neg (by decide), if_pos rfl]
theorem t_ofPlayer (f : Nat → Int32) (a b : Int32) : ∃ v : Int32, ∀ X n C g, PS X f n C g → fX8_ofPlayer a b X = some (v, X) := by
  have main : ∀ w, w < 2 → ∃ v : Int32, ∀ X n C g, PS X f n C g → fX8_ofPlayer (nI w) b X = some (v, X) := by
    intro w hw
    by_cases c0 : b = 0
    · exact ⟨f (9 + w), fun X n C g P => by rw [y_all P hw, if_pos c0]⟩
    by_cases c1 : b = 1
    · exact ⟨f (7 + w), fun X n C g P => by rw [y_all P hw, if_neg c0, if_pos c1]⟩
    by_cases c2 : b = 2
    · exact ⟨gpurse f w + 100, fun X n C g P => by rw [y_all P hw, if_neg c0, if_neg c1, if_pos c2]⟩
    exact ⟨-2, fun X n C g P => by rw [y_all P hw, if_neg c0, if_neg c1, if_neg c2]⟩
  by_cases c0 : a = 0
  · rw [c0]; exact main 0 (by decide)
  by_cases c1 : a = 1
  · rw [c1]; exact main 1 (by decide)
  exact ⟨-1, fun X n C g P => by unfold fX8_ofPlayer; rw [if_neg c0, if_neg c1]⟩
theorem h_all {X : XM} {f : Nat → Int32} {n : Nat} {C : Nat → Nat → Int32} {g : Nat → Int32} (P : PS X f n C g) {p : Nat} (hp : p < xun (f 2)) (b : Int32) : fX8_ofPile (nI p) b X = if b = 0 then some (f (11 + 4 * p), X) else if b = 1 then some (f (12 + 4 * p), X) else if b = 2 then (if f (13 + 4 * p) = 0 then some (0, X) else some (1, X)) else if b = 3 then some (f (14 + 4 * p), X) else if b = 4 then zi (fX5_nimber (f 0) (f (11 + 4 * p)) X) (fun r Y => some (r, Y)) else some (-2, X) := by
  have x0 := P.1.x0
  have h4 := P.1.g0.1.2.2.2.1
  unfold fX8_ofPile
  rw [f_hasPile (by rw [x0]; exact P.1.g0.1) (show nI p = nI p from rfl) (by omega), x0, if_pos hp, zi_ok, if_neg i10, zd_ok (vp_in_nI (by omega) (by decide)), nI_clampN (by omega), x0]
theorem h_tok {X : XM} {f : Nat → Int32} {n : Nat} {C : Nat → Nat → Int32} {g : Nat → Int32} (P : PS X f n C g) {p : Nat} (hp : p < xun (f 2)) : fX8_ofPile (nI p) 0 X = some (f (11 + 4 * p), X) := by rw [h_all P hp, if_pos rfl]
theorem h_poi {X : XM} {f : Nat → Int32} {n : Nat} {C : Nat → Nat → Int32} {g : Nat → Int32} (P : PS X f n C g) {p : Nat} (hp : p < xun (f 2)) : fX8_ofPile (nI p) 2 X = some (f (13 + 4 * p), X) := by
  have h4 := P.1.g0.1.2.2.2.1
  rw [h_all P hp, if_neg (by decide), if_neg (by decide), if_pos rfl, flag_ok (b01 (P.1.g0.1.2.2.2.2.2.2.2.2.2.1 p (by omega)).2.2.1)]
theorem h_came {X : XM} {f : Nat → Int32} {n : Nat} {C : Nat → Nat → Int32} {g : Nat → Int32} (P : PS X f n C g) {p : Nat} (hp : p < xun (f 2)) : fX8_ofPile (nI p) 3 X = some (f (14 + 4 * p), X) := by rw [h_all P hp, if_neg (by decide), if_neg (by decide), if_neg (by decide), if_pos rfl]
def tkN (f : Nat → Int32) : Nat := xun (f 0)
theorem tk_rng {f : Nat → Int32} (h : gk f) : 1 ≤ tkN f ∧ tkN f < 32 ∧ f 0 = nI (tkN f) := ⟨h.1.1, by have := h.1.2.1; unfold tkN; omega, (nI_xun _).symm⟩
theorem nimb {X : XM} {f : Nat → Int32} {n : Nat} {C : Nat → Nat → Int32} {g : Nat → Int32} (P : PS X f n C g) {t : Nat} (ht : t < 201) : ∃ Y, fX5_nimber (f 0) (nI t) X = some (nI (gr (tkN f) t), Y) ∧ PS Y f n C g := by
  obtain ⟨t1, t2, t3⟩ := tk_rng P.1.g0
  obtain ⟨Y, hY, hr, hs⟩ := f_nimber t1 t2 P.1.si t3 (show nI t = nI t from rfl) ht
  exact ⟨Y, hY, P.cong (fun r hr2 => hr r (by omega) (by omega)) (Or.inr ⟨_, t1, t2, hs⟩) (SIn_cong P.1.sn (fun r a b => hr r (by omega) (by omega)))⟩
theorem h_nim {X : XM} {f : Nat → Int32} {n : Nat} {C : Nat → Nat → Int32} {g : Nat → Int32} (P : PS X f n C g) {p : Nat} (hp : p < xun (f 2)) : ∃ Y, fX8_ofPile (nI p) 4 X = some (nI (gr (tkN f) (gT f p)), Y) ∧ PS Y f n C g := by
  have h4 := P.1.g0.1.2.2.2.1
  have hT := gT_le P.1.g0.1 (p := p) (by omega)
  obtain ⟨Y, hY, PY⟩ := nimb P (t := gT f p) (by omega)
  refine ⟨Y, ?_, PY⟩
  rw [h_all P hp, if_neg (by decide), if_neg (by decide), if_neg (by decide), if_neg (by decide), if_pos rfl, show f (11 + 4 * p) = nI (gT f p) from (nI_xun _).symm, hY, zi_ok]
theorem t_ofPile {f : Nat → Int32} (hf : gk f) (a b : Int32) : ∃ v : Int32, ∀ X n C g, PS X f n C g → ∃ Y, fX8_ofPile a b X = some (v, Y) ∧ PS Y f n C g := by
  by_cases c1 : a < 0
  · exact ⟨-1, fun X n C g P => ⟨X, by unfold fX8_ofPile; rw [f_hasPileN c1, zi_ok, if_pos rfl], P⟩⟩
  obtain ⟨p, hp31, ep⟩ := nat_of c1
  subst ep
  by_cases c2 : p < xun (f 2)
  · by_cases d0 : b = 0
    · exact ⟨f (11 + 4 * p), fun X n C g P => ⟨X, by rw [h_all P c2, if_pos d0], P⟩⟩
    by_cases d1 : b = 1
    · exact ⟨f (12 + 4 * p), fun X n C g P => ⟨X, by rw [h_all P c2, if_neg d0, if_pos d1], P⟩⟩
    by_cases d2 : b = 2
    · exact ⟨f (13 + 4 * p), fun X n C g P => ⟨X, by rw [d2]; exact h_poi P c2, P⟩⟩
    by_cases d3 : b = 3
    · exact ⟨f (14 + 4 * p), fun X n C g P => ⟨X, by rw [d3]; exact h_came P c2, P⟩⟩
    by_cases d4 : b = 4
    · rw [d4]; exact ⟨_, fun X n C g P => h_nim P c2⟩
    exact ⟨-2, fun X n C g P => ⟨X, by rw [h_all P c2, if_neg d0, if_neg d1, if_neg d2, if_neg d3, if_neg d4], P⟩⟩
  · refine ⟨-1, fun X n C g P => ⟨X, ?_, P⟩⟩
    unfold fX8_ofPile
    rw [f_hasPile (by rw [P.1.x0]; exact hf.1) (show nI p = nI p from rfl) hp31, P.1.x0, if_neg c2, zi_ok, if_pos rfl]
theorem a_moves {X : XM} {f : Nat → Int32} {n : Nat} {C : Nat → Nat → Int32} {g : Nat → Int32} (P : PS X f n C g) : fX8_moves X = some (nI (gmoves f), X) := by
  unfold fX8_moves
  rw [f_moveSet (by rw [P.1.x0]; exact P.1.g0.1), zi_ok, P.1.x0]
theorem a_grundy {X : XM} {f : Nat → Int32} {n : Nat} {C : Nat → Nat → Int32} {g : Nat → Int32} (P : PS X f n C g) {t : Nat} (ht : t < 201) : ∃ Y, fX8_grundy (nI t) X = some (nI (gr (tkN f) t), Y) ∧ PS Y f n C g := by
  obtain ⟨Y, hY, PY⟩ := nimb P ht
  refine ⟨Y, ?_, PY⟩
  unfold fX8_grundy
  rw [if_neg (nI_pos (by omega)), if_pos (show nI t ≤ 200 by rw [show (200 : Int32) = nI 200 from rfl, nI_leI (by omega) (by decide)]; omega), P.1.x0, hY, zi_ok]
theorem ask_ps {X Y : XM} {f : Nat → Int32} {n : Nat} {C : Nat → Nat → Int32} {g : Nat → Int32} (P : PS X f n C g) (S : SIn Y) (e : ∀ r, r ≠ 13 → r ≠ 14 → r ≠ 15 → r ≠ 17 → Y r = X r) : PS Y f n C g :=
  P.cong (fun r hr => e r (by omega) (by omega) (by omega) (by omega)) (SI_cong P.1.si (e 18 (by decide) (by decide) (by decide) (by decide)) (e 19 (by decide) (by decide) (by decide) (by decide))) S
theorem a_won {X : XM} {f : Nat → Int32} {n : Nat} {C : Nat → Nat → Int32} {g : Nat → Int32} (P : PS X f n C g) (hg : gmoves f ≠ 0) : ∃ Y, fX8_won X = some (bI (Ws f (sptN f)), Y) ∧ PS Y f n C g := by
  obtain ⟨Y, y1, y2, y3⟩ := f_isWon P.1.x0 P.1.g0.1 P.1.sn
  refine ⟨Y, ?_, ask_ps P y2 y3⟩
  unfold fX8_won
  rw [f_isOver (by rw [P.1.x0]; exact P.1.g0.1), zi_ok, P.1.x0, if_neg hg, if_pos rfl, y1, zi_ok]
  cases Ws f (sptN f) <;> rfl
theorem a_winning {X : XM} {f : Nat → Int32} {n : Nat} {C : Nat → Nat → Int32} {g : Nat → Int32} (P : PS X f n C g) (hg : gmoves f ≠ 0) : ∃ Y, fX8_winning X = some (nI (bsum (wpB f (sptN f)) 21), Y) ∧ PS Y f n C g := by
  obtain ⟨Y, y1, y2, y3⟩ := f_winning P.1.x0 P.1.g0.1 P.1.sn
  refine ⟨Y, ?_, ask_ps P y2 y3⟩
  unfold fX8_winning
  rw [f_isOver (by rw [P.1.x0]; exact P.1.g0.1), zi_ok, P.1.x0, if_neg hg, if_pos rfl, y1, zi_ok]
theorem a_value {X : XM} {f : Nat → Int32} {n : Nat} {C : Nat → Nat → Int32} {g : Nat → Int32} (P : PS X f n C g) (hg : gmoves f ≠ 0) : ∃ Y, fX8_value X = some (Vs f (sptN f) + 1000, Y) ∧ PS Y f n C g := by
  obtain ⟨Y, y1, y2, y3⟩ := f_difference P.1.x0 P.1.g0.1 P.1.sn
  refine ⟨Y, ?_, ask_ps P y2 y3⟩
  unfold fX8_value
  rw [f_isOver (by rw [P.1.x0]; exact P.1.g0.1), zi_ok, P.1.x0, if_neg hg, if_pos rfl, y1, zi_ok]
theorem a_best {X : XM} {f : Nat → Int32} {n : Nat} {C : Nat → Nat → Int32} {g : Nat → Int32} (P : PS X f n C g) (hg : gmoves f ≠ 0) : ∃ Y, fX8_best X = some (nI (bmN f), Y) ∧ PS Y f n C g := by
  obtain ⟨Y, y1, y2, y3⟩ := f_bestMove P.1.x0 P.1.g0.1 P.1.sn
  refine ⟨Y, ?_, ask_ps P y2 y3⟩
  unfold fX8_best
  rw [f_isOver (by rw [P.1.x0]; exact P.1.g0.1), zi_ok, P.1.x0, if_neg hg, if_pos rfl, y1, zi_ok, (bm_ok P.1.g0.1 hg).2.2.1]
theorem a_over {X : XM} {f : Nat → Int32} {n : Nat} {C : Nat → Nat → Int32} {g : Nat → Int32} (P : PS X f n C g) (hg : gmoves f = 0) : fX8_won X = some (-5, X) ∧ fX8_winning X = some (-5, X) ∧ fX8_value X = some (-5, X) ∧ fX8_best X = some (-5, X) := by
  have e : fX0_isOver 0 X = some (1, X) := by rw [f_isOver (by rw [P.1.x0]; exact P.1.g0.1), P.1.x0, if_pos hg]
  refine ⟨?_, ?_, ?_, ?_⟩
  · unfold fX8_won; rw [e, zi_ok, if_neg i10]
  · unfold fX8_winning; rw [e, zi_ok, if_neg i10]
  · unfold fX8_value; rw [e, zi_ok, if_neg i10]
  · unfold fX8_best; rw [e, zi_ok, if_neg i10]
end AS8
