/-! THE PLAIN QUESTIONS -/
section AQ
variable {X : XM}
theorem flag_ok {x : Int32} (h : x = 0 ∨ x = 1) {Y : XM} : (if x = 0 then some ((0 : Int32), Y) else some ((1 : Int32), Y)) = some (x, Y) := by
  rcases h with q | q <;> rw [q] <;> rfl
theorem op_moves (I : Base X) : ∃ r X1 X2, fX8_moves X = some (r, X1) ∧ fX9_moves X1 = some (r, X2) ∧ Base X2 ∧ Kp X X2 := by
  have e : srw X 22 (upd (X 22) 0 0) 23 = X 0 := by rw [srw_n (by decide), I.same]
  refine ⟨nI (gmoves (X 0)), X, _, ?_, ?_, (base_ask I).1, (base_ask I).2⟩
  · unfold fX8_moves
    rw [f_moveSet I.g0, zi_ok]
  · unfold fX9_moves
    rw [zl_ok, xup_eq, q_movesNow (by rw [e]; exact I.g0), zi_ok, e]
theorem op_count (I : Base X) (a1 : Int32) : ∃ r X1 X2, fX8_count a1 X = some (r, X1) ∧ fX9_count a1 X1 = some (r, X2) ∧ Base X2 ∧ Kp X X2 := by
  have e : srw X 22 (upd (X 22) 0 0) 23 = X 0 := by rw [srw_n (by decide), I.same]
  have ge : gok (srw X 22 (upd (X 22) 0 0) 23) := by rw [e]; exact I.g0
  suffices ∃ r, fX8_count a1 X = some (r, X) ∧ fX9_count a1 X = some (r, srw X 22 (upd (X 22) 0 0)) by
    obtain ⟨r, p, q⟩ := this
    exact ⟨r, X, _, p, q, (base_ask I).1, (base_ask I).2⟩
  obtain ⟨len, l1, l2, l3, l4⟩ := I.pad
  obtain ⟨n, C, h1, h2, h3⟩ := I.hist
  unfold fX8_count fX9_count
  rw [zl_ok, xup_eq, e, q_tokens ge, q_isOver ge, q_winner ge, e, f_tokenSum I.g0, f_isOver I.g0, f_winner I.g0, srw_s, show upd (X 22) 0 0 2 = X 22 2 from rfl, show upd (X 22) 0 0 1 = X 22 1 from rfl, l2, l3, h1.2.1, h2.1, flag_ok (b01 I.g0.2.2.2.2.2.1)]
  by_cases c0 : a1 = 0
  · rw [if_pos c0, if_pos c0]; exact ⟨_, rfl, rfl⟩
  rw [if_neg c0, if_neg c0]
  by_cases c1 : a1 = 1
  · rw [if_pos c1, if_pos c1]; exact ⟨_, rfl, rfl⟩
  rw [if_neg c1, if_neg c1]
  by_cases c2 : a1 = 2
  · rw [if_pos c2, if_pos c2]; exact ⟨_, rfl, rfl⟩
  rw [if_neg c2, if_neg c2]
  by_cases c3 : a1 = 3
  · rw [if_pos c3, if_pos c3, zi_ok, zi_ok]
    by_cases d : gmoves (X 0) = 0
    · rw [if_pos d, if_neg i10, if_neg i10]; exact ⟨_, rfl, rfl⟩
    · rw [if_neg d, if_pos rfl, if_pos rfl]; exact ⟨_, rfl, rfl⟩
  rw [if_neg c3, if_neg c3]
  by_cases c4 : a1 = 4
  · rw [if_pos c4, if_pos c4]; exact ⟨_, rfl, rfl⟩
  rw [if_neg c4, if_neg c4]
  by_cases c5 : a1 = 5
  · rw [if_pos c5, if_pos c5]; exact ⟨_, rfl, rfl⟩
  rw [if_neg c5, if_neg c5]
  by_cases c6 : a1 = 6
  · rw [if_pos c6, if_pos c6]; exact ⟨_, rfl, rfl⟩
  rw [if_neg c6, if_neg c6]
  by_cases c7 : a1 = 7
  · rw [if_pos c7, if_pos c7]; exact ⟨_, rfl, rfl⟩
  rw [if_neg c7, if_neg c7]
  by_cases c8 : a1 = 8
  · rw [if_pos c8, if_pos c8]; exact ⟨_, rfl, rfl⟩
  rw [if_neg c8, if_neg c8]
  by_cases c9 : a1 = 9
  · rw [if_pos c9, if_pos c9]; exact ⟨_, rfl, rfl⟩
  rw [if_neg c9, if_neg c9]
  by_cases c10 : a1 = 10
  · rw [if_pos c10, if_pos c10]; exact ⟨_, rfl, rfl⟩
  rw [if_neg c10, if_neg c10]
  exact ⟨_, rfl, rfl⟩
theorem gwin_6 {f : Nat → Int32} (h : gok f) : gwin f = -6 ↔ gmoves f ≠ 0 := by
  unfold gwin
  have h3 := b01 h.2.2.2.2.1
  by_cases c : gmoves f = 0
  · rw [if_pos c]
    constructor
    · intro q
      exfalso
      split at q
      · rcases h3 with e | e <;> rw [e] at q <;> exact absurd q (by decide)
      · rcases h3 with e | e <;> rw [e] at q <;> exact absurd q (by decide)
    · intro q; exact absurd c q
  · rw [if_neg c]
    exact ⟨fun _ => c, fun _ => rfl⟩
theorem q_inAll (h : gok (X 23)) {a : Int32} {w : Nat} (ha : a = nI w) (hw : w < 2) : fX9_inAll a X = some (gpurse (X 23) w, X) := by
  unfold fX9_inAll gpurse
  have e9 : 9 + a = nI (9 + w) := by rw [ha, show (9 : Int32) = nI 9 from rfl, nI_add]
  rw [q_winner h, zi_ok, e9, zd_ok (vp_in_nI (by omega) (by decide)), nI_clampN (by omega), ha]
  by_cases c : gmoves (X 23) = 0
  · rw [if_pos c, if_neg (fun q => (gwin_6 h).1 q c)]
    by_cases d : gwin (X 23) = nI w
    · rw [if_pos d, if_pos d]
    · rw [if_neg d, if_neg d, ← Int32.sub_eq_add_neg]
  · rw [if_neg c, if_pos ((gwin_6 h).2 c), Int32.add_zero]
theorem op_ofPlayer (I : Base X) (a1 a2 : Int32) : ∃ r X1 X2, fX8_ofPlayer a1 a2 X = some (r, X1) ∧ fX9_ofPlayer a1 a2 X1 = some (r, X2) ∧ Base X2 ∧ Kp X X2 := by
  have e : srw X 22 (upd (X 22) 0 0) 23 = X 0 := by rw [srw_n (by decide), I.same]
  have ge : gok (srw X 22 (upd (X 22) 0 0) 23) := by rw [e]; exact I.g0
  suffices ∃ r, fX8_ofPlayer a1 a2 X = some (r, X) ∧ fX9_ofPlayer a1 a2 X = some (r, srw X 22 (upd (X 22) 0 0)) by
    obtain ⟨r, p, q⟩ := this
    exact ⟨r, X, _, p, q, (base_ask I).1, (base_ask I).2⟩
  have main : ∀ w, w < 2 → a1 = nI w → (∃ r, fX8_ofPlayer a1 a2 X = some (r, X) ∧ fX9_ofPlayer a1 a2 X = some (r, srw X 22 (upd (X 22) 0 0))) := by
    intro w hw ew
    have cls : fX8_ofPlayer a1 a2 X = if a2 = 0 then some (X 0 (9 + w), X) else if a2 = 1 then some (X 0 (7 + w), X) else if a2 = 2 then some (gpurse (X 0) w + 100, X) else some (-2, X) := by
      unfold fX8_ofPlayer
      match w, hw with
      | 0, _ =>
        rw [if_pos (show a1 = 0 from ew), f_player (g := 0) (X := X) (show (0 : Int32) = nI 0 from rfl) (by decide), f_purse I.g0 (show (0 : Int32) = nI 0 from rfl) (by decide)]
        rfl
      | 1, _ =>
        rw [if_neg (show ¬ a1 = 0 by rw [ew]; decide), if_pos (show a1 = 1 from ew), f_player (g := 0) (X := X) (show (1 : Int32) = nI 1 from rfl) (by decide), f_purse I.g0 (show (1 : Int32) = nI 1 from rfl) (by decide)]
        rfl
    have n0 : ¬ a1 < 0 := by rw [ew]; exact nI_pos (by omega)
    have n1 : ¬ 1 < a1 := by
      rw [ew]
      match w, hw with
      | 0, _ => decide
      | 1, _ => decide
    have e9 : 9 + a1 = nI (9 + w) := by rw [ew, show (9 : Int32) = nI 9 from rfl, nI_add]
    have e7 : 7 + a1 = nI (7 + w) := by rw [ew, show (7 : Int32) = nI 7 from rfl, nI_add]
    rw [cls]
    unfold fX9_ofPlayer
    rw [zl_ok, xup_eq, q_inT n0 n1, zi_ok, if_neg i10, q_inAll ge ew hw, e, e9, e7, zd_ok (vp_in_nI (by omega) (by decide)), zd_ok (vp_in_nI (by omega) (by decide)), nI_clampN (by omega), nI_clampN (by omega), zi_ok]
    by_cases c0 : a2 = 0
    · rw [if_pos c0, if_pos c0]; exact ⟨_, rfl, rfl⟩
    rw [if_neg c0, if_neg c0]
    by_cases c1 : a2 = 1
    · rw [if_pos c1, if_pos c1]; exact ⟨_, rfl, rfl⟩
    rw [if_neg c1, if_neg c1]
    by_cases c2 : a2 = 2
    · rw [if_pos c2, if_pos c2]; exact ⟨_, rfl, rfl⟩
    rw [if_neg c2, if_neg c2]
    exact ⟨_, rfl, rfl⟩
  by_cases c0 : a1 = 0
  · exact main 0 (by decide) c0
  by_cases c1 : a1 = 1
  · exact main 1 (by decide) c1
  have c7 : a1 < 0 ∨ 1 < a1 := by
    by_cases p1 : a1 < 0
    · exact Or.inl p1
    · by_cases p2 : 1 < a1
      · exact Or.inr p2
      · exact absurd (b01 (rng (x := a1) (lo := 0) (hi := 1) (by decide) (by decide) p1 p2).2) (fun q => q.elim c0 c1)
  refine ⟨-1, ?_, ?_⟩
  · unfold fX8_ofPlayer
    rw [if_neg c0, if_neg c1]
  · unfold fX9_ofPlayer
    rw [zl_ok, xup_eq, q_inF c7, zi_ok, if_pos rfl]
end AQ
