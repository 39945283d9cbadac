/-! THE REFERENCE's small loops -/
section ML
def psum (f : Nat → Int32) : Nat → Nat
  | 0 => 0
  | n + 1 => psum f n + gT f n
theorem gT_zero {f : Nat → Int32} (h : gok f) {p : Nat} (hp : p < 4) (hn : xun (f 2) ≤ p) : gT f p = 0 := by
  unfold gT
  rw [((h.2.2.2.2.2.2.2.2.2.1 p hp).2.2.2.2 hn).1]
  rfl
theorem psum_all {f : Nat → Int32} (h : gok f) : psum f (xun (f 2)) = gsum f := by
  have h4 := h.2.2.2.1
  have z := fun p hp hn => gT_zero h (p := p) hp hn
  unfold gsum
  generalize xun (f 2) = n at *
  match n, h4 with
  | 0, _ => rw [z 0 (by decide) (by decide), z 1 (by decide) (by decide), z 2 (by decide) (by decide), z 3 (by decide) (by decide)]; rfl
  | 1, _ => rw [z 1 (by decide) (by decide), z 2 (by decide) (by decide), z 3 (by decide) (by decide)]; simp [psum]
  | 2, _ => rw [z 2 (by decide) (by decide), z 3 (by decide) (by decide)]; simp [psum]
  | 3, _ => rw [z 3 (by decide) (by decide)]; simp [psum]
  | 4, _ => simp [psum]
theorem q_tokens_4 {X : XM} (h : gok (X 23)) : ∀ (m i : Nat), i ≤ xun (X 23 2) → xun (X 23 2) < i + m → fX9_tokens_4 m (nI (psum (X 23) i)) (nI i) X = some (nI (gsum (X 23)), X) := by
  have h4 := h.2.2.2.1
  have e2 : X 23 2 = nI (xun (X 23 2)) := (nI_xun _).symm
  intro m
  induction m with
  | zero => intro i h1 h2; omega
  | succ m ih =>
    intro i h1 h2
    rw [fX9_tokens_4]
    by_cases c : i = xun (X 23 2)
    · rw [if_pos (show X 23 2 ≤ nI i by rw [c, ← e2]; exact Int32.le_refl _), c, psum_all h]
    · rw [if_neg (show ¬ X 23 2 ≤ nI i by rw [e2, nI_leI (by omega) (by omega)]; omega), q_of rfl (show (0 : Int32) = nI 0 from rfl) (by omega) (by decide), zi_ok, zl_ok, nI_1]
      have e : nI (psum (X 23) i) + X 23 (11 + 4 * i + 0) = nI (psum (X 23) (i + 1)) := by
        show _ + X 23 (11 + 4 * i) = _
        rw [← nI_xun (X 23 (11 + 4 * i)), nI_add]
        rfl
      rw [e]
      exact ih (i + 1) (by omega) (by omega)
theorem q_tokens {X : XM} (h : gok (X 23)) : fX9_tokens X = some (nI (gsum (X 23)), X) := by
  have h4 := h.2.2.2.1
  exact q_tokens_4 h fuel 0 (Nat.zero_le _) (by have := fuel_ge; omega)
theorem gok_begin {f : Nat → Int32} (h : gok f) : gok (dBegin f) := by
  obtain ⟨h0, h1, h2, h3, h4, h5, h6, h7, h8, hp, hz⟩ := h
  refine ⟨h0, h1, h2, h3, (show xun 0 ≤ 1 by decide), (show xun 0 ≤ 1 by decide), (show xun 0 ≤ 1 by decide), h7, h8, fun p hp4 => ?_, fun k hk => ?_⟩
  · have q := hp p hp4
    match p, hp4 with
    | 0, _ => exact ⟨q.2.2.2.1, q.2.1, q.2.2.1, q.2.2.2.1, fun c => ⟨(q.2.2.2.2 c).2, (q.2.2.2.2 c).2⟩⟩
    | 1, _ => exact ⟨q.2.2.2.1, q.2.1, q.2.2.1, q.2.2.2.1, fun c => ⟨(q.2.2.2.2 c).2, (q.2.2.2.2 c).2⟩⟩
    | 2, _ => exact ⟨q.2.2.2.1, q.2.1, q.2.2.1, q.2.2.2.1, fun c => ⟨(q.2.2.2.2 c).2, (q.2.2.2.2 c).2⟩⟩
    | 3, _ => exact ⟨q.2.2.2.1, q.2.1, q.2.2.1, q.2.2.2.1, fun c => ⟨(q.2.2.2.2 c).2, (q.2.2.2.2 c).2⟩⟩
  · unfold dBegin
    rw [if_neg (by omega), if_neg (by omega)]
    exact hz k hk
theorem q_begin_11 : ∀ (m i : Nat) (X : XM), gok (X 23) → i ≤ xun (X 23 2) → xun (X 23 2) < i + m → (∀ p, p < i → X 23 (11 + 4 * p) = X 23 (14 + 4 * p)) → fX9_begin_11 m (nI i) X = some (nI (gsum (dBegin (X 23))), srw X 23 (dBegin (X 23))) := by
  intro m
  induction m with
  | zero => intro i X h h1 h2; omega
  | succ m ih =>
    intro i X h h1 h2 hq
    have h4 := h.2.2.2.1
    have e2 : X 23 2 = nI (xun (X 23 2)) := (nI_xun _).symm
    rw [fX9_begin_11]
    by_cases c : i = xun (X 23 2)
    · rw [if_pos (show X 23 2 ≤ nI i by rw [c, ← e2]; exact Int32.le_refl _)]
      simp only [zl_ok, xup_eq, srw_ss, srw_s]
      have all : ∀ p, p < 4 → X 23 (11 + 4 * p) = X 23 (14 + 4 * p) := by
        intro p hp
        by_cases d : p < i
        · exact hq p d
        · have := (h.2.2.2.2.2.2.2.2.2.1 p hp).2.2.2.2 (by omega)
          rw [this.1, this.2]
      have er : upd (upd (upd (upd (upd (upd (X 23) 9 0) 10 0) 3 0) 4 0) 5 0) 6 0 = dBegin (X 23) := by
        refine row27 ?_ (gok_begin h).z ?_
        · repeat (refine z27_upd ?_ (by decide))
          exact h.z
        · have a0 := all 0 (by decide)
          have a1 := all 1 (by decide)
          have a2 := all 2 (by decide)
          have a3 := all 3 (by decide)
          simp only [Nat.mul_zero, Nat.mul_one, Nat.reduceMul, Nat.reduceAdd] at a0 a1 a2 a3
          refine all27 ?_ ?_ ?_ ?_ ?_ ?_ ?_ ?_ ?_ ?_ ?_ ?_ ?_ ?_ ?_ ?_ ?_ ?_ ?_ ?_ ?_ ?_ ?_ ?_ ?_ ?_ ?_ <;> simp [upd, dBegin, a0, a1, a2, a3]
      rw [er, q_tokens (by rw [srw_s]; exact gok_begin h), zi_ok, srw_s]
    · have hi : i < 4 := by omega
      rw [if_neg (show ¬ X 23 2 ≤ nI i by rw [e2, nI_leI (by omega) (by omega)]; omega), q_of rfl (show (3 : Int32) = nI 3 from rfl) hi (by decide), zi_ok, q_lay rfl (show (0 : Int32) = nI 0 from rfl) hi (by decide), zv_ok, nI_1, show 11 + 4 * i + 0 = 11 + 4 * i from rfl, show 11 + 4 * i + 3 = 14 + 4 * i by omega]
      have hu : ∀ k, k ≠ 11 + 4 * i → upd (X 23) (11 + 4 * i) (X 23 (14 + 4 * i)) k = X 23 k := fun k hk => by unfold upd; rw [if_neg hk]
      have hs : upd (X 23) (11 + 4 * i) (X 23 (14 + 4 * i)) (11 + 4 * i) = X 23 (14 + 4 * i) := by unfold upd; rw [if_pos rfl]
      have gk : gok (upd (X 23) (11 + 4 * i) (X 23 (14 + 4 * i))) := by
        obtain ⟨g0, g1, g2, g3, g4, g5, g6, g7, g8, gp, gz⟩ := h
        refine ⟨by rw [hu _ (by omega)]; exact g0, by rw [hu _ (by omega)]; exact g1, by rw [hu _ (by omega)]; exact g2, by rw [hu _ (by omega)]; exact g3, by rw [hu _ (by omega)]; exact g4, by rw [hu _ (by omega)]; exact g5, by rw [hu _ (by omega)]; exact g6, by rw [hu _ (by omega)]; exact g7, by rw [hu _ (by omega)]; exact g8, fun p hp4 => ?_, fun k hk => by rw [hu _ (by omega)]; exact gz k hk⟩
        have q := gp p hp4
        rw [hu (12 + 4 * p) (by omega), hu (13 + 4 * p) (by omega), hu (14 + 4 * p) (by omega), hu 2 (by omega)]
        by_cases d : p = i
        · subst d
          rw [hs]
          exact ⟨q.2.2.2.1, q.2.1, q.2.2.1, q.2.2.2.1, fun c => ⟨(q.2.2.2.2 c).2, (q.2.2.2.2 c).2⟩⟩
        · rw [hu _ (by omega)]
          exact q
      have hd : dBegin (upd (X 23) (11 + 4 * i) (X 23 (14 + 4 * i))) = dBegin (X 23) := by
        funext k
        unfold dBegin
        by_cases c1 : k = 11 ∨ k = 15 ∨ k = 19 ∨ k = 23
        · rw [if_pos c1, if_pos c1, hu _ (by omega)]
        · rw [if_neg c1, if_neg c1]
          by_cases c2 : k = 9 ∨ k = 10 ∨ k = 3 ∨ k = 6 ∨ k = 4 ∨ k = 5
          · rw [if_pos c2, if_pos c2]
          · rw [if_neg c2, if_neg c2, hu _ (by omega)]
      rw [ih (i + 1) _ (by rw [srw_s]; exact gk) (by rw [srw_s, hu _ (by omega)]; omega) (by rw [srw_s, hu _ (by omega)]; omega) (fun p hp => ?_), srw_s, srw_ss, hd]
      rw [srw_s]
      by_cases d : p = i
      · subst d
        rw [hs, hu _ (by omega)]
      · rw [hu _ (by omega), hu _ (by omega)]
        exact hq p (by omega)
theorem q_undo_27 {n : Nat} (hn : n < 6) : ∀ (m i : Nat) (X : XM), X 22 1 = nI n → i ≤ 27 → 27 < i + m → fX9_undo_27 m (nI i) X = some (nI n, srw X 23 (cpy (X 23) (fun k => X 25 (27 * n + k)) 0 i 27)) := by
  intro m
  induction m with
  | zero => intro i X h1 h2 h3; omega
  | succ m ih =>
    intro i X h1 h2 h3
    rw [fX9_undo_27]
    by_cases c : i = 27
    · subst c
      rw [if_pos (show (27 : Int32) ≤ nI 27 by decide), h1, cpy_end, srw_id]
    · rw [if_neg (show ¬ (27 : Int32) ≤ nI i by rw [show (27 : Int32) = nI 27 from rfl, nI_leI (by decide) (by omega)]; omega), m_at h1 rfl, zd_ok (vp_in_nI (by omega) (by decide)), zd_ok (vp_in_nI (by omega) (by decide)), nI_clampN (by omega), nI_clampN (by omega), zl_ok, xup_eq, nI_1]
      rw [ih (i + 1) _ (by rw [srw_n (by decide)]; exact h1) (by omega) (by omega)]
      rw [srw_s, srw_ss, srw_n (by decide)]
      have := cpy_step (f := X 23) (g := fun k => X 25 (27 * n + k)) (a := 0) (i := i) (e := 27) (by omega)
      rw [Nat.zero_add] at this
      rw [this]
theorem q_restore_35 {a : Int32} {w : Nat} (ha : a = nI w) (hw : w < 2) : ∀ (m i : Nat) (X : XM), i ≤ 27 → 27 < i + m → gok (cpy (X 23) (fun k => X 26 (27 * w + k)) 0 i 27) → fX9_restore_35 m a (nI i) X = some (nI (gsum (cpy (X 23) (fun k => X 26 (27 * w + k)) 0 i 27)), srw X 23 (cpy (X 23) (fun k => X 26 (27 * w + k)) 0 i 27)) := by
  intro m
  induction m with
  | zero => intro i X h2 h3; omega
  | succ m ih =>
    intro i X h2 h3 hg
    rw [fX9_restore_35]
    by_cases c : i = 27
    · subst c
      rw [cpy_end] at hg
      rw [if_pos (show (27 : Int32) ≤ nI 27 by decide), q_tokens hg, zi_ok, cpy_end, srw_id]
    · rw [if_neg (show ¬ (27 : Int32) ≤ nI i by rw [show (27 : Int32) = nI 27 from rfl, nI_leI (by decide) (by omega)]; omega), m_at ha rfl, zd_ok (vp_in_nI (by omega) (by decide)), zd_ok (vp_in_nI (by omega) (by decide)), nI_clampN (by omega), nI_clampN (by omega), zl_ok, xup_eq, nI_1]
      have st := cpy_step (f := X 23) (g := fun k => X 26 (27 * w + k)) (a := 0) (i := i) (e := 27) (by omega)
      rw [Nat.zero_add] at st
      have st' : cpy (srw X 23 (upd (X 23) i (X 26 (27 * w + i))) 23) (fun k => srw X 23 (upd (X 23) i (X 26 (27 * w + i))) 26 (27 * w + k)) 0 (i + 1) 27 = cpy (X 23) (fun k => X 26 (27 * w + k)) 0 i 27 := by
        rw [srw_s, srw_n (by decide)]
        exact st
      rw [ih (i + 1) _ (by omega) (by omega) (by rw [st']; exact hg), st', srw_ss]
theorem q_save_19 {a : Int32} {w : Nat} (ha : a = nI w) (hw : w < 2) : ∀ (m i : Nat) (X : XM), i ≤ 27 → 27 < i + m → gok (X 23) → fX9_save_19 m a (nI i) X = some (nI (gsum (X 23)), srw (srw X 26 (cpy (X 26) (X 23) (27 * w) i 27)) 27 (upd (X 27) w 1)) := by
  intro m
  induction m with
  | zero => intro i X h2 h3; omega
  | succ m ih =>
    intro i X h2 h3 hg
    rw [fX9_save_19]
    by_cases c : i = 27
    · subst c
      rw [if_pos (show (27 : Int32) ≤ nI 27 by decide), ha, zd_ok (vp_in_nI (by omega) (by decide)), nI_clampN (by omega), zl_ok, xup_eq, q_tokens (by rw [srw_n (by decide)]; exact hg), zi_ok, srw_n (by decide), cpy_end, srw_id]
      rfl
    · rw [if_neg (show ¬ (27 : Int32) ≤ nI i by rw [show (27 : Int32) = nI 27 from rfl, nI_leI (by decide) (by omega)]; omega), zd_ok (vp_in_nI (by omega) (by decide)), m_at ha rfl, zd_ok (vp_in_nI (by omega) (by decide)), nI_clampN (by omega), nI_clampN (by omega), zl_ok, xup_eq, nI_1]
      rw [ih (i + 1) _ (by omega) (by omega) (by rw [srw_n (by decide)]; exact hg)]
      rw [srw_s, srw_n (by decide), srw_ss, srw_n (by decide), cpy_step (by omega)]
end ML
