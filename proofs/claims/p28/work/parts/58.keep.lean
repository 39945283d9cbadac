/-! WHAT THE MOVES KEEP -/
section KP
theorem gok_u0 {f : Nat → Int32} {v : Int32} (h : gok f) (h1 : 1 ≤ xun v) (h2 : xun v ≤ 31) : gok (upd f 0 v) := by
  have hu : ∀ k, k ≠ 0 → upd f 0 v k = f k := fun k hk => by unfold upd; rw [if_neg hk]
  obtain ⟨g0, g1, g2, g3, g4, g5, g6, g7, g8, gp, gz⟩ := h
  refine ⟨h1, h2, by rw [hu _ (by decide)]; exact g2, by rw [hu _ (by decide)]; exact g3, by rw [hu _ (by decide)]; exact g4, by rw [hu _ (by decide)]; exact g5, by rw [hu _ (by decide)]; exact g6, by rw [hu _ (by decide)]; exact g7, by rw [hu _ (by decide)]; exact g8, fun p hp4 => ?_, fun k hk => by rw [hu _ (by omega)]; exact gz k hk⟩
  rw [hu _ (by omega), hu _ (by omega), hu _ (by omega), hu _ (by omega), hu _ (by omega)]
  exact gp p hp4
theorem gok_u1 {f : Nat → Int32} {v : Int32} (h : gok f) (h2 : xun v ≤ 99) : gok (upd f 1 v) := by
  have hu : ∀ k, k ≠ 1 → upd f 1 v k = f k := fun k hk => by unfold upd; rw [if_neg hk]
  obtain ⟨g0, g1, g2, g3, g4, g5, g6, g7, g8, gp, gz⟩ := h
  refine ⟨by rw [hu _ (by decide)]; exact g0, by rw [hu _ (by decide)]; exact g1, h2, by rw [hu _ (by decide)]; exact g3, by rw [hu _ (by decide)]; exact g4, by rw [hu _ (by decide)]; exact g5, by rw [hu _ (by decide)]; exact g6, by rw [hu _ (by decide)]; exact g7, by rw [hu _ (by decide)]; exact g8, fun p hp4 => ?_, fun k hk => by rw [hu _ (by omega)]; exact gz k hk⟩
  rw [hu _ (by omega), hu _ (by omega), hu _ (by omega), hu _ (by omega), hu _ (by omega)]
  exact gp p hp4
theorem gok_u7 {f : Nat → Int32} {v : Int32} (h : gok f) (h2 : xun v ≤ 2) : gok (upd f 7 v) := by
  have hu : ∀ k, k ≠ 7 → upd f 7 v k = f k := fun k hk => by unfold upd; rw [if_neg hk]
  obtain ⟨g0, g1, g2, g3, g4, g5, g6, g7, g8, gp, gz⟩ := h
  refine ⟨by rw [hu _ (by decide)]; exact g0, by rw [hu _ (by decide)]; exact g1, by rw [hu _ (by decide)]; exact g2, by rw [hu _ (by decide)]; exact g3, by rw [hu _ (by decide)]; exact g4, by rw [hu _ (by decide)]; exact g5, by rw [hu _ (by decide)]; exact g6, h2, by rw [hu _ (by decide)]; exact g8, fun p hp4 => ?_, fun k hk => by rw [hu _ (by omega)]; exact gz k hk⟩
  rw [hu _ (by omega), hu _ (by omega), hu _ (by omega), hu _ (by omega), hu _ (by omega)]
  exact gp p hp4
theorem gok_u8 {f : Nat → Int32} {v : Int32} (h : gok f) (h2 : xun v ≤ 2) : gok (upd f 8 v) := by
  have hu : ∀ k, k ≠ 8 → upd f 8 v k = f k := fun k hk => by unfold upd; rw [if_neg hk]
  obtain ⟨g0, g1, g2, g3, g4, g5, g6, g7, g8, gp, gz⟩ := h
  refine ⟨by rw [hu _ (by decide)]; exact g0, by rw [hu _ (by decide)]; exact g1, by rw [hu _ (by decide)]; exact g2, by rw [hu _ (by decide)]; exact g3, by rw [hu _ (by decide)]; exact g4, by rw [hu _ (by decide)]; exact g5, by rw [hu _ (by decide)]; exact g6, by rw [hu _ (by decide)]; exact g7, h2, fun p hp4 => ?_, fun k hk => by rw [hu _ (by omega)]; exact gz k hk⟩
  rw [hu _ (by omega), hu _ (by omega), hu _ (by omega), hu _ (by omega), hu _ (by omega)]
  exact gp p hp4
/-- a pile comes, at place n -/
def dPile (f : Nat → Int32) (n : Nat) (a b c : Int32) : Nat → Int32 := fun k => if k = 2 then nI (n + 1) else if k = 11 + 4 * n then a else if k = 12 + 4 * n then b else if k = 13 + 4 * n then c else if k = 14 + 4 * n then a else f k
theorem gok_dPile {f : Nat → Int32} {n : Nat} {a b c : Int32} (h : gok f) (hn : xun (f 2) = n) (hn4 : n < 4) (ha : xun a ≤ 5) (hb : xun b ≤ 9) (hc : xun c ≤ 1) : gok (dPile f n a b c) := by
  have hu : ∀ k, k ≠ 2 → (k < 11 + 4 * n ∨ 14 + 4 * n < k) → dPile f n a b c k = f k := fun k h1 h2 => by
    unfold dPile
    rw [if_neg h1, if_neg (by omega), if_neg (by omega), if_neg (by omega), if_neg (by omega)]
  have e2 : dPile f n a b c 2 = nI (n + 1) := if_pos rfl
  have x1 : dPile f n a b c (11 + 4 * n) = a := by
    unfold dPile
    rw [if_neg (by omega), if_pos rfl]
  have x2 : dPile f n a b c (12 + 4 * n) = b := by
    unfold dPile
    rw [if_neg (by omega), if_neg (by omega), if_pos rfl]
  have x3 : dPile f n a b c (13 + 4 * n) = c := by
    unfold dPile
    rw [if_neg (by omega), if_neg (by omega), if_neg (by omega), if_pos rfl]
  have x4 : dPile f n a b c (14 + 4 * n) = a := by
    unfold dPile
    rw [if_neg (by omega), if_neg (by omega), if_neg (by omega), if_neg (by omega), if_pos rfl]
  have y2 : xun (nI (n + 1)) = n + 1 := xun_nI (by omega)
  obtain ⟨g0, g1, g2, g3, g4, g5, g6, g7, g8, gp, gz⟩ := h
  refine ⟨by rw [hu _ (by decide) (by omega)]; exact g0, by rw [hu _ (by decide) (by omega)]; exact g1, by rw [hu _ (by decide) (by omega)]; exact g2, by rw [e2, y2]; omega, by rw [hu _ (by decide) (by omega)]; exact g4, by rw [hu _ (by decide) (by omega)]; exact g5, by rw [hu _ (by decide) (by omega)]; exact g6, by rw [hu _ (by decide) (by omega)]; exact g7, by rw [hu _ (by decide) (by omega)]; exact g8, fun p hp4 => ?_, fun k hk => by rw [hu _ (by omega) (by omega)]; exact gz k hk⟩
  rw [e2, y2]
  by_cases d : p = n
  · subst d
    rw [x1, x2, x3, x4]
    exact ⟨ha, hb, hc, ha, fun q => absurd q (by omega)⟩
  · rw [hu (11 + 4 * p) (by omega) (by omega), hu (12 + 4 * p) (by omega) (by omega), hu (13 + 4 * p) (by omega) (by omega), hu (14 + 4 * p) (by omega) (by omega)]
    have q := gp p hp4
    exact ⟨q.1, q.2.1, q.2.2.1, q.2.2.2.1, fun c => q.2.2.2.2 (by omega)⟩
theorem nI_sub {a b : Nat} (h : b ≤ a) : nI a - nI b = nI (a - b) := by
  have e : nI a = nI (a - b) + nI b := by rw [nI_add, Nat.sub_add_cancel h]
  rw [e]
  exact Int32.add_sub_cancel _ _
theorem one_sub {x : Int32} (h : xun x ≤ 1) : xun (1 - x) ≤ 1 := by
  rcases b01 h with e | e <;> rw [e] <;> decide
theorem gok_dTake {f : Nat → Int32} {m p t : Nat} (h : gok f) (hm1 : m ≤ 1) (hp : p < 4) (ht : t ≤ gT f p) (ht0 : 0 < t) : gok (dTake f m p t) := by
  have hpt := gok_pile h hp (by omega)
  have hu : ∀ k, k ≠ 3 → k ≠ 4 → k ≠ 5 → k ≠ 6 → k ≠ 9 → k ≠ 10 → k ≠ 11 + 4 * p → dTake f m p t k = f k := fun k h1 h2 h3 h4 h5 h6 h7 => by
    unfold dTake
    rw [if_neg h1, if_neg h2, if_neg h3, if_neg h4, if_neg (by omega), if_neg h7]
  have x3 : dTake f m p t 3 = 1 - f 3 := if_pos rfl
  have x4 : dTake f m p t 4 = 0 := rfl
  have x5 : dTake f m p t 5 = (if f (13 + 4 * p) = 1 ∧ f (11 + 4 * p) = nI t then 1 else 0) := rfl
  have xt : dTake f m p t (11 + 4 * p) = nI (gT f p - t) := by
    unfold dTake
    rw [if_neg (by omega), if_neg (by omega), if_neg (by omega), if_neg (by omega), if_neg (by omega), if_pos rfl, ← nI_sub ht]
    unfold gT
    rw [nI_xun]
  have h5 := gT_le h hp
  obtain ⟨g0, g1, g2, g3, g4, g5, g6, g7, g8, gp, gz⟩ := h
  refine ⟨by rw [hu 0 (by decide) (by decide) (by decide) (by decide) (by decide) (by decide) (by omega)]; exact g0, by rw [hu 0 (by decide) (by decide) (by decide) (by decide) (by decide) (by decide) (by omega)]; exact g1, by rw [hu 1 (by decide) (by decide) (by decide) (by decide) (by decide) (by decide) (by omega)]; exact g2, by rw [hu 2 (by decide) (by decide) (by decide) (by decide) (by decide) (by decide) (by omega)]; exact g3, by rw [x3]; exact one_sub g4, by rw [x4]; decide, ?_, by rw [hu 7 (by decide) (by decide) (by decide) (by decide) (by decide) (by decide) (by omega)]; exact g7, by rw [hu 8 (by decide) (by decide) (by decide) (by decide) (by decide) (by decide) (by omega)]; exact g8, fun q hq4 => ?_, fun k hk => by rw [hu k (by omega) (by omega) (by omega) (by omega) (by omega) (by omega) (by omega)]; exact gz k hk⟩
  · rw [x5]
    by_cases c : f (13 + 4 * p) = 1 ∧ f (11 + 4 * p) = nI t
    · rw [if_pos c]; decide
    · rw [if_neg c]; decide
  · have z := gp q hq4
    rw [hu 2 (by decide) (by decide) (by decide) (by decide) (by decide) (by decide) (by omega), hu (12 + 4 * q) (by omega) (by omega) (by omega) (by omega) (by omega) (by omega) (by omega), hu (13 + 4 * q) (by omega) (by omega) (by omega) (by omega) (by omega) (by omega) (by omega), hu (14 + 4 * q) (by omega) (by omega) (by omega) (by omega) (by omega) (by omega) (by omega)]
    by_cases d : q = p
    · subst d
      rw [xt, xun_nI (by omega)]
      exact ⟨by omega, z.2.1, z.2.2.1, z.2.2.2.1, fun c => absurd c (by omega)⟩
    · rw [hu (11 + 4 * q) (by omega) (by omega) (by omega) (by omega) (by omega) (by omega) (by omega)]
      exact z
theorem gok_dPass {f : Nat → Int32} {m : Nat} (h : gok f) (hm1 : m ≤ 1) (h0 : 0 < xun (f (7 + m))) : gok (dPass f m) := by
  have hu : ∀ k, k ≠ 3 → k ≠ 4 → k ≠ 6 → k ≠ 7 + m → dPass f m k = f k := fun k h1 h2 h4 h5 => by
    unfold dPass
    rw [if_neg h1, if_neg h2]
    by_cases c : k = 5
    · rw [if_pos c, c]
    · rw [if_neg c, if_neg h4, if_neg h5]
  have x3 : dPass f m 3 = 1 - f 3 := if_pos rfl
  have x4 : dPass f m 4 = 1 := rfl
  have xm : dPass f m (7 + m) = f (7 + m) - 1 := by
    unfold dPass
    rw [if_neg (by omega), if_neg (by omega), if_neg (by omega), if_neg (by omega), if_pos rfl]
  obtain ⟨g0, g1, g2, g3, g4, g5, g6, g7, g8, gp, gz⟩ := h
  have hle : xun (f (7 + m)) ≤ 2 := by
    match m, hm1 with
    | 0, _ => exact g7
    | 1, _ => exact g8
  have xv : xun (f (7 + m) - 1) ≤ 2 := by
    have e : f (7 + m) - 1 = nI (xun (f (7 + m)) - 1) := by
      rw [← nI_sub h0, nI_xun]
      rfl
    rw [e, xun_nI (by omega)]
    omega
  have x7 : xun (dPass f m 7) ≤ 2 := by
    by_cases c : 7 = 7 + m
    · have : dPass f m 7 = dPass f m (7 + m) := congrArg _ c
      rw [this, xm]; exact xv
    · rw [hu 7 (by decide) (by decide) (by decide) c]; exact g7
  have x8 : xun (dPass f m 8) ≤ 2 := by
    by_cases c : 8 = 7 + m
    · have : dPass f m 8 = dPass f m (7 + m) := congrArg _ c
      rw [this, xm]; exact xv
    · rw [hu 8 (by decide) (by decide) (by decide) c]; exact g8
  refine ⟨by rw [hu 0 (by decide) (by decide) (by decide) (by omega)]; exact g0, by rw [hu 0 (by decide) (by decide) (by decide) (by omega)]; exact g1, by rw [hu 1 (by decide) (by decide) (by decide) (by omega)]; exact g2, by rw [hu 2 (by decide) (by decide) (by decide) (by omega)]; exact g3, by rw [x3]; exact one_sub g4, by rw [x4]; decide, by rw [hu 5 (by decide) (by decide) (by decide) (by omega)]; exact g6, x7, x8, fun q hq4 => ?_, fun k hk => by rw [hu k (by omega) (by omega) (by omega) (by omega)]; exact gz k hk⟩
  rw [hu 2 (by decide) (by decide) (by decide) (by omega), hu (11 + 4 * q) (by omega) (by omega) (by omega) (by omega), hu (12 + 4 * q) (by omega) (by omega) (by omega) (by omega), hu (13 + 4 * q) (by omega) (by omega) (by omega) (by omega), hu (14 + 4 * q) (by omega) (by omega) (by omega) (by omega)]
  exact gp q hq4
end KP
