/-! THE SOLVER's answers -/
section SA
theorem SIn_of {f : Nat → Int32} {X : XM} (hf : gok f) (h : SV f X) (h3 : X 13 3 = nI (enN f 4)) : SIn X := ⟨h.1.2.2.2.1, h.1.2.2.2.2 20 (by decide), Or.inr ⟨f, hf, h3, h⟩⟩
theorem f_isWon {f : Nat → Int32} {X : XM} (h0 : X 0 = f) (hf : gok f) (hI : SIn X) : ∃ Y, fX7_isWon 0 X = some (bI (Ws f (sptN f)), Y) ∧ SIn Y ∧ ∀ r, r ≠ 13 → r ≠ 14 → r ≠ 15 → r ≠ 17 → Y r = X r := by
  obtain ⟨Y, y1, y2, y3, y4⟩ := f_spotOf h0 hf hI
  have hs := (spt_parts hf).1
  have hm := msN_le (sptN f)
  obtain ⟨Z, z1, z2, z3⟩ := f_wonAt hf 30 (sptN f) 0 Y hs (by omega) (by omega) y2
  refine ⟨Z, ?_, SIn_of hf z2 (by rw [z3 13 (by decide)]; exact y3), fun r a b c d => by rw [z3 r c, y4 r a b c d]⟩
  unfold fX7_isWon
  rw [y1, zi_ok, show fX7_wonAt 30 (nI (sptN f)) 0 Y = _ from z1, zi_ok]
  cases Ws f (sptN f)
  · exact zb_0
  · exact zb_1
theorem f_difference {f : Nat → Int32} {X : XM} (h0 : X 0 = f) (hf : gok f) (hI : SIn X) : ∃ Y, fX7_difference 0 X = some (Vs f (sptN f), Y) ∧ SIn Y ∧ ∀ r, r ≠ 13 → r ≠ 14 → r ≠ 15 → r ≠ 17 → Y r = X r := by
  obtain ⟨Y, y1, y2, y3, y4⟩ := f_spotOf h0 hf hI
  have hs := (spt_parts hf).1
  have hm := msN_le (sptN f)
  obtain ⟨Z, z1, z2, z3⟩ := f_valueAt hf 30 (sptN f) 0 Y hs (by omega) (by omega) y2
  refine ⟨Z, ?_, SIn_of hf z2 (by rw [z3 13 (by decide)]; exact y3), fun r a b c d => by rw [z3 r b, y4 r a b c d]⟩
  unfold fX7_difference
  rw [y1, zi_ok, show fX7_valueAt 30 (nI (sptN f)) 0 Y = _ from z1, zi_ok]
theorem f_win_31 {f : Nat → Int32} (hf : gok f) {s : Nat} (hs : s < 23328) : ∀ (n i : Nat) (X : XM), i ≤ 21 → 21 < i + n → SV f X →
    ∃ Y, fX7_winningMoves_31 n 0 (nI s) (nI (bsum (cnB f s) 21)) (nI (pmN f (s / 18) 4)) (nI (tuN s)) (nI (bsum (wpB f s) i)) (nI i) X = some (nI (bsum (wpB f s) 21), Y) ∧ SV f Y ∧ ∀ r, r ≠ 15 → Y r = X r := by
  have hm := msN_le s
  intro n
  induction n with
  | zero => intro i X h1 h2; omega
  | succ n ih =>
    intro i X h1 h2 hX
    rw [fX7_winningMoves_31]
    by_cases ci : i = 21
    · subst ci
      rw [if_pos (show (20 : Int32) < nI 21 by decide)]
      exact ⟨X, rfl, hX, fun r _ => rfl⟩
    · have hi : i < 21 := by omega
      have hl := bsum_lt (wpB f s) i
      have eb : bsum (wpB f s) (i + 1) = bsum (wpB f s) i + (wpB f s i).toNat * 2 ^ i := rfl
      rw [if_neg (i21 hi), f_isInB rfl rfl cn_bsum (by omega), zi_ok, cn_bit hi, nI_1]
      cases hc : cnB f s i
      · rw [if_pos (show bI false = 0 from rfl)]
        have ew : wpB f s i = false := by unfold wpB; rw [hc, Bool.false_and]
        have st := ih (i + 1) X (by omega) (by omega) hX
        rw [eb, ew, show (false : Bool).toNat * 2 ^ i = 0 from Nat.zero_mul _, Nat.add_zero] at st
        exact st
      · rw [if_neg (show ¬ bI true = 0 by decide), f_isInB rfl rfl pm_lt31 (by omega), zi_ok, ps_bit hi]
        obtain ⟨Y, y1, y2, y3⟩ := f_winsBy (f_wonAt hf 30) hs hi hc (e := 0) (by omega) (by omega) hX
        rw [show fX7_winsBy (fX7_wonAt 30) (nI i) (nI (tuN s)) (bI (psB f (s / 18) i)) 0 X = _ from y1, zi_ok]
        have ew : wpB f s i = mwW f s i := by unfold wpB; rw [hc, Bool.true_and]
        obtain ⟨Z, z1, z2, z3⟩ := ih (i + 1) Y (by omega) (by omega) y2
        refine ⟨Z, ?_, z2, fun r h => by rw [z3 r h, y3 r h]⟩
        rw [eb, ew] at z1
        cases hw : mwW f s i
        · rw [if_pos (show bI false = 0 from rfl)]
          rw [hw, show (false : Bool).toNat * 2 ^ i = 0 from Nat.zero_mul _, Nat.add_zero] at z1
          exact z1
        · rw [if_neg (show ¬ bI true = 0 by decide), zl_ok, shl1 i (by omega), or_sum (b := 1) hl (Nat.mul_one _).symm]
          rw [hw, show (true : Bool).toNat * 2 ^ i = 2 ^ i from Nat.one_mul _] at z1
          exact z1
theorem f_winning {f : Nat → Int32} {X : XM} (h0 : X 0 = f) (hf : gok f) (hI : SIn X) : ∃ Y, fX7_winningMoves 0 X = some (nI (bsum (wpB f (sptN f)) 21), Y) ∧ SIn Y ∧ ∀ r, r ≠ 13 → r ≠ 14 → r ≠ 15 → r ≠ 17 → Y r = X r := by
  obtain ⟨Y, y1, y2, y3, y4⟩ := f_spotOf h0 hf hI
  have htk : xun (f 0) < 32 := by have := hf.2.1; omega
  have hs := (spt_parts hf).1
  have e0 : Y 13 0 = nI (xun (f 0)) := by rw [y2.1.1, nI_xun]
  obtain ⟨Z, z1, z2, z3⟩ := f_win_31 hf hs fuel 0 Y (by decide) (by have := fuel_ge; omega) y2
  refine ⟨Z, ?_, SIn_of hf z2 (by rw [z3 13 (by decide)]; exact y3), fun r a b c d => by rw [z3 r c, y4 r a b c d]⟩
  unfold fX7_winningMoves
  rw [y1, zi_ok, f_movesAt e0 htk hs, zi_ok, f_poisonAt y2.1.2.2.1 hs, zi_ok, f_turned hs, zi_ok]
  exact z1
theorem f_best_36 {f : Nat → Int32} (hf : gok f) {s : Nat} (hs : s < 23328) : ∀ (n i : Nat) (X : XM), i ≤ 21 → 21 < i + n → SV f X →
    ∃ Y, fX7_bestMove_36 n 0 (nI s) (nI (bsum (cnB f s) 21)) (nI (pmN f (s / 18) 4)) (nI (tuN s)) (xsI f s (-100000) i) (bsI (cnB f s) (mwV f s) i) (nI i) X = some (bsI (cnB f s) (mwV f s) 21, Y) ∧ SV f Y ∧ ∀ r, r ≠ 14 → Y r = X r := by
  have hm := msN_le s
  intro n
  induction n with
  | zero => intro i X h1 h2; omega
  | succ n ih =>
    intro i X h1 h2 hX
    rw [fX7_bestMove_36]
    by_cases ci : i = 21
    · subst ci
      rw [if_pos (show (20 : Int32) < nI 21 by decide)]
      exact ⟨X, rfl, hX, fun r _ => rfl⟩
    · have hi : i < 21 := by omega
      rw [if_neg (i21 hi), f_isInB rfl rfl cn_bsum (by omega), zi_ok, cn_bit hi, nI_1]
      cases hc : cnB f s i
      · rw [if_pos (show bI false = 0 from rfl)]
        have st := ih (i + 1) X (by omega) (by omega) hX
        have e2 : bsI (cnB f s) (mwV f s) (i + 1) = bsI (cnB f s) (mwV f s) i := by
          show (if cnB f s i = true then _ else _) = _
          rw [if_neg (by rw [hc]; decide)]
        rw [xsI_skip hc, e2] at st
        exact st
      · rw [if_neg (show ¬ bI true = 0 by decide), f_isInB rfl rfl pm_lt31 (by omega), zi_ok, ps_bit hi]
        obtain ⟨Y, y1, y2, y3⟩ := f_valueBy (f_valueAt hf 30) hs hi hc (e := 0) (by omega) (by omega) hX
        rw [show fX7_valueBy (fX7_valueAt 30) (nI i) (nI (tuN s)) (bI (psB f (s / 18) i)) 0 X = _ from y1, zi_ok]
        obtain ⟨Z, z1, z2, z3⟩ := ih (i + 1) Y (by omega) (by omega) y2
        refine ⟨Z, ?_, z2, fun r h => by rw [z3 r h, y3 r h]⟩
        have e1 := xsI_step hf (z := -100000) hi (fun _ => rfl) hc
        have e2 : bsI (cnB f s) (mwV f s) (i + 1) = if anB (cnB f s) i = true then (if mwV f s i ≤ mxI (cnB f s) (mwV f s) 0 i then bsI (cnB f s) (mwV f s) i else nI i) else nI i := by
          show (if cnB f s i = true then _ else _) = _
          rw [if_pos hc]
        rw [← e1, e2] at z1
        by_cases a : anB (cnB f s) i = true
        · have ex : xsI f s (-100000) i = mxI (cnB f s) (mwV f s) 0 i := by unfold xsI; rw [if_pos a, mxI_b a]
          rw [if_pos a] at z1
          rw [ex] at z1 ⊢
          by_cases g : mwV f s i ≤ mxI (cnB f s) (mwV f s) 0 i
          · rw [if_pos g]
            rw [if_pos g, show o_max (mxI (cnB f s) (mwV f s) 0 i) (mwV f s i) = mxI (cnB f s) (mwV f s) 0 i from if_neg (Int32.not_lt.2 g)] at z1
            exact z1
          · rw [if_neg g]
            rw [if_neg g, show o_max (mxI (cnB f s) (mwV f s) 0 i) (mwV f s i) = mwV f s i from if_pos (Int32.not_le.1 g)] at z1
            exact z1
        · have ex : xsI f s (-100000) i = -100000 := by unfold xsI; rw [if_neg a]
          have lo : -100000 < mwV f s i := mvV_lo hf hi
          rw [if_neg a] at z1
          rw [ex] at z1 ⊢
          rw [if_neg (Int32.not_le.2 lo)]
          rw [show o_max (-100000) (mwV f s i) = mwV f s i from if_pos lo] at z1
          exact z1
theorem f_bestMove {f : Nat → Int32} {X : XM} (h0 : X 0 = f) (hf : gok f) (hI : SIn X) : ∃ Y, fX7_bestMove 0 X = some (bsI (cnB f (sptN f)) (mwV f (sptN f)) 21, Y) ∧ SIn Y ∧ ∀ r, r ≠ 13 → r ≠ 14 → r ≠ 15 → r ≠ 17 → Y r = X r := by
  obtain ⟨Y, y1, y2, y3, y4⟩ := f_spotOf h0 hf hI
  have htk : xun (f 0) < 32 := by have := hf.2.1; omega
  have hs := (spt_parts hf).1
  have e0 : Y 13 0 = nI (xun (f 0)) := by rw [y2.1.1, nI_xun]
  obtain ⟨Z, z1, z2, z3⟩ := f_best_36 hf hs fuel 0 Y (by decide) (by have := fuel_ge; omega) y2
  refine ⟨Z, ?_, SIn_of hf z2 (by rw [z3 13 (by decide)]; exact y3), fun r a b c d => by rw [z3 r b, y4 r a b c d]⟩
  rw [xsI_0] at z1
  unfold fX7_bestMove
  rw [y1, zi_ok, f_movesAt e0 htk hs, zi_ok, f_poisonAt y2.1.2.2.1 hs, zi_ok, f_turned hs, zi_ok]
  exact z1
end SA
