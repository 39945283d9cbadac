/-! THE REFERENCE's answers, and the questions on the best play -/
section RA
def ownN (f : Nat → Int32) : Nat := xun (f (7 + xun (f 3)))
def othN (f : Nat → Int32) : Nat := xun (f (8 - xun (f 3)))
theorem own_lt {f : Nat → Int32} (h : gok f) : ownN f < 3 ∧ othN f < 3 ∧ xun (f 4) < 2 := by
  obtain ⟨m, hm1, _, um⟩ := gok_mover h
  have h7 := h.2.2.2.2.2.2.2.1
  have h8 := h.2.2.2.2.2.2.2.2.1
  have h4 := h.2.2.2.2.2.1
  unfold ownN othN
  rw [um]
  match m, hm1 with
  | 0, _ => exact ⟨Nat.lt_succ_of_le h7, Nat.lt_succ_of_le h8, Nat.lt_succ_of_le h4⟩
  | 1, _ => exact ⟨Nat.lt_succ_of_le h8, Nat.lt_succ_of_le h7, Nat.lt_succ_of_le h4⟩
theorem q_ownN {f : Nat → Int32} {X : XM} (hx : X 23 = f) (h : gok f) : fX9_own X = some (nI (ownN f), X) := by
  subst hx
  obtain ⟨m, hm1, em, um⟩ := gok_mover h
  rw [q_own em hm1]
  unfold ownN
  rw [um, nI_xun]
theorem q_othN {f : Nat → Int32} {X : XM} (hx : X 23 = f) (h : gok f) : fX9_others X = some (nI (othN f), X) := by
  subst hx
  obtain ⟨m, hm1, em, um⟩ := gok_mover h
  rw [q_others em hm1]
  unfold othN
  rw [um, nI_xun]
theorem q_codeN {f : Nat → Int32} {X : XM} (hx : X 23 = f) : fX9_code X = some (nI (gcode f), X) := by
  subst hx
  exact q_code
def ixN (f : Nat → Int32) : Nat := gix (gcode f) (ownN f) (othN f) (xun (f 4))
theorem ix_lt {f : Nat → Int32} (h : gok f) : ixN f < 23328 := gix_lt (gcode_lt h) (own_lt h).1 (own_lt h).2.1 (own_lt h).2.2
theorem ix_bl {f : Nat → Int32} (h : gok f) : blB f (gcode f) = true := blB_all.2 fun q hq => by rw [gcode_dig h hq]; exact Nat.le_refl _
theorem ix_vals {f : Nat → Int32} (h : gok f) {X : XM} (hT : TBA f X) : X 29 (ixN f) = Vs f (sptN f) ∧ X 30 (ixN f) = bI (Ws f (sptN f)) := by
  obtain ⟨o1, o2, o3⟩ := own_lt h
  obtain ⟨e1, e2, e3, e4⟩ := gix_parts (c := gcode f) o1 o2 o3
  have key := hT (ixN f) (ix_lt h) (by show blB f (gix _ _ _ _ / 18) = true; rw [e1]; exact ix_bl h)
  obtain ⟨_, s1, s2, s3, s4⟩ := spt_parts h
  have ev : Vi f (ixN f) = Vs f (sptN f) := by
    unfold Vs
    rw [s1, s2, s3, s4]
    exact Vi_gix o1 o2 o3
  have ew : Wi f (ixN f) = Ws f (sptN f) := by
    unfold Ws
    rw [s1, s2, s3, s4]
    exact Wi_gix o1 o2 o3
  rw [← ev, ← ew]
  exact key
theorem cn_now {f : Nat → Int32} (h : gok f) {mv : Nat} : cnB f (sptN f) mv = canN (xun (f 0)) (gcode f) (ownN f) (xun (f 4)) mv := by
  obtain ⟨_, s1, s2, s3, s4⟩ := spt_parts h
  unfold cnB
  rw [s1, s2, s3]
  rfl
theorem mw_now {f : Nat → Int32} (h : gok f) {mv : Nat} : mwV f (sptN f) mv = mvV f (VV f 25) (gcode f) (ownN f) (othN f) mv ∧ mwW f (sptN f) mv = mvW f (WW f 25) (gcode f) (ownN f) (othN f) mv := by
  obtain ⟨_, s1, s2, s3, s4⟩ := spt_parts h
  unfold mwV mwW
  rw [s1, s3, s4]
  exact ⟨rfl, rfl⟩
theorem gm_bit {f : Nat → Int32} (h : gok f) (h5 : f 5 = 0) {mv : Nat} (hm : mv < 21) : (gmoves f).testBit mv = cnB f (sptN f) mv := by rw [← cn_spt h h5, cn_bit hm]
theorem tb_now {f : Nat → Int32} (h : gok f) {X : XM} (hT : TBA f X) {mv : Nat} (hm : mv < 21) (hc : canN (xun (f 0)) (gcode f) (ownN f) (xun (f 4)) mv = true) : TBm f (gcode f) (ownN f) (othN f) mv X := by
  obtain ⟨o1, o2, o3⟩ := own_lt h
  exact TB_m (P := ownN f + othN f) (fun i hi hb _ => hT i hi hb) (gcode_lt h) (ix_bl h) o1 o2 rfl hm hc
theorem q_bit {X : XM} {n k : Nat} (hn : n < 2 ^ 31) (hk : k < 31) : (o_shr (nI n) (nI k)) &&& 1 = bI (n.testBit k) := by
  have hs : o_shr (nI n) (nI k) = nI (n / 2 ^ k) := pk_shrN hn _ k (s_l2 k (by omega))
  have h1 : nI (n / 2 ^ k) &&& 1 = nI (n / 2 ^ k % 2) := fa_mask (n / 2 ^ k) 1
  rw [hs, h1, Nat.testBit_eq_decide_div_mod_eq]
  by_cases c : n / 2 ^ k % 2 = 1
  · rw [c]
    rfl
  · have h0 : n / 2 ^ k % 2 = 0 := by omega
    rw [h0]
    rfl
theorem q_best_19 {f : Nat → Int32} (h : gok f) (h5 : f 5 = 0) {X : XM} (hx : X 23 = f) (hT : TBA f X) : ∀ (n i : Nat), i ≤ 21 → 21 < i + n →
    fX9_bestMove_19 n (nI (gmoves f)) (nI (gcode f)) (bsI (cnB f (sptN f)) (mwV f (sptN f)) i) (mxI (cnB f (sptN f)) (mwV f (sptN f)) 0 i) (nI i) X = some (bsI (cnB f (sptN f)) (mwV f (sptN f)) 21, X) := by
  obtain ⟨o1, o2, o3⟩ := own_lt h
  have hl := gmoves_lt h
  intro n
  induction n with
  | zero => intro i h1 h2; omega
  | succ n ih =>
    intro i h1 h2
    rw [fX9_bestMove_19]
    by_cases ci : i = 21
    · subst ci
      rw [if_pos (show (21 : Int32) ≤ nI 21 by decide)]
    · have hi : i < 21 := by omega
      have st := ih (i + 1) (by omega) (by omega)
      rw [← nI_1] at st
      rw [if_neg (i21n hi), q_bit (X := X) (by omega) (by omega), gm_bit h h5 hi]
      cases hc : cnB f (sptN f) i
      · rw [if_neg (show ¬ bI false = 1 by decide)]
        have e2 : bsI (cnB f (sptN f)) (mwV f (sptN f)) (i + 1) = bsI (cnB f (sptN f)) (mwV f (sptN f)) i := by
          show (if cnB f (sptN f) i = true then _ else _) = _
          rw [if_neg (by rw [hc]; decide)]
        have e3 : mxI (cnB f (sptN f)) (mwV f (sptN f)) 0 (i + 1) = mxI (cnB f (sptN f)) (mwV f (sptN f)) 0 i := by
          show (if cnB f (sptN f) i = true then _ else _) = _
          rw [if_neg (by rw [hc]; decide)]
        rw [e2, e3] at st
        exact st
      · have hc' : canN (xun (f 0)) (gcode f) (ownN f) (xun (f 4)) i = true := by rw [← cn_now h]; exact hc
        rw [if_pos (show bI true = 1 from rfl), q_ownN hx h, zi_ok, q_othN hx h, zi_ok, q_worth hx (gcode_lt h) o1 o2 hi hc' (tb_now h hT hi hc'), zi_ok, ← (mw_now h).1]
        have e2 : bsI (cnB f (sptN f)) (mwV f (sptN f)) (i + 1) = if anB (cnB f (sptN f)) i = true then (if mwV f (sptN f) i ≤ mxI (cnB f (sptN f)) (mwV f (sptN f)) 0 i then bsI (cnB f (sptN f)) (mwV f (sptN f)) i else nI i) else nI i := by
          show (if cnB f (sptN f) i = true then _ else _) = _
          rw [if_pos hc]
        have e3 : mxI (cnB f (sptN f)) (mwV f (sptN f)) 0 (i + 1) = if anB (cnB f (sptN f)) i = true then o_max (mxI (cnB f (sptN f)) (mwV f (sptN f)) 0 i) (mwV f (sptN f) i) else mwV f (sptN f) i := by
          show (if cnB f (sptN f) i = true then _ else _) = _
          rw [if_pos hc]
        rw [e2, e3] at st
        rcases bsI_in (cnB f (sptN f)) (mwV f (sptN f)) i with ⟨a1, a2⟩ | ⟨a1, k, hk, hpk, ek⟩
        · rw [if_pos a2]
          rw [a1, if_neg Bool.false_ne_true, if_neg Bool.false_ne_true] at st
          exact st
        · have n6 : ∀ k, k < 21 → ¬ nI k = (-6 : Int32) := by decide
          rw [if_neg (by rw [ek]; exact n6 k (by omega))]
          rw [if_pos a1, if_pos a1] at st
          by_cases g : mwV f (sptN f) i ≤ mxI (cnB f (sptN f)) (mwV f (sptN f)) 0 i
          · rw [if_pos g]
            rw [if_pos g, show o_max (mxI (cnB f (sptN f)) (mwV f (sptN f)) 0 i) (mwV f (sptN f) i) = mxI (cnB f (sptN f)) (mwV f (sptN f)) 0 i from if_neg (Int32.not_lt.2 g)] at st
            exact st
          · rw [if_neg g]
            rw [if_neg g, show o_max (mxI (cnB f (sptN f)) (mwV f (sptN f)) 0 i) (mwV f (sptN f) i) = mwV f (sptN f) i from if_pos (Int32.not_le.1 g)] at st
            exact st
theorem q_bestMove {f : Nat → Int32} (h : gok f) (h5 : f 5 = 0) {X : XM} (hx : X 23 = f) (hT : TBA f X) : fX9_bestMove X = some (bsI (cnB f (sptN f)) (mwV f (sptN f)) 21, X) := by
  unfold fX9_bestMove
  rw [q_movesNow (by rw [hx]; exact h), zi_ok, q_codeN hx, zi_ok, hx]
  exact q_best_19 h h5 hx hT fuel 0 (by decide) (by have := fuel_ge; omega)
theorem q_win_25 {f : Nat → Int32} (h : gok f) (h5 : f 5 = 0) {X : XM} (hx : X 23 = f) (hT : TBA f X) : ∀ (n i : Nat), i ≤ 21 → 21 < i + n →
    fX9_winning_25 n (nI (gmoves f)) (nI (bsum (wpB f (sptN f)) i)) (nI i) X = some (nI (bsum (wpB f (sptN f)) 21), X) := by
  obtain ⟨o1, o2, o3⟩ := own_lt h
  have hl := gmoves_lt h
  have or0 : ∀ a : Nat, nI a ||| 0 = nI a := fun a => by rw [show (0 : Int32) = nI 0 from rfl, fa_or, Nat.or_zero]
  intro n
  induction n with
  | zero => intro i h1 h2; omega
  | succ n ih =>
    intro i h1 h2
    rw [fX9_winning_25]
    by_cases ci : i = 21
    · subst ci
      rw [if_pos (show (21 : Int32) ≤ nI 21 by decide)]
    · have hi : i < 21 := by omega
      have hb := bsum_lt (wpB f (sptN f)) i
      have st := ih (i + 1) (by omega) (by omega)
      have eb : bsum (wpB f (sptN f)) (i + 1) = bsum (wpB f (sptN f)) i + (wpB f (sptN f) i).toNat * 2 ^ i := rfl
      rw [← nI_1, eb] at st
      rw [if_neg (i21n hi), q_bit (X := X) (by omega) (by omega), gm_bit h h5 hi]
      cases hc : cnB f (sptN f) i
      · have ew : wpB f (sptN f) i = false := by unfold wpB; rw [hc, Bool.false_and]
        rw [ew, show (false : Bool).toNat * 2 ^ i = 0 from Nat.zero_mul _, Nat.add_zero] at st
        rw [if_neg (show ¬ bI false = 1 by decide), zl_ok, or0]
        exact st
      · have hc' : canN (xun (f 0)) (gcode f) (ownN f) (xun (f 4)) i = true := by rw [← cn_now h]; exact hc
        have ew : wpB f (sptN f) i = mwW f (sptN f) i := by unfold wpB; rw [hc, Bool.true_and]
        rw [if_pos (show bI true = 1 from rfl), q_codeN hx, zi_ok, q_ownN hx h, zi_ok, q_othN hx h, zi_ok, q_wins hx (gcode_lt h) o1 o2 hi hc' (tb_now h hT hi hc'), zi_ok, ← (mw_now h).2]
        rw [ew] at st
        cases hw : mwW f (sptN f) i
        · rw [hw, show (false : Bool).toNat * 2 ^ i = 0 from Nat.zero_mul _, Nat.add_zero] at st
          rw [if_pos (show bI false = 0 from rfl), zl_ok, or0]
          exact st
        · rw [hw, show (true : Bool).toNat * 2 ^ i = 2 ^ i from Nat.one_mul _] at st
          rw [if_neg (show ¬ bI true = 0 by decide), zl_ok, shl1 i (by omega), or_sum (b := 1) hb (Nat.mul_one _).symm]
          exact st
def K89 (X Y : XM) : Prop := ∀ r, r = 18 ∨ r = 19 → Y r = X r
/-- a question on the best play: what is the same for all four -/
theorem ask_pair {X : XM} (I : Base X) (S : SIn X) {g1 g2 : XM → Option (Int32 × XM)} {g3 : XM → Option (Int32 × XM)} {r : Int32}
    (hg : gmoves (X 0) ≠ 0 → X 0 5 = 0 → ∃ Y, g1 X = some (r, Y) ∧ SIn Y ∧ ∀ r, r ≠ 13 → r ≠ 14 → r ≠ 15 → r ≠ 17 → Y r = X r)
    (hq : gmoves (X 0) ≠ 0 → X 0 5 = 0 → ∀ Z : XM, Z 23 = X 0 → TBA (X 0) Z → g3 Z = some (r, Z))
    (h2 : ∀ Y : XM, Y 23 = X 0 → g2 Y = if gmoves (X 0) = 0 then some (-5, srw Y 22 (upd (Y 22) 0 0)) else zv (fX9_reckonsAll (srw Y 22 (upd (Y 22) 0 0))) g3) :
    ∃ r X1 X2, (if gmoves (X 0) = 0 then some ((-5 : Int32), X) else g1 X) = some (r, X1) ∧ g2 X1 = some (r, X2) ∧ Base X2 ∧ SIn X2 ∧ K89 X X2 := by
  by_cases c : gmoves (X 0) = 0
  · refine ⟨-5, X, _, if_pos c, (h2 X I.same).trans (if_pos c), (base_ask I).1, ?_, fun r hr => srw_n (by omega)⟩
    obtain ⟨s1, s2, s3⟩ := S
    refine ⟨s1, s2, ?_⟩
    rcases s3 with q | ⟨f, a, b, d⟩
    · exact Or.inl q
    · exact Or.inr ⟨f, a, b, SV_cong d (fun r h1 h2 => srw_n (by omega))⟩
  · have h5 : X 0 5 = 0 := Classical.byContradiction fun q => c (by unfold gmoves; rw [if_neg q])
    obtain ⟨Y, y1, y2, y3⟩ := hg c h5
    have y23 : srw Y 22 (upd (Y 22) 0 0) 23 = X 0 := by rw [srw_n (by decide), y3 23 (by decide) (by decide) (by decide) (by decide), I.same]
    obtain ⟨Z, z1, z2, z3⟩ := q_reckonsAll I.g0 y23
    have z23 : Z 23 = X 0 := by rw [z3 23 (by decide) (by decide), y23]
    have zr : ∀ r, r ≠ 22 → r ≠ 29 → r ≠ 30 → Z r = Y r := fun r a b d => by rw [z3 r b d, srw_n a]
    refine ⟨r, Y, Z, (if_neg c).trans y1, ?_, base_aux I (fun r a b => ?_) ?_ ?_, ?_, fun r hr => ?_⟩
    · rw [h2 Y (by rw [y3 23 (by decide) (by decide) (by decide) (by decide), I.same]), if_neg c, z1, zv_ok]
      exact hq c h5 Z z23 z2
    · by_cases e : r = 29 ∨ r = 30
      · omega
      · rw [zr r a (by omega) (by omega), y3 r (by omega) (by omega) (by omega) (by omega)]
    · rw [z3 22 (by decide) (by decide), srw_s, y3 22 (by decide) (by decide) (by decide) (by decide)]; rfl
    · rw [z3 22 (by decide) (by decide), srw_s, y3 22 (by decide) (by decide) (by decide) (by decide)]; rfl
    · obtain ⟨s1, s2, s3⟩ := y2
      refine ⟨by rw [zr 16 (by decide) (by decide) (by decide)]; exact s1, by rw [zr 17 (by decide) (by decide) (by decide)]; exact s2, ?_⟩
      rw [zr 13 (by decide) (by decide) (by decide)]
      rcases s3 with q | ⟨f, a, b, d⟩
      · exact Or.inl q
      · exact Or.inr ⟨f, a, b, SV_cong d (fun r h1 h2 => zr r (by omega) (by omega) (by omega))⟩
    · rw [zr r (by omega) (by omega) (by omega), y3 r (by omega) (by omega) (by omega) (by omega)]
theorem op_won {X : XM} (I : Base X) (S : SIn X) : ∃ r X1 X2, fX8_won X = some (r, X1) ∧ fX9_won X1 = some (r, X2) ∧ Base X2 ∧ SIn X2 ∧ K89 X X2 := by
  have e1 : fX8_won X = if gmoves (X 0) = 0 then some ((-5 : Int32), X) else zi (fX7_isWon 0 X) (fun r_6 X_5 => if r_6 = 0 then some (0, X_5) else some (1, X_5)) := by
    unfold fX8_won
    rw [f_isOver I.g0, zi_ok]
    by_cases c : gmoves (X 0) = 0
    · rw [if_pos c, if_neg i10, if_pos c]
    · rw [if_neg c, if_pos rfl, if_neg c]
  rw [e1]
  refine ask_pair I S (g1 := fun X => zi (fX7_isWon 0 X) (fun r_6 X_5 => if r_6 = 0 then some (0, X_5) else some (1, X_5))) (g3 := fun X_3 => zi (fX9_code X_3) (fun r_10 X_9 => zi (fX9_own X_9) (fun r_13 X_12 => zi (fX9_others X_12) (fun r_16 X_15 => zi (fX9_game r_10 r_13 r_16 (X_15 23 4) X_15) (fun r_19 X_18 => zd r_19 23328 (if (X_18 30 (Int32.toNatClampNeg r_19)) = 0 then some (0, X_18) else some (1, X_18))))))) (r := bI (Ws (X 0) (sptN (X 0)))) (fun _ _ => ?_) (fun _ _ Z hz hT => ?_) (fun Y hy => ?_)
  · obtain ⟨Y, y1, y2, y3⟩ := f_isWon rfl I.g0 S
    refine ⟨Y, ?_, y2, y3⟩
    show zi (fX7_isWon 0 X) _ = _
    rw [y1, zi_ok]
    cases Ws (X 0) (sptN (X 0)) <;> rfl
  · show zi (fX9_code Z) _ = _
    have e4 : Z 23 4 = nI (xun (X 0 4)) := by rw [hz, nI_xun]
    rw [q_codeN hz, zi_ok, q_ownN hz I.g0, zi_ok, q_othN hz I.g0, zi_ok, e4, q_game, zi_ok]
    rw [show gix (gcode (X 0)) (ownN (X 0)) (othN (X 0)) (xun (X 0 4)) = ixN (X 0) from rfl, zd_ok (vp_in_nI (ix_lt I.g0) (by decide)), nI_clampN (by have := ix_lt I.g0; omega), (ix_vals I.g0 hT).2]
    cases Ws (X 0) (sptN (X 0)) <;> rfl
  · have hy2 : srw Y 22 (upd (Y 22) 0 0) 23 = X 0 := by rw [srw_n (by decide), hy]
    unfold fX9_won
    rw [zl_ok, xup_eq, q_isOver (by rw [hy2]; exact I.g0), zi_ok, hy2]
    by_cases c : gmoves (X 0) = 0
    · rw [if_pos c, if_neg i10, if_pos c]
    · rw [if_neg c, if_pos rfl, if_neg c]
theorem op_value {X : XM} (I : Base X) (S : SIn X) : ∃ r X1 X2, fX8_value X = some (r, X1) ∧ fX9_value X1 = some (r, X2) ∧ Base X2 ∧ SIn X2 ∧ K89 X X2 := by
  have e1 : fX8_value X = if gmoves (X 0) = 0 then some ((-5 : Int32), X) else zi (fX7_difference 0 X) (fun r_6 X_5 => some (r_6 + 1000, X_5)) := by
    unfold fX8_value
    rw [f_isOver I.g0, zi_ok]
    by_cases c : gmoves (X 0) = 0
    · rw [if_pos c, if_neg i10, if_pos c]
    · rw [if_neg c, if_pos rfl, if_neg c]
  rw [e1]
  refine ask_pair I S (g1 := fun X => zi (fX7_difference 0 X) (fun r_6 X_5 => some (r_6 + 1000, X_5))) (g3 := fun X_3 => zi (fX9_code X_3) (fun r_10 X_9 => zi (fX9_own X_9) (fun r_13 X_12 => zi (fX9_others X_12) (fun r_16 X_15 => zi (fX9_game r_10 r_13 r_16 (X_15 23 4) X_15) (fun r_19 X_18 => zd r_19 23328 (some ((X_18 29 (Int32.toNatClampNeg r_19)) + 1000, X_18))))))) (r := Vs (X 0) (sptN (X 0)) + 1000) (fun _ _ => ?_) (fun _ _ Z hz hT => ?_) (fun Y hy => ?_)
  · obtain ⟨Y, y1, y2, y3⟩ := f_difference rfl I.g0 S
    refine ⟨Y, ?_, y2, y3⟩
    show zi (fX7_difference 0 X) _ = _
    rw [y1, zi_ok]
  · show zi (fX9_code Z) _ = _
    have e4 : Z 23 4 = nI (xun (X 0 4)) := by rw [hz, nI_xun]
    rw [q_codeN hz, zi_ok, q_ownN hz I.g0, zi_ok, q_othN hz I.g0, zi_ok, e4, q_game, zi_ok]
    rw [show gix (gcode (X 0)) (ownN (X 0)) (othN (X 0)) (xun (X 0 4)) = ixN (X 0) from rfl, zd_ok (vp_in_nI (ix_lt I.g0) (by decide)), nI_clampN (by have := ix_lt I.g0; omega), (ix_vals I.g0 hT).1]
  · have hy2 : srw Y 22 (upd (Y 22) 0 0) 23 = X 0 := by rw [srw_n (by decide), hy]
    unfold fX9_value
    rw [zl_ok, xup_eq, q_isOver (by rw [hy2]; exact I.g0), zi_ok, hy2]
    by_cases c : gmoves (X 0) = 0
    · rw [if_pos c, if_neg i10, if_pos c]
    · rw [if_neg c, if_pos rfl, if_neg c]
theorem op_best {X : XM} (I : Base X) (S : SIn X) : ∃ r X1 X2, fX8_best X = some (r, X1) ∧ fX9_best X1 = some (r, X2) ∧ Base X2 ∧ SIn X2 ∧ K89 X X2 := by
  have e1 : fX8_best X = if gmoves (X 0) = 0 then some ((-5 : Int32), X) else zi (fX7_bestMove 0 X) (fun r_6 X_5 => some (r_6, X_5)) := by
    unfold fX8_best
    rw [f_isOver I.g0, zi_ok]
    by_cases c : gmoves (X 0) = 0
    · rw [if_pos c, if_neg i10, if_pos c]
    · rw [if_neg c, if_pos rfl, if_neg c]
  rw [e1]
  refine ask_pair I S (g1 := fun X => zi (fX7_bestMove 0 X) (fun r_6 X_5 => some (r_6, X_5))) (g3 := fun X_7 => zi (fX9_bestMove X_7) (fun r_10 X_9 => some (r_10, X_9))) (r := bsI (cnB (X 0) (sptN (X 0))) (mwV (X 0) (sptN (X 0))) 21) (fun _ _ => ?_) (fun _ h5 Z hz hT => ?_) (fun Y hy => ?_)
  · obtain ⟨Y, y1, y2, y3⟩ := f_bestMove rfl I.g0 S
    refine ⟨Y, ?_, y2, y3⟩
    show zi (fX7_bestMove 0 X) _ = _
    rw [y1, zi_ok]
  · show zi (fX9_bestMove Z) _ = _
    rw [q_bestMove I.g0 h5 hz hT, zi_ok]
  · have hy2 : srw Y 22 (upd (Y 22) 0 0) 23 = X 0 := by rw [srw_n (by decide), hy]
    unfold fX9_best
    rw [zl_ok, xup_eq, q_isOver (by rw [hy2]; exact I.g0), zi_ok, hy2]
    by_cases c : gmoves (X 0) = 0
    · rw [if_pos c, if_neg i10, if_pos c]
    · rw [if_neg c, if_pos rfl, if_neg c]
theorem op_winning {X : XM} (I : Base X) (S : SIn X) : ∃ r X1 X2, fX8_winning X = some (r, X1) ∧ fX9_winning X1 = some (r, X2) ∧ Base X2 ∧ SIn X2 ∧ K89 X X2 := by
  have hl := gmoves_lt I.g0
  have e1 : fX8_winning X = if gmoves (X 0) = 0 then some ((-5 : Int32), X) else zi (fX7_winningMoves 0 X) (fun r_6 X_5 => some (r_6, X_5)) := by
    unfold fX8_winning
    rw [f_isOver I.g0, zi_ok]
    by_cases c : gmoves (X 0) = 0
    · rw [if_pos c, if_neg i10, if_pos c]
    · rw [if_neg c, if_pos rfl, if_neg c]
  rw [e1]
  refine ask_pair I S (g1 := fun X => zi (fX7_winningMoves 0 X) (fun r_6 X_5 => some (r_6, X_5))) (g3 := fun X_38 => fX9_winning_25 fuel (nI (gmoves (X 0))) 0 0 X_38) (r := nI (bsum (wpB (X 0) (sptN (X 0))) 21)) (fun _ _ => ?_) (fun _ h5 Z hz hT => ?_) (fun Y hy => ?_)
  · obtain ⟨Y, y1, y2, y3⟩ := f_winning rfl I.g0 S
    refine ⟨Y, ?_, y2, y3⟩
    show zi (fX7_winningMoves 0 X) _ = _
    rw [y1, zi_ok]
  · exact q_win_25 I.g0 h5 hz hT fuel 0 (by decide) (by have := fuel_ge; omega)
  · have hy2 : srw Y 22 (upd (Y 22) 0 0) 23 = X 0 := by rw [srw_n (by decide), hy]
    unfold fX9_winning
    rw [zl_ok, xup_eq, q_movesNow (by rw [hy2]; exact I.g0), zi_ok, hy2]
    by_cases c : gmoves (X 0) = 0
    · rw [if_pos c, if_pos (by rw [c]; rfl)]
    · rw [if_neg c, if_neg (fun q => c ((nI_z (by omega)).mp q))]
end RA
