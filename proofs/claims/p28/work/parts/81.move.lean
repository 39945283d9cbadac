/-! ONE MOVE, in the game and in the reference -/
section OV
def dMv (f : Nat → Int32) (mv : Nat) : Nat → Int32 := if mv = 20 then dPass f (xun (f 3)) else dTake f (xun (f 3)) (mv / 5) (mv % 5 + 1)
theorem mv_take {f : Nat → Int32} (h : gok f) {mv : Nat} (hm : mv < 20) (hb : (gmoves f).testBit mv = true) : f 5 = 0 ∧ mv % 5 + 1 ≤ gT f (mv / 5) := by
  have e : mv = 5 * (mv / 5) + (mv % 5 + 1 - 1) := by omega
  rw [e] at hb
  have := (take_bit h (p := mv / 5) (t := mv % 5 + 1) (by omega) (by omega) (by omega)).1 hb
  exact ⟨this.1, this.2.2⟩
theorem mv_pass {f : Nat → Int32} (h : gok f) (hb : (gmoves f).testBit 20 = true) : f 5 = 0 ∧ 0 < xun (f (7 + xun (f 3))) := by
  have c5 : f 5 = 0 := by
    refine Classical.byContradiction fun q => ?_
    have e : gmoves f = 0 := by unfold gmoves; rw [if_neg q]
    rw [e, Nat.zero_testBit] at hb
    exact absurd hb (by decide)
  refine ⟨c5, ?_⟩
  rw [gmoves_bit h c5 (by decide)] at hb
  exact (can_pass hb).1
theorem gok_dMv {f : Nat → Int32} (h : gok f) {mv : Nat} (hm : mv < 21) (hb : (gmoves f).testBit mv = true) : gok (dMv f mv) := by
  obtain ⟨m, hm1, _, um⟩ := gok_mover h
  unfold dMv
  rw [um]
  by_cases e : mv = 20
  · rw [if_pos e]
    rw [e] at hb
    have := (mv_pass h hb).2
    rw [um] at this
    exact gok_dPass h hm1 this
  · rw [if_neg e]
    exact gok_dTake h hm1 (by omega) (mv_take h (by omega) hb).2 (by omega)
theorem f_make {f : Nat → Int32} {X : XM} {g : Nat} (h0 : X g = f) (h : gok f) {mv : Nat} (hm : mv < 21) (hb : (gmoves f).testBit mv = true) : fX0_make g (nI mv) X = some (srw X g (dMv f mv)) := by
  subst h0
  obtain ⟨m, hm1, em, um⟩ := gok_mover h
  unfold fX0_make dMv
  rw [f_allows h rfl (by omega), zi_ok, if_pos hb, if_neg i10, um]
  by_cases e : mv = 20
  · subst e
    rw [if_pos (show nI 20 = (20 : Int32) from rfl), if_pos rfl, f_usePass h em hm1, zi_ok]
  · rw [if_neg (n20 (by omega)), if_neg e, f_takeFrom h em hm1 (q_5 (by omega)).1 (q_5 (by omega)).2 (by omega) (mv_take h (by omega) hb).2 (by omega), zi_ok]
theorem dMv_same {f : Nat → Int32} (h : gok f) {mv : Nat} (hm : mv < 21) : sameR f (dMv f mv) := by
  obtain ⟨m, hm1, _, um⟩ := gok_mover h
  unfold dMv
  rw [um]
  by_cases e : mv = 20
  · rw [if_pos e]
    have u : ∀ k, k ≠ 3 → k ≠ 4 → k ≠ 5 → k ≠ 6 → k ≠ 7 + m → dPass f m k = f k := fun k a b c d g => by
      unfold dPass
      rw [if_neg a, if_neg b, if_neg c, if_neg d, if_neg g]
    exact ⟨(u 0 (by omega) (by omega) (by omega) (by omega) (by omega)).symm, (u 1 (by omega) (by omega) (by omega) (by omega) (by omega)).symm, fun p hp => ⟨(u _ (by omega) (by omega) (by omega) (by omega) (by omega)).symm, (u _ (by omega) (by omega) (by omega) (by omega) (by omega)).symm⟩⟩
  · rw [if_neg e]
    have hp4 : mv / 5 < 4 := by omega
    generalize mv / 5 = q at *
    have u : ∀ k, k ≠ 3 → k ≠ 4 → k ≠ 5 → k ≠ 6 → k ≠ 9 + m → k ≠ 11 + 4 * q → dTake f m q (mv % 5 + 1) k = f k := fun k a b c d g i => by
      unfold dTake
      rw [if_neg a, if_neg b, if_neg c, if_neg d, if_neg g, if_neg i]
    exact ⟨(u 0 (by omega) (by omega) (by omega) (by omega) (by omega) (by omega)).symm, (u 1 (by omega) (by omega) (by omega) (by omega) (by omega) (by omega)).symm, fun p hp => ⟨(u _ (by omega) (by omega) (by omega) (by omega) (by omega) (by omega)).symm, (u _ (by omega) (by omega) (by omega) (by omega) (by omega) (by omega)).symm⟩⟩
theorem dMv_gT {f : Nat → Int32} (h : gok f) {mv : Nat} (hm : mv < 21) (hb : (gmoves f).testBit mv = true) {q : Nat} (hq : q < 4) : gT (dMv f mv) q = if mv ≠ 20 ∧ q = mv / 5 then gT f q - (mv % 5 + 1) else gT f q := by
  obtain ⟨m, hm1, _, um⟩ := gok_mover h
  have h5 := gT_le h hq
  unfold dMv
  rw [um]
  by_cases e : mv = 20
  · rw [if_pos e, if_neg (fun w => w.1 e)]
    unfold gT dPass
    rw [if_neg (by omega), if_neg (by omega), if_neg (by omega), if_neg (by omega), if_neg (by omega)]
  · have ht := (mv_take h (by omega) hb).2
    rw [if_neg e]
    by_cases eq : q = mv / 5
    · subst eq
      rw [if_pos ⟨e, rfl⟩]
      have e1 : dTake f m (mv / 5) (mv % 5 + 1) (11 + 4 * (mv / 5)) = f (11 + 4 * (mv / 5)) - nI (mv % 5 + 1) := by
        unfold dTake
        rw [if_neg (by omega), if_neg (by omega), if_neg (by omega), if_neg (by omega), if_neg (by omega), if_pos rfl]
      have e2 : f (11 + 4 * (mv / 5)) = nI (gT f (mv / 5)) := (nI_xun _).symm
      show xun _ = _
      rw [e1, e2, pk_sub ht, xun_nI (by omega)]
    · rw [if_neg (fun w => eq w.2)]
      unfold gT dTake
      rw [if_neg (by omega), if_neg (by omega), if_neg (by omega), if_neg (by omega), if_neg (by omega), if_neg (by omega)]
theorem dMv_le {f : Nat → Int32} (h : gok f) {mv : Nat} (hm : mv < 21) (hb : (gmoves f).testBit mv = true) {q : Nat} (hq : q < 4) : gT (dMv f mv) q ≤ gT f q := by
  rw [dMv_gT h hm hb hq]
  split <;> omega
/-- how much is left of a game -/
def muN (f : Nat → Int32) : Nat := gsum f + xun (f 7) + xun (f 8)
theorem muN_le {f : Nat → Int32} (h : gok f) : muN f ≤ 24 := by
  have t0 := gT_le h (p := 0) (by decide)
  have t1 := gT_le h (p := 1) (by decide)
  have t2 := gT_le h (p := 2) (by decide)
  have t3 := gT_le h (p := 3) (by decide)
  have h7 := h.2.2.2.2.2.2.2.1
  have h8 := h.2.2.2.2.2.2.2.2.1
  unfold muN gsum
  omega
theorem dMv_mu {f : Nat → Int32} (h : gok f) {mv : Nat} (hm : mv < 21) (hb : (gmoves f).testBit mv = true) : muN (dMv f mv) < muN f := by
  have d0 := dMv_gT h hm hb (q := 0) (by decide)
  have d1 := dMv_gT h hm hb (q := 1) (by decide)
  have d2 := dMv_gT h hm hb (q := 2) (by decide)
  have d3 := dMv_gT h hm hb (q := 3) (by decide)
  obtain ⟨m, hm1, _, um⟩ := gok_mover h
  unfold muN gsum
  rw [d0, d1, d2, d3]
  by_cases e : mv = 20
  · have hp : 0 < xun (f (7 + m)) := by
      rw [e] at hb
      have := (mv_pass h hb).2
      rw [um] at this
      exact this
    have e1 : ∀ k, k ≠ 3 → k ≠ 4 → k ≠ 5 → k ≠ 6 → dMv f mv k = if k = 7 + m then f k - 1 else f k := fun k a b c d => by
      unfold dMv
      rw [if_pos e, um]
      unfold dPass
      rw [if_neg a, if_neg b, if_neg c, if_neg d]
    have ev : xun (f (7 + m) - 1) = xun (f (7 + m)) - 1 := by
      have e2 : f (7 + m) - 1 = nI (xun (f (7 + m)) - 1) := by
        rw [← nI_sub hp, nI_xun]
        rfl
      rw [e2, xun_nI]
      have := (f (7 + m)).toBitVec.isLt
      have e3 : xun (f (7 + m)) = (f (7 + m)).toBitVec.toNat := rfl
      omega
    rw [if_neg (fun w => w.1 e), if_neg (fun w => w.1 e), if_neg (fun w => w.1 e), if_neg (fun w => w.1 e), e1 7 (by decide) (by decide) (by decide) (by decide), e1 8 (by decide) (by decide) (by decide) (by decide)]
    match m, hm1 with
    | 0, _ =>
      rw [if_pos rfl, if_neg (by decide)]
      have ev' : xun (f 7 - 1) = xun (f 7) - 1 := ev
      have hp' : 0 < xun (f 7) := hp
      omega
    | 1, _ =>
      rw [if_neg (by decide), if_pos rfl]
      have ev' : xun (f 8 - 1) = xun (f 8) - 1 := ev
      have hp' : 0 < xun (f 8) := hp
      omega
  · have ht := (mv_take h (by omega) hb).2
    have e1 : ∀ k, (k = 7 ∨ k = 8) → dMv f mv k = f k := fun k hk => by
      unfold dMv
      rw [if_neg e, um]
      unfold dTake
      rw [if_neg (by omega), if_neg (by omega), if_neg (by omega), if_neg (by omega), if_neg (by omega), if_neg (by omega)]
    rw [e1 7 (Or.inl rfl), e1 8 (Or.inr rfl)]
    have hp4 : mv / 5 < 4 := by omega
    generalize mv % 5 = k at *
    revert ht
    match mv / 5, hp4 with
    | 0, _ => intro ht; rw [if_pos ⟨e, rfl⟩, if_neg (by omega), if_neg (by omega), if_neg (by omega)]; omega
    | 1, _ => intro ht; rw [if_neg (by omega), if_pos ⟨e, rfl⟩, if_neg (by omega), if_neg (by omega)]; omega
    | 2, _ => intro ht; rw [if_neg (by omega), if_neg (by omega), if_pos ⟨e, rfl⟩, if_neg (by omega)]; omega
    | 3, _ => intro ht; rw [if_neg (by omega), if_neg (by omega), if_neg (by omega), if_pos ⟨e, rfl⟩]; omega
end OV
