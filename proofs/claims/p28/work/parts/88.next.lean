/-! A MOVE leads to the game that the solution speaks of -/
section NX8
theorem add_sub_self (a b : Int32) : a + b - a = b := by
  rw [Int32.add_comm, Int32.add_sub_cancel]
def Vn (f : Nat → Int32) : Int32 := VV f 25 (gcode f) (xun (f 4)) (ownN f) (othN f)
def Wn (f : Nat → Int32) : Bool := WW f 25 (gcode f) (xun (f 4)) (ownN f) (othN f)
theorem Vs_now {f : Nat → Int32} (h : gok f) : Vs f (sptN f) = Vn f := by
  obtain ⟨a1, a2, a3, a4, a5⟩ := spt_parts h
  unfold Vs Vn ownN othN
  rw [a2, a3, a4, a5]
theorem Ws_now {f : Nat → Int32} (h : gok f) : Ws f (sptN f) = Wn f := by
  obtain ⟨a1, a2, a3, a4, a5⟩ := spt_parts h
  unfold Ws Wn ownN othN
  rw [a2, a3, a4, a5]
theorem mover_turn {f : Nat → Int32} (h : gok f) {m : Nat} (hm : f 3 = nI m) (hm1 : m ≤ 1) {mv : Nat} : xun (dMv f mv 3) = 1 - m := by
  have e : dMv f mv 3 = 1 - f 3 := by
    unfold dMv
    by_cases c : mv = 20
    · rw [if_pos c]; rfl
    · rw [if_neg c]; rfl
  rw [e, hm]
  match m, hm1 with
  | 0, _ => rfl
  | 1, _ => rfl
theorem dMv_flag {f : Nat → Int32} {mv : Nat} : xun (dMv f mv 4) = baN mv := by
  unfold dMv baN
  by_cases c : mv = 20
  · rw [if_pos c, if_pos c]; rfl
  · rw [if_neg c, if_neg c]; rfl
theorem dMv_code {f : Nat → Int32} (h : gok f) {mv : Nat} (hm : mv < 21) (hb : (gmoves f).testBit mv = true) : gcode (dMv f mv) = bcN (gcode f) mv := by
  have g0 := dMv_gT h hm hb (q := 0) (by decide)
  have g1 := dMv_gT h hm hb (q := 1) (by decide)
  have g2 := dMv_gT h hm hb (q := 2) (by decide)
  have g3 := dMv_gT h hm hb (q := 3) (by decide)
  unfold bcN
  by_cases c : mv = 20
  · rw [if_neg (fun q => q.1 c)] at g0 g1 g2 g3
    rw [if_pos c]
    unfold gcode
    rw [g0, g1, g2, g3]
  · have ht := (mv_take h (by omega) hb).2
    rw [if_neg c]
    unfold gcode
    rw [g0, g1, g2, g3]
    have hp : mv / 5 < 4 := by omega
    generalize mv / 5 = p at *
    generalize mv % 5 + 1 = k at *
    match p, hp, ht with
    | 0, _, ht => rw [if_pos ⟨c, rfl⟩, if_neg (fun q => absurd q.2 (by decide)), if_neg (fun q => absurd q.2 (by decide)), if_neg (fun q => absurd q.2 (by decide))]; simp only [Nat.pow_zero]; omega
    | 1, _, ht => rw [if_neg (fun q => absurd q.2 (by decide)), if_pos ⟨c, rfl⟩, if_neg (fun q => absurd q.2 (by decide)), if_neg (fun q => absurd q.2 (by decide))]; simp only [Nat.reducePow]; omega
    | 2, _, ht => rw [if_neg (fun q => absurd q.2 (by decide)), if_neg (fun q => absurd q.2 (by decide)), if_pos ⟨c, rfl⟩, if_neg (fun q => absurd q.2 (by decide))]; simp only [Nat.reducePow]; omega
    | 3, _, ht => rw [if_neg (fun q => absurd q.2 (by decide)), if_neg (fun q => absurd q.2 (by decide)), if_neg (fun q => absurd q.2 (by decide)), if_pos ⟨c, rfl⟩]; simp only [Nat.reducePow]; omega
theorem dPass_at {f : Nat → Int32} {m w : Nat} (hm : m ≤ 1) (hw : w ≤ 1) : dPass f m (7 + w) = if w = m then f (7 + w) - 1 else f (7 + w) := by
  unfold dPass
  rw [if_neg (by omega), if_neg (by omega), if_neg (by omega), if_neg (by omega)]
  by_cases c : w = m
  · rw [if_pos (by omega), if_pos c]
  · rw [if_neg (by omega), if_neg c]
theorem dTake_at {f : Nat → Int32} {m p t w : Nat} (hm : m ≤ 1) (hw : w ≤ 1) : dTake f m p t (7 + w) = f (7 + w) := by
  unfold dTake
  rw [if_neg (by omega), if_neg (by omega), if_neg (by omega), if_neg (by omega), if_neg (by omega), if_neg (by omega)]
theorem pred_xun {x : Int32} (h : 0 < xun x) : xun (x - 1) = xun x - 1 := by
  have hx : xun x < 2 ^ 32 := x.toBitVec.isLt
  have e : x - 1 = nI (xun x - 1) := by
    have := nI_sub (a := xun x) (b := 1) h
    rw [nI_xun] at this
    exact this
  rw [e, xun_nI (by omega)]
theorem dMv_own {f : Nat → Int32} (h : gok f) {mv : Nat} (hm : mv < 21) (hb : (gmoves f).testBit mv = true) : ownN (dMv f mv) = othN f ∧ othN (dMv f mv) = boN (ownN f) mv := by
  obtain ⟨m, hm1, em, um⟩ := gok_mover h
  have ht : xun (dMv f mv 3) = 1 - m := mover_turn h em hm1
  unfold ownN othN
  rw [ht, um]
  have e1 : 7 + (1 - m) = 8 - m := by omega
  have e2 : 8 - (1 - m) = 7 + m := by omega
  have e3 : f (8 - m) = f (7 + (1 - m)) := by rw [e1]
  rw [e2, e3]
  unfold dMv boN
  rw [um]
  by_cases c : mv = 20
  · subst c
    rw [if_pos rfl, if_pos rfl, dPass_at hm1 (by omega), dPass_at hm1 hm1, if_neg (by omega), if_pos rfl]
    have h0 := (mv_pass h hb).2
    rw [um] at h0
    exact ⟨rfl, pred_xun h0⟩
  · rw [if_neg c, if_neg c, dTake_at hm1 (by omega), dTake_at hm1 hm1]
    exact ⟨rfl, rfl⟩
theorem Vn_next {f : Nat → Int32} (h : gok f) {mv : Nat} (hm : mv < 21) (hb : (gmoves f).testBit mv = true) : VV f 25 (bcN (gcode f) mv) (baN mv) (othN f) (boN (ownN f) mv) = Vn (dMv f mv) := by
  obtain ⟨a1, a2⟩ := dMv_own h hm hb
  unfold Vn
  rw [a1, a2, dMv_code h hm hb, dMv_flag]
  exact VV_same (dMv_same h hm) 25 _ _ _ _
theorem psB_next {f : Nat → Int32} (h : gok f) {mv : Nat} (hm : mv < 21) (hb : (gmoves f).testBit mv = true) : (psB f (gcode f) mv = true ↔ dMv f mv 5 = 1) ∧ (psB f (gcode f) mv = false ↔ dMv f mv 5 = 0) := by
  unfold psB dMv
  by_cases c : mv = 20
  · subst c
    have h5 := (mv_pass h hb).1
    have e : dPass f (xun (f 3)) 5 = f 5 := rfl
    rw [if_pos rfl, if_pos rfl, e, h5]
    exact ⟨⟨fun q => absurd q (by decide), fun q => absurd q (by decide)⟩, fun _ => rfl, fun _ => rfl⟩
  · rw [if_neg c, if_neg c, gcode_dig h (by omega)]
    have e : dTake f (xun (f 3)) (mv / 5) (mv % 5 + 1) 5 = if f (13 + 4 * (mv / 5)) = 1 ∧ f (11 + 4 * (mv / 5)) = nI (mv % 5 + 1) then 1 else 0 := rfl
    have hT := gT_le h (p := mv / 5) (by omega)
    have eT : f (11 + 4 * (mv / 5)) = nI (gT f (mv / 5)) := (nI_xun _).symm
    rw [e, eT]
    by_cases c1 : f (13 + 4 * (mv / 5)) = 1
    · by_cases c2 : gT f (mv / 5) = mv % 5 + 1
      · rw [c2, if_pos ⟨c1, rfl⟩, decide_eq_true c1, decide_eq_true rfl]
        exact ⟨⟨fun _ => rfl, fun _ => rfl⟩, fun q => absurd q (by decide), fun q => absurd q (by decide)⟩
      · rw [if_neg (fun q => c2 (nI_inj (by omega) (by omega) q.2)), decide_eq_true c1, decide_eq_false c2]
        exact ⟨⟨fun q => absurd q (by decide), fun q => absurd q (by decide)⟩, fun _ => rfl, fun _ => rfl⟩
    · rw [if_neg (fun q => c1 q.1), decide_eq_false c1, Bool.false_and]
      exact ⟨⟨fun q => absurd q (by decide), fun q => absurd q (by decide)⟩, fun _ => rfl, fun _ => rfl⟩
theorem dMv_gain {f : Nat → Int32} (h : gok f) {m : Nat} (hm : f 3 = nI m) (um : xun (f 3) = m) (hm1 : m ≤ 1) {mv : Nat} : dMv f mv (9 + m) - f (9 + m) = gnI f mv := by
  unfold dMv gnI
  rw [um]
  by_cases c : mv = 20
  · rw [if_pos c, if_pos c]
    have e : dPass f m (9 + m) = f (9 + m) := by
      unfold dPass
      rw [if_neg (by omega), if_neg (by omega), if_neg (by omega), if_neg (by omega), if_neg (by omega)]
    rw [e, Int32.sub_self]
  · rw [if_neg c, if_neg c]
    have e : dTake f m (mv / 5) (mv % 5 + 1) (9 + m) = f (9 + m) + nI (mv % 5 + 1) * f (12 + 4 * (mv / 5)) := by
      unfold dTake
      rw [if_neg (by omega), if_neg (by omega), if_neg (by omega), if_neg (by omega), if_pos rfl]
    rw [e, add_sub_self]
/-- the first best move has the greatest value -/
theorem bsI_max {p : Nat → Bool} {w : Nat → Int32} {b : Int32} : ∀ {n k : Nat}, n ≤ 21 → k < 21 → anB p n = true → bsI p w n = nI k → mxI p w b n = w k := by
  intro n
  induction n with
  | zero => intro k _ _ h; exact absurd h Bool.false_ne_true
  | succ n ih =>
    intro k hn hk ha he
    unfold bsI at he
    unfold mxI
    by_cases c : p n = true
    · rw [if_pos c] at he ⊢
      by_cases d : anB p n = true
      · rw [if_pos d] at he ⊢
        have e0 : mxI p w b n = mxI p w 0 n := mxI_b d
        by_cases q : w n ≤ mxI p w 0 n
        · rw [if_pos q] at he
          rw [e0]
          unfold o_max
          rw [if_neg (Int32.not_lt.2 q), ← e0]
          exact ih (by omega) hk d he
        · rw [if_neg q] at he
          have ek : n = k := nI_inj (by omega) (by omega) he
          rw [e0]
          unfold o_max
          rw [if_pos (Int32.not_le.1 q), ek]
      · rw [if_neg d] at he ⊢
        have ek : n = k := nI_inj (by omega) (by omega) he
        rw [ek]
    · rw [if_neg c] at he ⊢
      unfold anB at ha
      rw [Bool.eq_false_iff.mpr c, Bool.or_false] at ha
      exact ih (by omega) hk ha he
theorem best_val {f : Nat → Int32} (h : gok f) (hg : gmoves f ≠ 0) : Vn f = gnI f (bmN f) - (if psB f (gcode f) (bmN f) = true then f 1 else Vn (dMv f (bmN f))) := by
  obtain ⟨h5, b1, b2, b3⟩ := bm_ok h hg
  have ha : anB (cnB f (sptN f)) 21 = true := by
    cases q : anB (cnB f (sptN f)) 21
    · exact absurd ((cn_spt h h5) ▸ (bsum_any _ 21).mpr q) hg
    · rfl
  have e1 := bsI_max (b := -(f 1)) (Nat.le_refl 21) b1 ha b2
  rw [← Vs_now h, Vs_eq (spt_parts h).1, e1, (mw_now h).1]
  unfold mvV
  rw [Vn_next h b1 b3]
theorem over_val {f : Nat → Int32} (h : gok f) (h5 : f 5 = 0) (hg : gmoves f = 0) : Vn f = -(f 1) := by
  have ha : anB (cnB f (sptN f)) 21 = false := (bsum_any _ 21).mp ((cn_spt h h5).trans hg)
  rw [← Vs_now h, Vs_eq (spt_parts h).1, mxI_none ha]
end NX8
