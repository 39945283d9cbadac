/-! THE OPERATIONS that move -/
section OM
theorem sub1 : ∀ n, n < 5 → (nI n - 1).toInt = (n : Int) - 1 := by decide
theorem q_isPile {X : XM} (h : gok (X 23)) {a : Int32} {p : Nat} (ha : a = nI p) (hp : p < 2 ^ 31) : fX9_isPile a X = some (if p < xun (X 23 2) then 1 else 0, X) := by
  have h4 := h.2.2.2.1
  have e2 : X 23 2 = nI (xun (X 23 2)) := (nI_xun _).symm
  generalize xun (X 23 2) = n at *
  have e : (X 23 2 - 1 < nI p) ↔ n ≤ p := by
    rw [e2, Int32.lt_iff_toInt_lt, sub1 n (by omega), nI_toInt hp]
    omega
  have e0 : ¬ nI p < 0 := nI_pos hp
  unfold fX9_isPile
  rw [ha]
  by_cases c : p < n
  · rw [if_pos c, q_inT e0 (by rw [e]; omega), zi_ok, zb_1]
  · rw [if_neg c, q_inF (Or.inr (e.2 (by omega))), zi_ok, zb_0]
theorem q_isPileN {X : XM} {a : Int32} (ha : a < 0) : fX9_isPile a X = some (0, X) := by
  unfold fX9_isPile
  rw [q_inF (Or.inl ha), zi_ok, zb_0]
theorem mvcode : ∀ p, p < 4 → ∀ t, t < 6 → 1 ≤ t → (5 * nI p + nI t) - 1 = nI (5 * p + (t - 1)) := by decide +kernel
theorem gainpos : ∀ t, t < 6 → ∀ w, w < 10 → ¬ nI t * nI w < 0 := by decide +kernel
theorem take_bit {f : Nat → Int32} (h : gok f) {p t : Nat} (hp : p < 4) (ht : t < 6) (ht0 : 1 ≤ t) : (gmoves f).testBit (5 * p + (t - 1)) = true ↔ f 5 = 0 ∧ (xun (f 0)).testBit (t - 1) = true ∧ t ≤ gT f p := by
  by_cases c : f 5 = 0
  · rw [gmoves_bit h c (by omega)]
    unfold canN
    rw [if_neg (by omega), show (5 * p + (t - 1)) % 5 = t - 1 by omega, show (5 * p + (t - 1)) / 5 = p by omega, gcode_dig h hp, Bool.and_eq_true, decide_eq_true_eq]
    constructor
    · rintro ⟨a, b⟩
      exact ⟨c, a, by omega⟩
    · rintro ⟨_, a, b⟩
      exact ⟨a, by omega⟩
  · have e : gmoves f = 0 := by unfold gmoves; rw [if_neg c]
    rw [e, Nat.zero_testBit]
    constructor
    · intro q; exact absurd q (by decide)
    · rintro ⟨a, _⟩; exact absurd a c
theorem nat_of {a : Int32} (h : ¬ a < 0) : ∃ p, p < 2 ^ 31 ∧ a = nI p := by
  refine ⟨xun a, ?_, (nI_xun a).symm⟩
  rw [Int32.lt_iff_toInt_lt] at h
  have e : a.toInt = a.toBitVec.toInt := rfl
  rw [BitVec.toInt_eq_toNat_cond] at e
  have e2 : xun a = a.toBitVec.toNat := rfl
  have e0 : (0 : Int32).toInt = 0 := by decide
  have := a.toBitVec.isLt
  rw [e2]
  split at e <;> omega
theorem op_take {X : XM} (I : Base X) (a1 a2 : Int32) : ∃ r X1 X2, fX8_take a1 a2 X = some (r, X1) ∧ fX9_take a1 a2 X1 = some (r, X2) ∧ Base X2 ∧ Kp X X2 := by
  have no : ∀ (r : Int32) (h0 : r < 0) (hk : fX8_takeTokens a1 a2 (srw X 1 (X 0)) = some (r, srw X 1 (X 0))) (hq : fX9_refusesTake a1 a2 (srw (srw X 1 (X 0)) 22 (upd (srw X 1 (X 0) 22) 0 0)) = some (r, srw (srw X 1 (X 0)) 22 (upd (srw X 1 (X 0) 22) 0 0))), ∃ r X1 X2, fX8_take a1 a2 X = some (r, X1) ∧ fX9_take a1 a2 X1 = some (r, X2) ∧ Base X2 ∧ Kp X X2 := by
    intro r h0 hk hq
    refine ⟨r, _, _, cls_ref I hk h0, ?_, (base_ref I).1, (base_ref I).2⟩
    unfold fX9_take
    rw [zl_ok, xup_eq, hq, zi_ok, if_neg (fun q => absurd (q ▸ h0) (by decide))]
  have x0 : srw X 1 (X 0) 0 = X 0 := srw_n (by decide)
  have g0 : gok (srw X 1 (X 0) 0) := by rw [x0]; exact I.g0
  have r23 : srw (srw X 1 (X 0)) 22 (upd (srw X 1 (X 0) 22) 0 0) 23 = X 0 := by rw [srw_n (by decide), srw_n (by decide), I.same]
  have g23 : gok (srw (srw X 1 (X 0)) 22 (upd (srw X 1 (X 0) 22) 0 0) 23) := by rw [r23]; exact I.g0
  have h4 := I.g0.2.2.2.1
  by_cases c1 : a1 < 0
  · refine no (-1) (by decide) ?_ ?_
    · unfold fX8_takeTokens
      rw [f_hasPileN c1, zi_ok, if_pos rfl]
    · unfold fX9_refusesTake
      rw [q_isPileN c1, zi_ok, if_pos rfl]
  obtain ⟨p, hp31, ep⟩ := nat_of c1
  by_cases c2 : p < xun (X 0 2)
  · have hp : p < 4 := by omega
    have hpile : fX0_hasPile 0 a1 (srw X 1 (X 0)) = some (1, srw X 1 (X 0)) := by rw [f_hasPile g0 ep hp31, x0, if_pos c2]
    have qpile : fX9_isPile a1 (srw (srw X 1 (X 0)) 22 (upd (srw X 1 (X 0) 22) 0 0)) = some (1, srw (srw X 1 (X 0)) 22 (upd (srw X 1 (X 0) 22) 0 0)) := by rw [q_isPile g23 ep hp31, r23, if_pos c2]
    have out : (a2 < 1 ∨ 5 < a2) → ∃ r X1 X2, fX8_take a1 a2 X = some (r, X1) ∧ fX9_take a1 a2 X1 = some (r, X2) ∧ Base X2 ∧ Kp X X2 := by
      intro co
      refine no (-5) (by decide) ?_ ?_
      · unfold fX8_takeTokens
        rw [hpile, zi_ok, if_neg i10]
        by_cases c3 : a2 < 1
        · rw [if_pos c3]
        · rw [if_neg c3, if_pos (co.resolve_left c3)]
      · unfold fX9_refusesTake
        rw [qpile, zi_ok, if_neg i10, r23]
        by_cases c5 : X 0 5 = 0
        · rw [if_pos c5]
          unfold fX9_isAllowed
          rw [q_inF co, zi_ok, if_pos rfl, zi_ok, if_pos rfl]
        · rw [if_neg c5]
    by_cases c3 : a2 < 1
    · exact out (Or.inl c3)
    by_cases c4 : 5 < a2
    · exact out (Or.inr c4)
    have bt := rng (x := a2) (lo := 1) (hi := 5) (by decide) (by decide) c3 c4
    have et : a2 = nI (xun a2) := (nI_xun _).symm
    generalize xun a2 = t at *
    have cls : fX8_takeTokens a1 a2 (srw X 1 (X 0)) = if (gmoves (X 0)).testBit (5 * p + (t - 1)) = true then fX0_takeFrom 0 a1 a2 (srw X 1 (X 0)) else some (-5, srw X 1 (X 0)) := by
      unfold fX8_takeTokens
      rw [hpile, zi_ok, if_neg i10, if_neg c3, if_neg c4]
      unfold fX8_takeMove
      rw [zi_ok, f_allows g0 (k := 5 * p + (t - 1)) (by rw [ep, et]; exact mvcode p hp t (by omega) bt.1) (by omega), zi_ok, x0]
      by_cases c : (gmoves (X 0)).testBit (5 * p + (t - 1)) = true
      · rw [if_pos c, if_neg i10, if_pos c]
        cases hh : fX0_takeFrom 0 a1 a2 (srw X 1 (X 0)) with
        | none => rfl
        | some v => rfl
      · rw [if_neg c, if_pos rfl, if_neg c]
    have ref : ∀ Z : XM, Z 23 = X 0 → fX9_refusesTake a1 a2 Z = some (if (gmoves (X 0)).testBit (5 * p + (t - 1)) = true then 0 else -5, Z) := by
      intro Z hz
      have gz : gok (Z 23) := by rw [hz]; exact I.g0
      unfold fX9_refusesTake
      rw [q_isPile gz ep hp31, hz, if_pos c2, zi_ok, if_neg i10, hz]
      have tb := take_bit I.g0 hp (t := t) (by omega) bt.1
      have eT : X 0 (11 + 4 * p + 0) = nI (gT (X 0) p) := (nI_xun _).symm
      have hT := gT_le I.g0 hp
      by_cases c5 : X 0 5 = 0
      · rw [if_pos c5, q_isAllowed gz et bt.1 bt.2, zi_ok, hz]
        by_cases c6 : (xun (X 0 0)).testBit (t - 1) = true
        · rw [if_pos c6, if_neg i10, q_of ep (show (0 : Int32) = nI 0 from rfl) hp (by decide), zi_ok, hz, eT, et]
          by_cases c7 : t ≤ gT (X 0) p
          · rw [if_neg (show ¬ nI (gT (X 0) p) < nI t by rw [nI_ltI (by omega) (by omega)]; omega), if_pos (tb.2 ⟨c5, c6, c7⟩)]
          · rw [if_pos (show nI (gT (X 0) p) < nI t by rw [nI_ltI (by omega) (by omega)]; omega), if_neg (fun q => c7 (tb.1 q).2.2)]
        · rw [if_neg c6, if_pos rfl, if_neg (fun q => c6 (tb.1 q).2.1)]
      · rw [if_neg c5, if_neg (fun q => c5 (tb.1 q).1)]
    by_cases c : (gmoves (X 0)).testBit (5 * p + (t - 1)) = true
    · obtain ⟨c5, c6, c7⟩ := (take_bit I.g0 hp (t := t) (by omega) bt.1).1 c
      obtain ⟨m, hm1, hm, _⟩ := gok_mover I.g0
      obtain ⟨Y, hY, eY, y0, Z, hZ, z23, eZ, hB, hK⟩ := rec_pair I (gok_dTake I.g0 (m := m) hm1 hp c7 bt.1)
      have y23 : Y 23 = X 0 := by rw [eY 23 (by decide) (by decide) (by decide) (by decide), I.same]
      have hw := (I.g0.2.2.2.2.2.2.2.2.2.1 p hp).2.1
      refine ⟨nI t * X 0 (12 + 4 * p), Y, _, cls_rec I ?_ (by rw [← nI_xun (X 0 (12 + 4 * p))]; exact gainpos t (by omega) _ (by omega)) hY, ?_, hB, hK⟩
      · rw [cls, if_pos c, f_takeFrom g0 (m := m) (by rw [x0]; exact hm) hm1 ep et hp (by rw [x0]; exact c7) bt.1, x0]
      · unfold fX9_take
        rw [zl_ok, xup_eq, ref _ (by rw [srw_n (by decide), y23]), zi_ok, if_pos c, if_pos rfl, hZ, zv_ok, ep, et, mvcode p hp t (by omega) bt.1]
        have e1 : (5 * p + (t - 1)) / 5 = p := by omega
        have e2 : (5 * p + (t - 1)) % 5 + 1 = t := by omega
        rw [q_doesT (by rw [z23]; exact I.g0) (m := m) (by rw [z23]; exact hm) hm1 rfl (by omega) (by rw [e1, e2, z23]; exact c7), zv_ok, e1, e2, q_of rfl (show (1 : Int32) = nI 1 from rfl) hp (by decide), zi_ok, srw_s, z23, show 11 + 4 * p + 1 = 12 + 4 * p by omega]
        have ed : dTake (X 0) m p t (12 + 4 * p) = X 0 (12 + 4 * p) := by
          unfold dTake
          rw [if_neg (by omega), if_neg (by omega), if_neg (by omega), if_neg (by omega), if_neg (by omega), if_neg (by omega)]
        rw [ed]
    · refine no (-5) (by decide) ?_ ?_
      · rw [cls, if_neg c]
      · rw [ref _ r23, if_neg c]
  · refine no (-1) (by decide) ?_ ?_
    · unfold fX8_takeTokens
      rw [f_hasPile g0 ep hp31, x0, if_neg c2, zi_ok, if_pos rfl]
    · unfold fX9_refusesTake
      rw [q_isPile g23 ep hp31, r23, if_neg c2, zi_ok, if_pos rfl]
theorem q_canPass {X : XM} (h : gok (X 23)) : fX9_canPass X = some (if (gmoves (X 23)).testBit 20 then 1 else 0, X) := by
  unfold fX9_canPass
  have hl := gmoves_lt h
  have hs : o_shr (nI (gmoves (X 23))) 20 = nI (gmoves (X 23) / 2 ^ 20) := pk_shrN (by omega) _ 20 (by decide)
  have h1 : nI (gmoves (X 23) / 2 ^ 20) &&& 1 = nI (gmoves (X 23) / 2 ^ 20 % 2) := fa_mask (gmoves (X 23) / 2 ^ 20) 1
  rw [q_movesNow h, zi_ok, hs, h1, Nat.testBit_eq_decide_div_mod_eq]
  by_cases c : gmoves (X 23) / 2 ^ 20 % 2 = 1
  · rw [c]
    rfl
  · have h0 : gmoves (X 23) / 2 ^ 20 % 2 = 0 := by omega
    rw [h0]
    rfl
theorem op_pass {X : XM} (I : Base X) : ∃ r X1 X2, fX8_pass X = some (r, X1) ∧ fX9_pass X1 = some (r, X2) ∧ Base X2 ∧ Kp X X2 := by
  have x0 : srw X 1 (X 0) 0 = X 0 := srw_n (by decide)
  have g0 : gok (srw X 1 (X 0) 0) := by rw [x0]; exact I.g0
  have r23 : srw (srw X 1 (X 0)) 22 (upd (srw X 1 (X 0) 22) 0 0) 23 = X 0 := by rw [srw_n (by decide), srw_n (by decide), I.same]
  by_cases c : (gmoves (X 0)).testBit 20 = true
  · obtain ⟨m, hm1, hm, hxm⟩ := gok_mover I.g0
    have c5 : X 0 5 = 0 := by
      refine Classical.byContradiction fun q => ?_
      have e : gmoves (X 0) = 0 := by unfold gmoves; rw [if_neg q]
      rw [e, Nat.zero_testBit] at c
      exact absurd c (by decide)
    have h0 : 0 < xun (X 0 (7 + m)) := by
      have c' := c
      rw [gmoves_bit I.g0 c5 (by decide)] at c'
      unfold canN at c'
      rw [if_pos rfl, Bool.and_eq_true, decide_eq_true_eq, hxm] at c'
      exact c'.1
    obtain ⟨Y, hY, eY, y0, Z, hZ, z23, eZ, hB, hK⟩ := rec_pair I (gok_dPass I.g0 (m := m) hm1 h0)
    have y23 : Y 23 = X 0 := by rw [eY 23 (by decide) (by decide) (by decide) (by decide), I.same]
    have hle : xun (X 0 (7 + m)) ≤ 2 := by
      match m, hm1 with
      | 0, _ => exact I.g0.2.2.2.2.2.2.2.1
      | 1, _ => exact I.g0.2.2.2.2.2.2.2.2.1
    refine ⟨X 0 (7 + m) - 1, Y, _, cls_rec I ?_ ?_ hY, ?_, hB, hK⟩
    · show fX8_usePass _ = _
      unfold fX8_usePass
      rw [f_allows g0 (a := 20) (k := 20) (show (20 : Int32) = nI 20 from rfl) (by decide), zi_ok, x0, if_pos c, if_neg i10, f_usePass g0 (m := m) (by rw [x0]; exact hm) hm1, zi_ok, x0]
    · rw [← nI_xun (X 0 (7 + m)), show (1 : Int32) = nI 1 from rfl, nI_sub h0]
      exact nI_pos (by omega)
    · unfold fX9_pass
      rw [zl_ok, xup_eq, q_canPass (by rw [srw_n (by decide), y23]; exact I.g0), srw_n (by decide), y23, zi_ok, if_pos c, if_neg i10, hZ, zv_ok, q_doesP (by rw [z23]; exact I.g0) (by rw [z23]; exact c5) (m := m) (by rw [z23]; exact hm) hm1, zv_ok, srw_s, z23]
      have e3 : 8 - dPass (X 0) m 3 = nI (7 + m) := by
        show 8 - (1 - X 0 3) = _
        rw [hm]
        match m, hm1 with
        | 0, _ => rfl
        | 1, _ => rfl
      have e7 : dPass (X 0) m (7 + m) = X 0 (7 + m) - 1 := by
        unfold dPass
        rw [if_neg (by omega), if_neg (by omega), if_neg (by omega), if_neg (by omega), if_pos rfl]
      rw [e3, zd_ok (vp_in_nI (by omega) (by decide)), nI_clampN (by omega), e7]
  · refine ⟨-5, _, _, cls_ref I ?_ (by decide), ?_, (base_ref I).1, (base_ref I).2⟩
    · show fX8_usePass _ = _
      unfold fX8_usePass
      rw [f_allows g0 (a := 20) (k := 20) (show (20 : Int32) = nI 20 from rfl) (by decide), zi_ok, x0, if_neg c, if_pos rfl]
    · unfold fX9_pass
      rw [zl_ok, xup_eq, q_canPass (by rw [r23]; exact I.g0), r23, zi_ok, if_neg c, if_pos rfl]
end OM
