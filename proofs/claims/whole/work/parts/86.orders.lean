/-! ONE ORDER, carried out by both -/
section OC
variable {len : Nat} {c : Nat → Nat}
theorem i_lt {a b : Nat} (ha : a < 2 ^ 31) (hb : b < 2 ^ 31) (h : ¬ a < b) : ¬ nI a < nI b := fun q => h ((nI_ltI ha hb).1 q)
theorem pile_f1 (f : Nat → Int32) (n : Nat) (a1 a2 a3 : Int32) : upd (upd (upd (upd (upd f (11 + 4 * n) a1) (14 + 4 * n) a1) (12 + 4 * n) a2) (13 + 4 * n) a3) 2 (nI n + 1) = dPile f n a1 a2 a3 := by
  funext k
  have e : nI n + 1 = nI (n + 1) := nI_add n 1
  rw [e]
  unfold upd dPile
  repeat' split
  all_goals first | rfl | omega
theorem pile_f2 (f : Nat → Int32) (n : Nat) (a1 a2 a3 : Int32) : upd (upd (upd (upd (upd f (11 + 4 * n) a1) (12 + 4 * n) a2) (13 + 4 * n) a3) (14 + 4 * n) a1) 2 (nI n + 1) = dPile f n a1 a2 a3 := by
  funext k
  have e : nI n + 1 = nI (n + 1) := nI_add n 1
  rw [e]
  unfold upd dPile
  repeat' split
  all_goals first | rfl | omega
theorem f_addPile {M : XM} {f : Nat → Int32} (h0 : M 0 = f) (h : gok f) {t w po : Nat} (ht : t ≤ 9) (hw : w ≤ 9) (hp : po ≤ 1) : fX8_addPile (nI t) (nI w) (nI po) M = if 5 < t then some (-2, M) else if xun (f 2) = 4 then some (-4, M) else some (f 2, srw M 0 (dPile f (xun (f 2)) (nI t) (nI w) (nI po))) := by
  have h4 := h.2.2.2.1
  have e2 : f 2 = nI (xun (f 2)) := (nI_xun _).symm
  have c5 : nI po = 0 ∨ nI po = 1 := by
    rcases (show po = 0 ∨ po = 1 by omega) with q | q <;> rw [q]
    · exact Or.inl rfl
    · exact Or.inr rfl
  unfold fX8_addPile
  rw [if_neg (nI_pos (by omega))]
  by_cases c2 : 5 < t
  · rw [if_pos (show (5 : Int32) < nI t by rw [show (5 : Int32) = nI 5 from rfl, nI_ltI (by decide) (by omega)]; exact c2), if_pos c2]
  · have cls : ∀ Z : XM, fX8_addPile (nI t) (nI w) (nI po) Z = zl (Z 0 2) (fun v_6 => if v_6 < 0 then some ((-4), Z) else if v_6 < 4 then zd v_6 4 (zv (fX3_fill 0 (Int32.toNatClampNeg v_6) (nI t) (nI w) (nI po) Z) (fun X_12 => zl (xup X_12 0 2 (v_6 + 1)) (fun X_14 => some (v_6, X_14)))) else some ((-4), Z)) := by
      intro Z
      unfold fX8_addPile
      rw [if_neg (nI_pos (by omega)), if_neg (show ¬ (5 : Int32) < nI t by rw [show (5 : Int32) = nI 5 from rfl, nI_ltI (by decide) (by omega)]; exact c2), if_neg (nI_pos (by omega)), if_pos (show nI w ≤ (9 : Int32) by rw [show (9 : Int32) = nI 9 from rfl, nI_leI (by omega) (by decide)]; exact hw)]
      rcases c5 with q | q
      · rw [if_pos q, q]
      · rw [if_neg (by rw [q]; decide), if_pos q, q]
    have cl := cls M
    unfold fX8_addPile at cl
    rw [if_neg (nI_pos (by omega))] at cl
    clear cls
    rw [if_neg c2, cl, zl_ok, h0]
    clear cl
    by_cases c6 : xun (f 2) = 4
    · have e44 : f 2 = 4 := by rw [e2, c6]; rfl
      rw [if_pos c6, e44, if_neg (by decide), if_neg (by decide)]
    · have hn : xun (f 2) < 4 := by omega
      rw [if_neg c6]
      generalize hn' : xun (f 2) = n at *
      rw [e2, if_neg (nI_pos (by omega)), if_pos (show nI n < 4 by rw [show (4 : Int32) = nI 4 from rfl, nI_ltI (by omega) (by decide)]; exact hn), zd_ok (vp_in_nI hn (by decide)), nI_clampN (by omega)]
      unfold fX3_fill
      simp only [zb_ok c5, zl_ok, zv_ok, xup_eq, srw_ss, srw_s, h0]
      rw [pile_f1]
theorem q_refPile {N : XM} {f : Nat → Int32} (h0 : N 23 = f) (h : gok f) {t w po : Nat} (ht : t ≤ 9) (hw : w ≤ 9) (hp : po ≤ 1) : fX9_refusesPile (nI t) (nI w) (nI po) N = some (if 5 < t then -2 else if xun (f 2) = 4 then -4 else 0, N) := by
  have h4 := h.2.2.2.1
  have e2 : f 2 = nI (xun (f 2)) := (nI_xun _).symm
  unfold fX9_refusesPile
  by_cases c2 : 5 < t
  · rw [q_inF (Or.inr (show (5 : Int32) < nI t by rw [show (5 : Int32) = nI 5 from rfl, nI_ltI (by decide) (by omega)]; exact c2)), zi_ok, if_pos rfl, if_pos c2]
  · rw [q_inT (nI_pos (by omega)) (show ¬ (5 : Int32) < nI t by rw [show (5 : Int32) = nI 5 from rfl, nI_ltI (by decide) (by omega)]; exact c2), zi_ok, if_neg i10, q_inT (nI_pos (by omega)) (show ¬ (9 : Int32) < nI w by rw [show (9 : Int32) = nI 9 from rfl, nI_ltI (by decide) (by omega)]; omega), zi_ok, if_neg i10, q_inT (nI_pos (by omega)) (show ¬ (1 : Int32) < nI po by rw [show (1 : Int32) = nI 1 from rfl, nI_ltI (by decide) (by omega)]; omega), zi_ok, if_neg i10, h0, if_neg c2]
    by_cases c6 : xun (f 2) = 4
    · rw [if_pos (by rw [e2, c6]; rfl), if_pos c6]
    · rw [if_neg (fun q => c6 (by rw [q]; rfl)), if_neg c6]
theorem q_comes {N : XM} {f : Nat → Int32} (h0 : N 23 = f) {a1 a2 a3 : Int32} (hn : xun (f 2) < 4) : fX9_comes a1 a2 a3 N = some (f 2, srw N 23 (dPile f (xun (f 2)) a1 a2 a3)) := by
  have e2 : f 2 = nI (xun (f 2)) := (nI_xun _).symm
  have g2 : ∀ (f : Nat → Int32) (v : Int32) (k : Nat), k ≠ 2 → upd f k v 2 = f 2 := fun f v k hk => by unfold upd; rw [if_neg (fun q => hk q.symm)]
  generalize hn' : xun (f 2) = n at *
  unfold fX9_comes
  rw [zl_ok, h0, e2, q_lay rfl (show (0 : Int32) = nI 0 from rfl) hn (by decide), zv_ok, q_lay rfl (show (1 : Int32) = nI 1 from rfl) hn (by decide), zv_ok, q_lay rfl (show (2 : Int32) = nI 2 from rfl) hn (by decide), zv_ok, q_lay rfl (show (3 : Int32) = nI 3 from rfl) hn (by decide), zv_ok, zl_ok, xup_eq]
  simp only [srw_ss, srw_s, h0]
  rw [show 11 + 4 * n + 0 = 11 + 4 * n from rfl, show 11 + 4 * n + 1 = 12 + 4 * n by omega, show 11 + 4 * n + 2 = 13 + 4 * n by omega, show 11 + 4 * n + 3 = 14 + 4 * n by omega, g2 _ _ _ (by omega), g2 _ _ _ (by omega), g2 _ _ _ (by omega), g2 _ _ _ (by omega), e2, pile_f2]
/-- may t tokens be taken from pile p -/
def tkB (f : Nat → Int32) (p t : Nat) : Bool := decide (p < xun (f 2)) && (decide (1 ≤ t) && (decide (t ≤ 5) && (gmoves f).testBit (5 * p + (t - 1))))
theorem tkB_ok {f : Nat → Int32} {p t : Nat} (h : gok f) (hb : tkB f p t = true) : p < 4 ∧ 1 ≤ t ∧ t ≤ 5 ∧ (gmoves f).testBit (5 * p + (t - 1)) = true := by
  unfold tkB at hb
  rw [Bool.and_eq_true, Bool.and_eq_true, Bool.and_eq_true, decide_eq_true_eq, decide_eq_true_eq, decide_eq_true_eq] at hb
  have := h.2.2.2.1
  exact ⟨by omega, hb.2.1, hb.2.2.1, hb.2.2.2⟩
theorem dMv_take {f : Nat → Int32} {p t : Nat} (hp : p < 4) (h1 : 1 ≤ t) (h5 : t ≤ 5) : dMv f (5 * p + (t - 1)) = dTake f (xun (f 3)) p t := by
  unfold dMv
  rw [if_neg (by omega), show (5 * p + (t - 1)) / 5 = p by omega, show (5 * p + (t - 1)) % 5 + 1 = t by omega]
theorem f_takeN {M : XM} {f : Nat → Int32} (h0 : M 0 = f) (h : gok f) {p t : Nat} (hp : p ≤ 9) (ht : t ≤ 9) : ∃ r, fX8_takeTokens (nI p) (nI t) M = some (r, if tkB f p t = true then srw M 0 (dMv f (5 * p + (t - 1))) else M) ∧ (r < 0 ↔ tkB f p t = false) := by
  have h4 := h.2.2.2.1
  subst h0
  have no : ∀ r : Int32, tkB (M 0) p t = false → r < 0 → fX8_takeTokens (nI p) (nI t) M = some (r, M) → ∃ r, fX8_takeTokens (nI p) (nI t) M = some (r, if tkB (M 0) p t = true then srw M 0 (dMv (M 0) (5 * p + (t - 1))) else M) ∧ (r < 0 ↔ tkB (M 0) p t = false) := fun r hb hr hk => ⟨r, by rw [hk, if_neg (by rw [hb]; exact Bool.false_ne_true)], fun _ => hb, fun _ => hr⟩
  by_cases c2 : p < xun (M 0 2)
  · have hp4 : p < 4 := by omega
    have hpile : fX0_hasPile 0 (nI p) M = some (1, M) := by rw [f_hasPile h rfl (by omega), if_pos c2]
    by_cases c3 : t < 1
    · refine no (-5) (by unfold tkB; rw [decide_eq_false (show ¬ 1 ≤ t by omega), Bool.false_and, Bool.and_false]) (by decide) ?_
      unfold fX8_takeTokens
      rw [hpile, zi_ok, if_neg i10, if_pos (show nI t < 1 from (nI_ltI (b := 1) (by omega) (by decide)).2 c3)]
    · have n3 : ¬ nI t < 1 := fun q => c3 ((nI_ltI (b := 1) (by omega) (by decide)).1 q)
      by_cases c4 : 5 < t
      · refine no (-5) (by unfold tkB; rw [decide_eq_false (show ¬ t ≤ 5 by omega), Bool.false_and, Bool.and_false, Bool.and_false]) (by decide) ?_
        unfold fX8_takeTokens
        rw [hpile, zi_ok, if_neg i10, if_neg n3, if_pos (show (5 : Int32) < nI t from (nI_ltI (a := 5) (by decide) (by omega)).2 c4)]
      · have n4 : ¬ (5 : Int32) < nI t := fun q => c4 ((nI_ltI (a := 5) (by decide) (by omega)).1 q)
        have eb : tkB (M 0) p t = (gmoves (M 0)).testBit (5 * p + (t - 1)) := by
          unfold tkB
          rw [decide_eq_true c2, decide_eq_true (show 1 ≤ t by omega), decide_eq_true (show t ≤ 5 by omega), Bool.true_and, Bool.true_and, Bool.true_and]
        by_cases cb : (gmoves (M 0)).testBit (5 * p + (t - 1)) = true
        · obtain ⟨c5, c6, c7⟩ := (take_bit h hp4 (t := t) (by omega) (by omega)).1 cb
          obtain ⟨m, hm1, hm, um⟩ := gok_mover h
          have hw := (h.2.2.2.2.2.2.2.2.2.1 p hp4).2.1
          refine ⟨nI t * M 0 (12 + 4 * p), ?_, fun q => absurd q ?_, fun q => ?_⟩
          · rw [eb, if_pos cb, dMv_take hp4 (by omega) (by omega), um]
            unfold fX8_takeTokens
            rw [hpile, zi_ok, if_neg i10, if_neg n3, if_neg n4]
            unfold fX8_takeMove
            rw [zi_ok, f_allows h (k := 5 * p + (t - 1)) (mvcode p hp4 t (by omega) (by omega)) (by omega), zi_ok, if_pos cb, if_neg i10, f_takeFrom h hm hm1 rfl rfl hp4 c7 (by omega)]
            rfl
          · rw [← nI_xun (M 0 (12 + 4 * p))]
            exact gainpos t (by omega) _ (by omega)
          · rw [eb, cb] at q
            exact absurd q (by decide)
        · refine no (-5) (by rw [eb]; exact Bool.eq_false_iff.mpr cb) (by decide) ?_
          unfold fX8_takeTokens
          rw [hpile, zi_ok, if_neg i10, if_neg n3, if_neg n4]
          unfold fX8_takeMove
          rw [zi_ok, f_allows h (k := 5 * p + (t - 1)) (mvcode p hp4 t (by omega) (by omega)) (by omega), zi_ok, if_neg cb, if_pos rfl]
  · refine no (-1) (by unfold tkB; rw [decide_eq_false c2, Bool.false_and]) (by decide) ?_
    unfold fX8_takeTokens
    rw [f_hasPile h rfl (by omega), if_neg c2, zi_ok, if_pos rfl]
theorem q_takeN {N : XM} {f : Nat → Int32} (h0 : N 23 = f) (h : gok f) {p t : Nat} (hp : p ≤ 9) (ht : t ≤ 9) : ∃ r, fX9_refusesTake (nI p) (nI t) N = some (r, N) ∧ (r = 0 ↔ tkB f p t = true) := by
  have h4 := h.2.2.2.1
  subst h0
  have no : ∀ r : Int32, tkB (N 23) p t = false → ¬ r = 0 → fX9_refusesTake (nI p) (nI t) N = some (r, N) → ∃ r, fX9_refusesTake (nI p) (nI t) N = some (r, N) ∧ (r = 0 ↔ tkB (N 23) p t = true) := fun r hb hr hk => ⟨r, hk, fun q => absurd q hr, fun q => by rw [hb] at q; exact absurd q Bool.false_ne_true⟩
  by_cases c2 : p < xun (N 23 2)
  · have hp4 : p < 4 := by omega
    have qpile : fX9_isPile (nI p) N = some (1, N) := by rw [q_isPile h rfl (by omega), if_pos c2]
    have out : (nI t < 1 ∨ (5 : Int32) < nI t) → fX9_refusesTake (nI p) (nI t) N = some (-5, N) := by
      intro co
      unfold fX9_refusesTake
      rw [qpile, zi_ok, if_neg i10]
      by_cases c5 : N 23 5 = 0
      · rw [if_pos c5]
        unfold fX9_isAllowed
        rw [q_inF co, zi_ok, if_pos rfl, zi_ok, if_pos rfl]
      · rw [if_neg c5]
    by_cases c3 : t < 1
    · exact no (-5) (by unfold tkB; rw [decide_eq_false (show ¬ 1 ≤ t by omega), Bool.false_and, Bool.and_false]) (by decide) (out (Or.inl ((nI_ltI (b := 1) (by omega) (by decide)).2 c3)))
    · by_cases c4 : 5 < t
      · exact no (-5) (by unfold tkB; rw [decide_eq_false (show ¬ t ≤ 5 by omega), Bool.false_and, Bool.and_false, Bool.and_false]) (by decide) (out (Or.inr ((nI_ltI (a := 5) (by decide) (by omega)).2 c4)))
      · have eb : tkB (N 23) p t = (gmoves (N 23)).testBit (5 * p + (t - 1)) := by
          unfold tkB
          rw [decide_eq_true c2, decide_eq_true (show 1 ≤ t by omega), decide_eq_true (show t ≤ 5 by omega), Bool.true_and, Bool.true_and, Bool.true_and]
        have tb := take_bit h hp4 (t := t) (by omega) (by omega)
        have eT : N 23 (11 + 4 * p + 0) = nI (gT (N 23) p) := (nI_xun _).symm
        have hT := gT_le h hp4
        by_cases c5 : N 23 5 = 0
        · by_cases c6 : (xun (N 23 0)).testBit (t - 1) = true
          · by_cases c7 : t ≤ gT (N 23) p
            · refine ⟨0, ?_, fun _ => by rw [eb]; exact tb.2 ⟨c5, c6, c7⟩, fun _ => rfl⟩
              unfold fX9_refusesTake
              rw [qpile, zi_ok, if_neg i10, if_pos c5, q_isAllowed h rfl (by omega) (by omega), zi_ok, if_pos c6, if_neg i10, q_of rfl (show (0 : Int32) = nI 0 from rfl) hp4 (by decide), zi_ok, eT, if_neg (show ¬ nI (gT (N 23) p) < nI t by rw [nI_ltI (by omega) (by omega)]; omega)]
            · refine no (-5) (by rw [eb]; exact Bool.eq_false_iff.mpr (fun q => c7 (tb.1 q).2.2)) (by decide) ?_
              unfold fX9_refusesTake
              rw [qpile, zi_ok, if_neg i10, if_pos c5, q_isAllowed h rfl (by omega) (by omega), zi_ok, if_pos c6, if_neg i10, q_of rfl (show (0 : Int32) = nI 0 from rfl) hp4 (by decide), zi_ok, eT, if_pos (show nI (gT (N 23) p) < nI t by rw [nI_ltI (by omega) (by omega)]; omega)]
          · refine no (-5) (by rw [eb]; exact Bool.eq_false_iff.mpr (fun q => c6 (tb.1 q).2.1)) (by decide) ?_
            unfold fX9_refusesTake
            rw [qpile, zi_ok, if_neg i10, if_pos c5, q_isAllowed h rfl (by omega) (by omega), zi_ok, if_neg c6, if_pos rfl]
        · refine no (-5) (by rw [eb]; exact Bool.eq_false_iff.mpr (fun q => c5 (tb.1 q).1)) (by decide) ?_
          unfold fX9_refusesTake
          rw [qpile, zi_ok, if_neg i10, if_neg c5]
  · refine no (-1) (by unfold tkB; rw [decide_eq_false c2, Bool.false_and]) (by decide) ?_
    unfold fX9_refusesTake
    rw [q_isPile h rfl (by omega), if_neg c2, zi_ok, if_pos rfl]
theorem f_passN {M : XM} {f : Nat → Int32} (h0 : M 0 = f) (h : gok f) : ∃ r, fX8_usePass M = some (r, if (gmoves f).testBit 20 = true then srw M 0 (dMv f 20) else M) ∧ (r < 0 ↔ (gmoves f).testBit 20 = false) := by
  subst h0
  obtain ⟨m, hm1, hm, um⟩ := gok_mover h
  by_cases cb : (gmoves (M 0)).testBit 20 = true
  · have hp := mv_pass h cb
    rw [um] at hp
    have hle : xun (M 0 (7 + m)) ≤ 2 := by
      match m, hm1 with
      | 0, _ => exact h.2.2.2.2.2.2.2.1
      | 1, _ => exact h.2.2.2.2.2.2.2.2.1
    refine ⟨M 0 (7 + m) - 1, ?_, fun q => absurd q ?_, fun q => by rw [cb] at q; exact absurd q (by decide)⟩
    · rw [if_pos cb]
      unfold fX8_usePass dMv
      rw [f_allows h (a := 20) (k := 20) (show (20 : Int32) = nI 20 from rfl) (by decide), zi_ok, if_pos cb, if_neg i10, f_usePass h hm hm1, zi_ok, if_pos rfl, um]
    · rw [← nI_xun (M 0 (7 + m)), show (1 : Int32) = nI 1 from rfl, nI_sub hp.2]
      exact nI_pos (by omega)
  · refine ⟨-5, ?_, fun _ => Bool.eq_false_iff.mpr cb, fun _ => by decide⟩
    rw [if_neg cb]
    unfold fX8_usePass
    rw [f_allows h (a := 20) (k := 20) (show (20 : Int32) = nI 20 from rfl) (by decide), zi_ok, if_neg cb, if_pos rfl]
theorem f_giveN {M : XM} {f : Nat → Int32} (h0 : M 0 = f) (h : gok f) {a b : Nat} (ha : a ≤ 9) (hb : b ≤ 9) : ∃ r, fX8_givePasses (nI a) (nI b) M = some (r, if a ≤ 2 ∧ b ≤ 2 then srw M 0 (upd (upd f 7 (nI a)) 8 (nI b)) else M) ∧ (r < 0 ↔ ¬ (a ≤ 2 ∧ b ≤ 2)) := by
  subst h0
  have e2 : ∀ a, a ≤ 9 → ((2 : Int32) < nI a ↔ 2 < a) := fun a ha => nI_ltI (a := 2) (by decide) (by omega)
  have h7 := h.2.2.2.2.2.2.2.1
  have h8 := h.2.2.2.2.2.2.2.2.1
  unfold fX8_givePasses
  rw [if_neg (nI_pos (by omega))]
  by_cases c1 : 2 < a
  · exact ⟨-2, by rw [if_pos ((e2 a ha).2 c1), if_neg (by omega)], fun _ => by omega, fun _ => by decide⟩
  · rw [if_neg (fun q => c1 ((e2 a ha).1 q)), if_neg (nI_pos (by omega))]
    by_cases c2 : 2 < b
    · exact ⟨-2, by rw [if_neg (fun q => absurd ((e2 b hb).2 c2) (Int32.not_lt.2 q)), if_neg (by omega)], fun _ => by omega, fun _ => by decide⟩
    · refine ⟨M 0 7 + M 0 8, ?_, fun q => absurd q ?_, fun q => absurd ⟨by omega, by omega⟩ q⟩
      · rw [if_pos (le_nlt (fun q => c2 ((e2 b hb).1 q))), if_pos ⟨by omega, by omega⟩, zl_ok, zl_ok, zl_ok, xup_eq, xup_eq, srw_ss, srw_s]
      · rw [← nI_xun (M 0 7), ← nI_xun (M 0 8), nI_add]
        exact nI_pos (by omega)
theorem q_giveN {N : XM} {a b : Nat} (ha : a ≤ 9) (hb : b ≤ 9) : ∃ r, fX9_refusesPasses (nI a) (nI b) N = some (r, N) ∧ (r = 0 ↔ (a ≤ 2 ∧ b ≤ 2)) := by
  have e2 : ∀ a, a ≤ 9 → ((2 : Int32) < nI a ↔ 2 < a) := fun a ha => nI_ltI (a := 2) (by decide) (by omega)
  unfold fX9_refusesPasses
  by_cases c1 : 2 < a
  · exact ⟨-2, by rw [q_inF (Or.inr ((e2 a ha).2 c1)), zi_ok, if_pos rfl], fun q => absurd q (by decide), fun q => by omega⟩
  · rw [q_inT (nI_pos (by omega)) (fun q => c1 ((e2 a ha).1 q)), zi_ok, if_neg i10]
    by_cases c2 : 2 < b
    · exact ⟨-2, by rw [q_inF (Or.inr ((e2 b hb).2 c2)), zi_ok, if_pos rfl], fun q => absurd q (by decide), fun q => by omega⟩
    · exact ⟨0, by rw [q_inT (nI_pos (by omega)) (fun q => c2 ((e2 b hb).1 q)), zi_ok, if_neg i10], fun _ => ⟨by omega, by omega⟩, fun _ => rfl⟩
/-- what an order does: whether it is carried out, and the game behind it -/
def pwN (L : Nat → Nat) (a : Nat) : Nat := if L (a + 1 + 1) = 119 then L (a + 1 + 1 + 1) - 48 else 1
def poN (L : Nat → Nat) (a : Nat) : Nat := if L (a + 1 + 1) = 119 then (if L (a + 1 + 1 + 1 + 1) = 33 then 1 else 0) else if L (a + 1 + 1) = 33 then 1 else 0
def orB (L : Nat → Nat) (f : Nat → Int32) (a : Nat) : Bool :=
  if L a = 43 then decide (L (a + 1) - 48 ≤ 5) && decide (xun (f 2) < 4)
  else if L a = 45 then tkB f (L (a + 1) - 48) (L (a + 1 + 1 + 1) - 48)
  else if L a = 112 then (gmoves f).testBit 20
  else if L a = 109 then decide (gmoves f ≠ 0)
  else decide (L (a + 1) - 48 ≤ 2) && decide (L (a + 1 + 1) - 48 ≤ 2)
def orG (L : Nat → Nat) (f : Nat → Int32) (a : Nat) : Nat → Int32 :=
  if L a = 43 then dPile f (xun (f 2)) (nI (L (a + 1) - 48)) (nI (pwN L a)) (nI (poN L a))
  else if L a = 45 then dMv f (5 * (L (a + 1) - 48) + (L (a + 1 + 1 + 1) - 48 - 1))
  else if L a = 112 then dMv f 20
  else if L a = 109 then dMv f (bmN f)
  else upd (upd f 7 (nI (L (a + 1) - 48))) 8 (nI (L (a + 1 + 1) - 48))
theorem dg_9 {n : Nat} (h : dgB n = true) : 48 ≤ n ∧ n - 48 ≤ 9 ∧ nI n - 48 = nI (n - 48) := by
  unfold dgB at h
  rw [Bool.and_eq_true, decide_eq_true_eq, decide_eq_true_eq] at h
  exact ⟨h.1, by omega, pk_sub (b := 48) h.1⟩
/-- what stands in an order that is well -/
theorem oe_kind {L : Nat → Nat} {a : Nat} (h : (oeN L a).1 = true) : (L a = 43 ∧ dgB (L (a + 1)) = true ∧ (L (a + 1 + 1) = 119 → dgB (L (a + 1 + 1 + 1)) = true)) ∨ (L a = 45 ∧ dgB (L (a + 1)) = true ∧ dgB (L (a + 1 + 1 + 1)) = true) ∨ L a = 112 ∨ L a = 109 ∨ (L a = 114 ∧ dgB (L (a + 1)) = true ∧ dgB (L (a + 1 + 1)) = true) := by
  have bad : ∀ e : Nat, oeN L a = (false, e) → False := fun e q => by rw [q] at h; exact absurd h Bool.false_ne_true
  by_cases c43 : L a = 43
  · refine Or.inl ⟨c43, ?_, fun g2 => ?_⟩
    · exact Classical.byContradiction fun d1 => bad (a + 1) (by unfold oeN; rw [if_pos c43, if_neg d1])
    · refine Classical.byContradiction fun d3 => ?_
      by_cases d1 : dgB (L (a + 1)) = true
      · exact bad (a + 1 + 1 + 1) (by unfold oeN; rw [if_pos c43, if_pos d1, if_pos g2, if_neg d3])
      · exact bad (a + 1) (by unfold oeN; rw [if_pos c43, if_neg d1])
  by_cases c45 : L a = 45
  · have d1 : dgB (L (a + 1)) = true := Classical.byContradiction fun d1 => bad (a + 1) (by unfold oeN; rw [if_neg c43, if_pos c45, if_neg d1])
    refine Or.inr (Or.inl ⟨c45, d1, Classical.byContradiction fun d3 => ?_⟩)
    by_cases g2 : L (a + 1 + 1) = 46
    · exact bad (a + 1 + 1 + 1) (by unfold oeN; rw [if_neg c43, if_pos c45, if_pos d1, if_pos g2, if_neg d3])
    · exact bad (a + 1 + 1) (by unfold oeN; rw [if_neg c43, if_pos c45, if_pos d1, if_neg g2])
  by_cases c112 : L a = 112
  · exact Or.inr (Or.inr (Or.inl c112))
  by_cases c109 : L a = 109
  · exact Or.inr (Or.inr (Or.inr (Or.inl c109)))
  by_cases c114 : L a = 114
  · have d1 : dgB (L (a + 1)) = true := Classical.byContradiction fun d1 => bad (a + 1) (by unfold oeN; rw [if_neg c43, if_neg c45, if_neg c112, if_neg c109, if_pos c114, if_neg d1])
    exact Or.inr (Or.inr (Or.inr (Or.inr ⟨c114, d1, Classical.byContradiction fun d2 => bad (a + 1 + 1) (by unfold oeN; rw [if_neg c43, if_neg c45, if_neg c112, if_neg c109, if_pos c114, if_pos d1, if_neg d2])⟩)))
  · exact absurd (by unfold oeN; rw [if_neg c43, if_neg c45, if_neg c112, if_neg c109, if_neg c114]) (fun q : oeN L a = (false, a) => bad _ q)
theorem f_atN {M : XM} (h : PD1 M len c) {i : Nat} (hi : i < 2 ^ 31) : ∃ v, fX2_at (nI i) M = some (nI v, M) ∧ v < 2 ^ 31 ∧ (ltN c len i ≠ 0 → v = ltN c len i) ∧ (ltN c len i = 0 → v = 59) := by
  have h31 := lt_31 h i
  by_cases d : i < len
  · have e : ltN c len i = c i := if_pos d
    refine ⟨c i, by rw [f_at h rfl hi, if_pos d], by rw [← e]; exact h31, fun _ => e.symm, fun q => ?_⟩
    rw [e] at q
    have := (h.2.2.2 i d).1
    omega
  · refine ⟨59, by rw [f_at h rfl hi, if_neg d], by decide, fun q => absurd (if_neg d) q, fun _ => rfl⟩
theorem f_digN {M : XM} (h : PD1 M len c) {i : Nat} (hi : i < 2 ^ 31) (hd : dgB (ltN c len i) = true) : fX2_digitAt (nI i) M = some (nI (ltN c len i - 48), M) := by
  obtain ⟨v, e, _, e2, _⟩ := f_atN h hi
  have h48 := dg_9 hd
  unfold fX2_digitAt
  rw [e, zi_ok, e2 (by omega), h48.2.2]
/-- a sign is read alike -/
theorem sg_iff {M : XM} (h : PD1 M len c) {i s : Nat} (hi : i < 2 ^ 31) (hs : s < 2 ^ 31) (h0 : s ≠ 0) (h59 : s ≠ 59) : ∃ v, fX2_at (nI i) M = some (nI v, M) ∧ (nI v = nI s ↔ ltN c len i = s) := by
  obtain ⟨v, e, e1, e2, e3⟩ := f_atN h hi
  refine ⟨v, e, ?_⟩
  rw [nI_iff (by omega) (by omega)]
  by_cases z : ltN c len i = 0
  · rw [e3 z, z]
    omega
  · rw [e2 z]
theorem pw_9 {L : Nat → Nat} {a : Nat} (hd : L (a + 1 + 1) = 119 → dgB (L (a + 1 + 1 + 1)) = true) : pwN L a ≤ 9 := by
  unfold pwN
  by_cases g : L (a + 1 + 1) = 119
  · rw [if_pos g]; exact (dg_9 (hd g)).2.1
  · rw [if_neg g]; decide
theorem po_1 {L : Nat → Nat} {a : Nat} : poN L a ≤ 1 := by
  unfold poN
  repeat' split
  all_goals decide
theorem f_pileN {M : XM} {f : Nat → Int32} (h0 : M 0 = f) (h : gok f) {t w po : Nat} (ht : t ≤ 9) (hw : w ≤ 9) (hp : po ≤ 1) : ∃ r, fX8_addPile (nI t) (nI w) (nI po) M = some (r, if (decide (t ≤ 5) && decide (xun (f 2) < 4)) = true then srw M 0 (dPile f (xun (f 2)) (nI t) (nI w) (nI po)) else M) ∧ (r < 0 ↔ (decide (t ≤ 5) && decide (xun (f 2) < 4)) = false) := by
  have h4 := h.2.2.2.1
  rw [f_addPile h0 h ht hw hp]
  by_cases c2 : 5 < t
  · rw [decide_eq_false (show ¬ t ≤ 5 by omega), Bool.false_and]
    exact ⟨-2, by rw [if_pos c2, if_neg Bool.false_ne_true], fun _ => rfl, fun _ => by decide⟩
  · rw [decide_eq_true (show t ≤ 5 by omega), Bool.true_and]
    by_cases c6 : xun (f 2) = 4
    · rw [decide_eq_false (show ¬ xun (f 2) < 4 by omega)]
      exact ⟨-4, by rw [if_neg c2, if_pos c6, if_neg Bool.false_ne_true], fun _ => rfl, fun _ => by decide⟩
    · rw [decide_eq_true (show xun (f 2) < 4 by omega)]
      refine ⟨f 2, by rw [if_neg c2, if_neg c6, if_pos rfl], fun q => absurd q ?_, fun q => absurd q (by decide)⟩
      rw [← nI_xun (f 2)]
      exact nI_pos (by omega)
theorem f_order {M : XM} {f : Nat → Int32} (hP : PD1 M len c) (h0 : M 0 = f) (h : gok f) (S : SIn M) {a : Nat} (ha : a < 1000) (hw : (oeN (ltN c len) a).1 = true) :
    ∃ r M', fX8_carryOutOrder (nI a) M = some (r, M') ∧ (r < 0 ↔ orB (ltN c len) f a = false) ∧ M' 0 = (if orB (ltN c len) f a = true then orG (ltN c len) f a else f) ∧ SIn M' ∧ ∀ r, r ≠ 0 → r ≠ 13 → r ≠ 14 → r ≠ 15 → r ≠ 17 → M' r = M r := by
  have wr : ∀ (b : Bool) (g : Nat → Int32) (r : Int32), (r < 0 ↔ b = false) → fX8_carryOutOrder (nI a) M = some (r, if b = true then srw M 0 g else M) → orB (ltN c len) f a = b → orG (ltN c len) f a = g → ∃ r M', fX8_carryOutOrder (nI a) M = some (r, M') ∧ (r < 0 ↔ orB (ltN c len) f a = false) ∧ M' 0 = (if orB (ltN c len) f a = true then orG (ltN c len) f a else f) ∧ SIn M' ∧ ∀ r, r ≠ 0 → r ≠ 13 → r ≠ 14 → r ≠ 15 → r ≠ 17 → M' r = M r := by
    intro b g r hr he hb hg
    rw [hb, hg]
    refine ⟨r, _, he, hr, ?_, ?_, ?_⟩
    · cases b
      · exact h0
      · show srw M 0 g 0 = g
        exact srw_s
    · cases b
      · exact S
      · exact SIn_cong S (fun r _ _ => srw_n (by omega))
    · intro r a _ _ _ _
      cases b
      · rfl
      · exact srw_n a
  obtain ⟨v, hv, _, v2, v3⟩ := f_atN hP (i := a) (by omega)
  have hz : ltN c len a ≠ 0 := (oe_up (ltN c len) a).2.2 hw |>.2
  have ev : v = ltN c len a := v2 hz
  have e1 : nI a + 1 = nI (a + 1) := nI_add a 1
  have e2 : nI a + 2 = nI (a + 1 + 1) := nI_add a 2
  have e3 : nI a + 3 = nI (a + 1 + 1 + 1) := nI_add a 3
  have e4 : nI a + 4 = nI (a + 1 + 1 + 1 + 1) := nI_add a 4
  rcases oe_kind hw with ⟨k, d1, d3⟩ | ⟨k, d1, d3⟩ | k | k | ⟨k, d1, d2⟩
  · have b1 := dg_9 d1
    obtain ⟨r, t1, t2⟩ := f_pileN h0 h b1.2.1 (pw_9 d3) (po_1 (L := ltN c len) (a := a))
    refine wr (decide (ltN c len (a + 1) - 48 ≤ 5) && decide (xun (f 2) < 4)) (dPile f (xun (f 2)) (nI (ltN c len (a + 1) - 48)) (nI (pwN (ltN c len) a)) (nI (poN (ltN c len) a))) r t2 ?_ (by unfold orB; rw [if_pos k]) (by unfold orG; rw [if_pos k])
    generalize hB : (if (decide (ltN c len (a + 1) - 48 ≤ 5) && decide (xun (f 2) < 4)) = true then srw M 0 (dPile f (xun (f 2)) (nI (ltN c len (a + 1) - 48)) (nI (pwN (ltN c len) a)) (nI (poN (ltN c len) a))) else M) = B at *
    obtain ⟨w1, hw1, i1⟩ := sg_iff hP (i := a + 1 + 1) (s := 119) (by omega) (by decide) (by decide) (by decide)
    unfold fX8_carryOutOrder
    rw [hv, zi_ok, ev, k, if_pos (show nI 43 = (43 : Int32) from rfl)]
    unfold fX8_carryOutPile
    rw [e2, hw1, zi_ok]
    by_cases g2 : ltN c len (a + 1 + 1) = 119
    · have ew : pwN (ltN c len) a = ltN c len (a + 1 + 1 + 1) - 48 := by unfold pwN; rw [if_pos g2]
      obtain ⟨w2, hw2, i2⟩ := sg_iff hP (i := a + 1 + 1 + 1 + 1) (s := 33) (by omega) (by decide) (by decide) (by decide)
      rw [if_pos (show nI w1 = (119 : Int32) from i1.2 g2), e3, f_digN hP (by omega) (d3 g2), zi_ok, e4, hw2, zi_ok]
      by_cases g4 : ltN c len (a + 1 + 1 + 1 + 1) = 33
      · have ep : poN (ltN c len) a = 1 := by unfold poN; rw [if_pos g2, if_pos g4]
        rw [ew, ep] at t1
        rw [if_pos (show nI w2 = (33 : Int32) from i2.2 g4), e1, f_digN hP (by omega) d1, zi_ok, show fX8_addPile (nI (ltN c len (a + 1) - 48)) (nI (ltN c len (a + 1 + 1 + 1) - 48)) 1 M = _ from t1, zi_ok, zi_ok]
      · have ep : poN (ltN c len) a = 0 := by unfold poN; rw [if_pos g2, if_neg g4]
        rw [ew, ep] at t1
        rw [if_neg (show ¬ nI w2 = (33 : Int32) from fun q => g4 (i2.1 q)), e1, f_digN hP (by omega) d1, zi_ok, show fX8_addPile (nI (ltN c len (a + 1) - 48)) (nI (ltN c len (a + 1 + 1 + 1) - 48)) 0 M = _ from t1, zi_ok, zi_ok]
    · have ew : pwN (ltN c len) a = 1 := by unfold pwN; rw [if_neg g2]
      obtain ⟨w2, hw2, i2⟩ := sg_iff hP (i := a + 1 + 1) (s := 33) (by omega) (by decide) (by decide) (by decide)
      rw [if_neg (show ¬ nI w1 = (119 : Int32) from fun q => g2 (i1.1 q)), hw2, zi_ok]
      by_cases g3 : ltN c len (a + 1 + 1) = 33
      · have ep : poN (ltN c len) a = 1 := by unfold poN; rw [if_neg g2, if_pos g3]
        rw [ew, ep] at t1
        rw [if_pos (show nI w2 = (33 : Int32) from i2.2 g3), e1, f_digN hP (by omega) d1, zi_ok, show fX8_addPile (nI (ltN c len (a + 1) - 48)) 1 1 M = _ from t1, zi_ok, zi_ok]
      · have ep : poN (ltN c len) a = 0 := by unfold poN; rw [if_neg g2, if_neg g3]
        rw [ew, ep] at t1
        rw [if_neg (show ¬ nI w2 = (33 : Int32) from fun q => g3 (i2.1 q)), e1, f_digN hP (by omega) d1, zi_ok, show fX8_addPile (nI (ltN c len (a + 1) - 48)) 1 0 M = _ from t1, zi_ok, zi_ok]
  · have b1 := dg_9 d1
    have b3 := dg_9 d3
    obtain ⟨r, t1, t2⟩ := f_takeN h0 h b1.2.1 b3.2.1
    refine wr (tkB f (ltN c len (a + 1) - 48) (ltN c len (a + 1 + 1 + 1) - 48)) (dMv f (5 * (ltN c len (a + 1) - 48) + (ltN c len (a + 1 + 1 + 1) - 48 - 1))) r t2 ?_ (by unfold orB; rw [if_neg (by omega), if_pos k]) (by unfold orG; rw [if_neg (by omega), if_pos k])
    unfold fX8_carryOutOrder
    rw [hv, zi_ok, ev, k, if_neg (show ¬ nI 45 = (43 : Int32) by decide), if_pos (show nI 45 = (45 : Int32) from rfl), e1, e3, f_digN hP (by omega) d1, zi_ok, f_digN hP (by omega) d3, zi_ok, t1, zi_ok]
  · obtain ⟨r, t1, t2⟩ := f_passN h0 h
    refine wr ((gmoves f).testBit 20) (dMv f 20) r t2 ?_ (by unfold orB; rw [if_neg (by omega), if_neg (by omega), if_pos k]) (by unfold orG; rw [if_neg (by omega), if_neg (by omega), if_pos k])
    unfold fX8_carryOutOrder
    rw [hv, zi_ok, ev, k, if_neg (show ¬ nI 112 = (43 : Int32) by decide), if_neg (show ¬ nI 112 = (45 : Int32) by decide), if_neg (show ¬ nI 112 = (114 : Int32) by decide), if_pos (show nI 112 = (112 : Int32) from rfl), t1, zi_ok]
  · have eB : orB (ltN c len) f a = decide (gmoves f ≠ 0) := by unfold orB; rw [if_neg (by omega), if_neg (by omega), if_neg (by omega), if_pos k]
    have eG : orG (ltN c len) f a = dMv f (bmN f) := by unfold orG; rw [if_neg (by omega), if_neg (by omega), if_neg (by omega), if_pos k]
    have hc : fX8_carryOutOrder (nI a) M = zi (fX8_playOn 1 M) (fun r_10 X_9 => some (r_10, X_9)) := by
      unfold fX8_carryOutOrder
      rw [hv, zi_ok, ev, k, if_neg (show ¬ nI 109 = (43 : Int32) by decide), if_neg (show ¬ nI 109 = (45 : Int32) by decide), if_neg (show ¬ nI 109 = (114 : Int32) by decide), if_neg (show ¬ nI 109 = (112 : Int32) by decide)]
    rw [hc, eB, eG]
    unfold fX8_playOn
    rw [if_neg (by decide), if_pos (by decide), f_isOver (by rw [h0]; exact h), zi_ok, h0]
    by_cases d : gmoves f = 0
    · rw [if_pos d, if_neg i10, zi_ok, decide_eq_false (fun q => q d)]
      exact ⟨-5, M, rfl, ⟨fun _ => rfl, fun _ => by decide⟩, h0, S, fun r _ _ _ _ _ => rfl⟩
    · rw [if_neg d, if_pos rfl, decide_eq_true d]
      obtain ⟨M', m1, m2, m3, m4⟩ := f_plays (K := 1) (by decide) fuel 0 f M (by decide) (by have := fuel_ge; omega) h h0 S
      have eu : plG 1 fuel 0 f = (1, dMv f (bmN f)) := by
        obtain ⟨q, hq⟩ : ∃ q, fuel = q + 1 + 1 := ⟨999998, rfl⟩
        rw [hq]
        show (if 1 ≤ 0 then _ else if gmoves f = 0 then _ else plG 1 (q + 1) (0 + 1) (dMv f (bmN f))) = _
        rw [if_neg (by decide), if_neg d]
        show (if 1 ≤ 0 + 1 then _ else _) = _
        rw [if_pos (by decide)]
      rw [eu] at m1 m2
      refine ⟨nI 1, M', ?_, ⟨fun q => absurd q (by decide), fun q => absurd q (by decide)⟩, m2, m3, m4⟩
      rw [show fX8_playOn_29 fuel 1 0 M = _ from m1, zi_ok]
  · have b1 := dg_9 d1
    have b2 := dg_9 d2
    obtain ⟨r, t1, t2⟩ := f_giveN h0 h b1.2.1 b2.2.1
    refine wr (decide (ltN c len (a + 1) - 48 ≤ 2) && decide (ltN c len (a + 1 + 1) - 48 ≤ 2)) (upd (upd f 7 (nI (ltN c len (a + 1) - 48))) 8 (nI (ltN c len (a + 1 + 1) - 48))) r (by rw [t2, ← Bool.not_eq_true, Bool.and_eq_true, decide_eq_true_eq, decide_eq_true_eq]) ?_ (by unfold orB; rw [if_neg (by omega), if_neg (by omega), if_neg (by omega), if_neg (by omega)]) (by unfold orG; rw [if_neg (by omega), if_neg (by omega), if_neg (by omega), if_neg (by omega)])
    unfold fX8_carryOutOrder
    rw [hv, zi_ok, ev, k, if_neg (show ¬ nI 114 = (43 : Int32) by decide), if_neg (show ¬ nI 114 = (45 : Int32) by decide), if_pos (show nI 114 = (114 : Int32) from rfl), e1, e2, f_digN hP (by omega) d1, zi_ok, f_digN hP (by omega) d2, zi_ok, t1, zi_ok]
    congr 2
    by_cases q : ltN c len (a + 1) - 48 ≤ 2 ∧ ltN c len (a + 1 + 1) - 48 ≤ 2
    · rw [if_pos q, decide_eq_true q.1, decide_eq_true q.2]
      rfl
    · rw [if_neg q, if_neg]
      rw [Bool.and_eq_true, decide_eq_true_eq, decide_eq_true_eq]
      exact q
theorem q_refT {N : XM} {f : Nat → Int32} (h0 : N 23 = f) (h : gok f) {mv : Nat} (hm : mv < 21) (hb : (gmoves f).testBit mv = true) : zv (fX9_does (nI mv) N) (fun X => some X) = some (srw N 23 (dMv f mv)) := by
  rw [q_does h0 h hm hb, zv_ok]
theorem q_order {N : XM} {f : Nat → Int32} (h31 : ∀ i, ltN c len i < 2 ^ 31) (h0 : N 23 = f) (h : gok f) {a k : Nat} (hk : k ≤ 41) (hw : (oeN (ltN c len) a).1 = true) (hD : ∀ j, j < 4 → N 32 (4 * k + j) = odN (ltN c len) a j) :
    ∃ r, fX9_refuses (nI (4 * k)) N = some (r, N) ∧ (r = 0 ↔ orB (ltN c len) f a = true) ∧ (orB (ltN c len) f a = true → ∃ N', fX9_carries (nI (4 * k)) N = some N' ∧ N' 23 = orG (ltN c len) f a ∧ ∀ r, r ≠ 23 → r ≠ 29 → r ≠ 30 → N' r = N r) := by
  have p1 : nI (4 * k) + 1 = nI (4 * k + 1) := nI_add _ 1
  have p2 : nI (4 * k) + 2 = nI (4 * k + 2) := nI_add _ 2
  have p3 : nI (4 * k) + 3 = nI (4 * k + 3) := nI_add _ 3
  have c0 : (nI (4 * k)).toNatClampNeg = 4 * k := nI_clampN (by omega)
  have c1 : (nI (4 * k + 1)).toNatClampNeg = 4 * k + 1 := nI_clampN (by omega)
  have c2 : (nI (4 * k + 2)).toNatClampNeg = 4 * k + 2 := nI_clampN (by omega)
  have c3 : (nI (4 * k + 3)).toNatClampNeg = 4 * k + 3 := nI_clampN (by omega)
  have v0 : ∀ {β : Type} (x : Option β), zd (nI (4 * k)) 168 x = x := fun x => zd_ok (vp_in_nI (by omega) (by decide))
  have v1 : ∀ {β : Type} (x : Option β), zd (nI (4 * k + 1)) 168 x = x := fun x => zd_ok (vp_in_nI (by omega) (by decide))
  have v2 : ∀ {β : Type} (x : Option β), zd (nI (4 * k + 2)) 168 x = x := fun x => zd_ok (vp_in_nI (by omega) (by decide))
  have v3 : ∀ {β : Type} (x : Option β), zd (nI (4 * k + 3)) 168 x = x := fun x => zd_ok (vp_in_nI (by omega) (by decide))
  have d0 : N 32 (4 * k) = nI (ltN c len a) := hD 0 (by decide)
  have d1 : N 32 (4 * k + 1) = _ := hD 1 (by decide)
  have d2 : N 32 (4 * k + 2) = _ := hD 2 (by decide)
  have d3 : N 32 (4 * k + 3) = _ := hD 3 (by decide)
  rw [od1] at d1
  rw [od2] at d2
  rw [od3] at d3
  have h4 := h.2.2.2.1
  unfold fX9_refuses fX9_carries
  rw [p1, p2, p3, v1, zl_ok, v2, zl_ok, v0, v1, zl_ok, v2, zl_ok, v0, c0, c1, c2, c3, d0, d1, d2, d3]
  rcases oe_kind hw with ⟨kk, g1, g3⟩ | ⟨kk, g1, g3⟩ | kk | kk | ⟨kk, g1, g2⟩
  · have b1 := dg_9 g1
    have ew : (if ltN c len (a + 1 + 1) = 119 then nI (ltN c len (a + 1 + 1 + 1)) - 48 else 1) = nI (pwN (ltN c len) a) := by
      unfold pwN
      by_cases g2 : ltN c len (a + 1 + 1) = 119
      · rw [if_pos g2, if_pos g2, (dg_9 (g3 g2)).2.2]
      · rw [if_neg g2, if_neg g2]; rfl
    have ep : (if ltN c len (a + 1 + 1) = 119 then (if ltN c len (a + 1 + 1 + 1 + 1) = 33 then (1 : Int32) else 0) else if ltN c len (a + 1 + 1) = 33 then 1 else 0) = nI (poN (ltN c len) a) := by
      unfold poN
      repeat' split
      all_goals rfl
    have eB : orB (ltN c len) f a = (decide (ltN c len (a + 1) - 48 ≤ 5) && decide (xun (f 2) < 4)) := by unfold orB; rw [if_pos kk]
    have eG : orG (ltN c len) f a = dPile f (xun (f 2)) (nI (ltN c len (a + 1) - 48)) (nI (pwN (ltN c len) a)) (nI (poN (ltN c len) a)) := by unfold orG; rw [if_pos kk]
    rw [if_neg (show ¬ (ltN c len a = 112 ∨ ltN c len a = 109) by omega), if_pos kk, if_pos kk, kk, if_pos (show nI 43 = (43 : Int32) from rfl), if_pos (show nI 43 = (43 : Int32) from rfl), v3, v3, b1.2.2, ew, ep, q_refPile h0 h b1.2.1 (pw_9 g3) po_1, zi_ok, eB, eG]
    refine ⟨_, rfl, ?_, fun q => ?_⟩
    · by_cases q5 : 5 < ltN c len (a + 1) - 48
      · rw [if_pos q5, decide_eq_false (show ¬ ltN c len (a + 1) - 48 ≤ 5 by omega), Bool.false_and]
        exact ⟨fun q => absurd q (by decide), fun q => absurd q Bool.false_ne_true⟩
      · rw [if_neg q5, decide_eq_true (show ltN c len (a + 1) - 48 ≤ 5 by omega), Bool.true_and]
        by_cases q4 : xun (f 2) = 4
        · rw [if_pos q4, decide_eq_false (show ¬ xun (f 2) < 4 by omega)]
          exact ⟨fun q => absurd q (by decide), fun q => absurd q Bool.false_ne_true⟩
        · rw [if_neg q4, decide_eq_true (show xun (f 2) < 4 by omega)]
          exact ⟨fun _ => rfl, fun _ => rfl⟩
    · rw [Bool.and_eq_true, decide_eq_true_eq, decide_eq_true_eq] at q
      rw [q_comes h0 q.2, zi_ok]
      exact ⟨_, rfl, srw_s, fun r a _ _ => srw_n a⟩
  · have b1 := dg_9 g1
    have b3 := dg_9 g3
    have eB : orB (ltN c len) f a = tkB f (ltN c len (a + 1) - 48) (ltN c len (a + 1 + 1 + 1) - 48) := by unfold orB; rw [if_neg (by omega), if_pos kk]
    have eG : orG (ltN c len) f a = dMv f (5 * (ltN c len (a + 1) - 48) + (ltN c len (a + 1 + 1 + 1) - 48 - 1)) := by unfold orG; rw [if_neg (by omega), if_pos kk]
    obtain ⟨r, t1, t2⟩ := q_takeN h0 h b1.2.1 b3.2.1
    rw [if_neg (show ¬ (ltN c len a = 112 ∨ ltN c len a = 109) by omega), if_neg (show ¬ ltN c len a = 43 by omega), if_pos kk, kk, if_neg (show ¬ nI 45 = (43 : Int32) by decide), if_neg (show ¬ nI 45 = (43 : Int32) by decide), if_pos (show nI 45 = (45 : Int32) from rfl), if_pos (show nI 45 = (45 : Int32) from rfl), b1.2.2, b3.2.2, t1, zi_ok, eB, eG]
    refine ⟨r, rfl, t2, fun q => ?_⟩
    obtain ⟨q1, q2, q3, q4⟩ := tkB_ok h q
    rw [mvcode _ q1 _ (by omega) q2, q_does h0 h (by omega) q4, zv_ok]
    exact ⟨_, rfl, srw_s, fun r a _ _ => srw_n a⟩
  · have eB : orB (ltN c len) f a = (gmoves f).testBit 20 := by unfold orB; rw [if_neg (by omega), if_neg (by omega), if_pos kk]
    have eG : orG (ltN c len) f a = dMv f 20 := by unfold orG; rw [if_neg (by omega), if_neg (by omega), if_pos kk]
    rw [kk, if_neg (show ¬ nI 112 = (43 : Int32) by decide), if_neg (show ¬ nI 112 = (43 : Int32) by decide), if_neg (show ¬ nI 112 = (45 : Int32) by decide), if_neg (show ¬ nI 112 = (45 : Int32) by decide), if_neg (show ¬ nI 112 = (109 : Int32) by decide), if_neg (show ¬ nI 112 = (109 : Int32) by decide), if_pos (show nI 112 = (112 : Int32) from rfl), if_pos (show nI 112 = (112 : Int32) from rfl), q_canPass (by rw [h0]; exact h), zi_ok, h0, eB, eG]
    by_cases q : (gmoves f).testBit 20 = true
    · rw [if_pos q, if_neg i10]
      refine ⟨0, rfl, ⟨fun _ => q, fun _ => rfl⟩, fun _ => ?_⟩
      rw [show fX9_does 20 N = _ from q_does h0 h (mv := 20) (by decide) q, zv_ok]
      exact ⟨_, rfl, srw_s, fun r a _ _ => srw_n a⟩
    · rw [if_neg q, if_pos rfl]
      exact ⟨-5, rfl, ⟨fun w => absurd w (by decide), fun w => absurd w q⟩, fun w => absurd w q⟩
  · have eB : orB (ltN c len) f a = decide (gmoves f ≠ 0) := by unfold orB; rw [if_neg (by omega), if_neg (by omega), if_neg (by omega), if_pos kk]
    have eG : orG (ltN c len) f a = dMv f (bmN f) := by unfold orG; rw [if_neg (by omega), if_neg (by omega), if_neg (by omega), if_pos kk]
    rw [kk, if_neg (show ¬ nI 109 = (43 : Int32) by decide), if_neg (show ¬ nI 109 = (43 : Int32) by decide), if_neg (show ¬ nI 109 = (45 : Int32) by decide), if_neg (show ¬ nI 109 = (45 : Int32) by decide), if_pos (show nI 109 = (109 : Int32) from rfl), if_pos (show nI 109 = (109 : Int32) from rfl), q_isOver (by rw [h0]; exact h), zi_ok, h0, eB, eG]
    by_cases d : gmoves f = 0
    · rw [if_pos d, if_neg i10, decide_eq_false (fun q => q d)]
      exact ⟨-5, rfl, ⟨fun w => absurd w (by decide), fun w => absurd w Bool.false_ne_true⟩, fun w => absurd w Bool.false_ne_true⟩
    · rw [if_neg d, if_pos rfl, decide_eq_true d]
      refine ⟨0, rfl, ⟨fun _ => rfl, fun _ => rfl⟩, fun _ => ?_⟩
      obtain ⟨V, w1, w2, w3⟩ := q_reckonsAll h h0
      obtain ⟨M', m1, m2, m3⟩ := q_plays (K := 1) (by decide) fuel 0 f V (by decide) (by have := fuel_ge; omega) h (by rw [w3 23 (by decide) (by decide)]; exact h0) w2
      have eu : plG 1 fuel 0 f = (1, dMv f (bmN f)) := by
        obtain ⟨q, hq⟩ : ∃ q, fuel = q + 1 + 1 := ⟨999998, rfl⟩
        rw [hq]
        show (if 1 ≤ 0 then _ else if gmoves f = 0 then _ else plG 1 (q + 1) (0 + 1) (dMv f (bmN f))) = _
        rw [if_neg (by decide), if_neg d]
        show (if 1 ≤ 0 + 1 then _ else _) = _
        rw [if_pos (by decide)]
      rw [eu] at m1 m2
      unfold fX9_plays
      rw [w1, zv_ok, show fX9_plays_6 fuel 1 0 V = _ from m1, zi_ok]
      exact ⟨M', rfl, m2, fun r a b e => by rw [m3 r a, w3 r b e]⟩
  · have b1 := dg_9 g1
    have b2 := dg_9 g2
    have eB : orB (ltN c len) f a = (decide (ltN c len (a + 1) - 48 ≤ 2) && decide (ltN c len (a + 1 + 1) - 48 ≤ 2)) := by unfold orB; rw [if_neg (by omega), if_neg (by omega), if_neg (by omega), if_neg (by omega)]
    have eG : orG (ltN c len) f a = upd (upd f 7 (nI (ltN c len (a + 1) - 48))) 8 (nI (ltN c len (a + 1 + 1) - 48)) := by unfold orG; rw [if_neg (by omega), if_neg (by omega), if_neg (by omega), if_neg (by omega)]
    obtain ⟨r, t1, t2⟩ := q_giveN (N := N) b1.2.1 b2.2.1
    rw [if_neg (show ¬ (ltN c len a = 112 ∨ ltN c len a = 109) by omega), if_neg (show ¬ ltN c len a = 43 by omega), if_neg (show ¬ ltN c len a = 45 by omega), if_pos kk, kk, if_neg (show ¬ nI 114 = (43 : Int32) by decide), if_neg (show ¬ nI 114 = (43 : Int32) by decide), if_neg (show ¬ nI 114 = (45 : Int32) by decide), if_neg (show ¬ nI 114 = (45 : Int32) by decide), if_neg (show ¬ nI 114 = (109 : Int32) by decide), if_neg (show ¬ nI 114 = (109 : Int32) by decide), if_neg (show ¬ nI 114 = (112 : Int32) by decide), if_neg (show ¬ nI 114 = (112 : Int32) by decide), b1.2.2, b2.2.2, t1, zi_ok, eB, eG]
    refine ⟨r, rfl, by rw [t2, Bool.and_eq_true, decide_eq_true_eq, decide_eq_true_eq], fun _ => ?_⟩
    unfold fX9_gives
    rw [zl_ok, zl_ok, zv_ok, xup_eq, xup_eq, srw_ss, srw_s, h0]
    exact ⟨_, rfl, srw_s, fun r a _ _ => srw_n a⟩
theorem orG_ok {L : Nat → Nat} {f : Nat → Int32} (h : gok f) {a : Nat} (hw : (oeN L a).1 = true) (hb : orB L f a = true) : gok (orG L f a) := by
  have h4 := h.2.2.2.1
  unfold orB at hb
  unfold orG
  rcases oe_kind hw with ⟨kk, g1, g3⟩ | ⟨kk, g1, g3⟩ | kk | kk | ⟨kk, g1, g2⟩
  · rw [if_pos kk, Bool.and_eq_true, decide_eq_true_eq, decide_eq_true_eq] at hb
    rw [if_pos kk]
    have w9 := pw_9 g3
    have p1 := po_1 (L := L) (a := a)
    exact gok_dPile h rfl hb.2 (by rw [xun_nI (by omega)]; exact hb.1) (by rw [xun_nI (by omega)]; exact w9) (by rw [xun_nI (by omega)]; exact p1)
  · rw [if_neg (by omega), if_pos kk] at hb
    rw [if_neg (by omega), if_pos kk]
    obtain ⟨q1, q2, q3, q4⟩ := tkB_ok h hb
    exact gok_dMv h (by omega) q4
  · rw [if_neg (by omega), if_neg (by omega), if_pos kk] at hb
    rw [if_neg (by omega), if_neg (by omega), if_pos kk]
    exact gok_dMv h (by decide) hb
  · rw [if_neg (by omega), if_neg (by omega), if_neg (by omega), if_pos kk, decide_eq_true_eq] at hb
    rw [if_neg (by omega), if_neg (by omega), if_neg (by omega), if_pos kk]
    have := bm_ok h hb
    exact gok_dMv h this.2.1 this.2.2.2
  · rw [if_neg (by omega), if_neg (by omega), if_neg (by omega), if_neg (by omega), Bool.and_eq_true, decide_eq_true_eq, decide_eq_true_eq] at hb
    rw [if_neg (by omega), if_neg (by omega), if_neg (by omega), if_neg (by omega)]
    exact gok_u8 (gok_u7 h (by rw [xun_nI (by omega)]; exact hb.1)) (by rw [xun_nI (by omega)]; exact hb.2)
end OC
