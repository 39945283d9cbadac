section MD
variable {X : XM}
theorem q_5 {mv : Nat} (h : mv < 2 ^ 31) : nI mv / 5 = nI (mv / 5) ∧ o_rem (nI mv) 5 + 1 = nI (mv % 5 + 1) := by
  constructor
  · rw [show (5 : Int32) = nI 5 from rfl, pk_div h (by decide) (by decide)]
  · unfold o_rem
    rw [show (5 : Int32) = nI 5 from rfl, pk_rem h (by decide) (by decide), nI_1]
theorem n20 {mv : Nat} (h : mv < 20) : ¬ nI mv = (20 : Int32) := fun q => absurd (nI_inj (b := 20) (by omega) (by decide) q) (by omega)
theorem q_gain {a : Int32} {mv : Nat} (ha : a = nI mv) (h : mv < 20) : fX9_gain a X = some (nI (mv % 5 + 1) * X 23 (12 + 4 * (mv / 5)), X) := by
  subst ha
  unfold fX9_gain
  rw [if_neg (n20 h), q_of (q_5 (by omega)).1 (show (1 : Int32) = nI 1 from rfl) (by omega) (by decide), zi_ok, (q_5 (by omega)).2, show 11 + 4 * (mv / 5) + 1 = 12 + 4 * (mv / 5) by omega]
theorem q_gain20 : fX9_gain 20 X = some (0, X) := rfl
theorem q_isPoisoned {a b : Int32} {mv c : Nat} (ha : a = nI mv) (hb : b = nI c) (h : mv < 20) (hc : c < 2 ^ 31) : fX9_isPoisoned a b X = some (if X 23 (13 + 4 * (mv / 5)) = 1 ∧ dig c (mv / 5) = mv % 5 + 1 then 1 else 0, X) := by
  subst ha hb
  unfold fX9_isPoisoned
  rw [if_neg (n20 h), q_of (q_5 (by omega)).1 (show (2 : Int32) = nI 2 from rfl) (by omega) (by decide), zi_ok, show 11 + 4 * (mv / 5) + 2 = 13 + 4 * (mv / 5) by omega]
  by_cases c1 : X 23 (13 + 4 * (mv / 5)) = 1
  · rw [if_pos c1, q_tokensIn rfl (q_5 (by omega)).1 (by omega) hc, zi_ok, (q_5 (by omega)).2]
    have hd : dig c (mv / 5) < 6 := Nat.mod_lt _ (by decide)
    by_cases c2 : dig c (mv / 5) = mv % 5 + 1
    · rw [if_pos (by rw [c2]), if_pos ⟨c1, c2⟩]
    · rw [if_neg (fun q => c2 (nI_inj (by omega) (by omega) q)), if_neg (fun q => c2 q.2)]
  · rw [if_neg c1, if_neg (fun q => c1 q.1)]
theorem q_isPoisoned20 {b : Int32} : fX9_isPoisoned 20 b X = some (0, X) := rfl
theorem dTake_eq {f : Nat → Int32} {m p t : Nat} (hm1 : m ≤ 1) (hp : p < 4) (v : Int32) (hv : v = if f (13 + 4 * p) = 1 ∧ f (11 + 4 * p) = nI t then 1 else 0) : upd (upd (upd (upd (upd (upd f (9 + m) (f (9 + m) + nI t * f (12 + 4 * p))) 5 v) 4 0) (11 + 4 * p) (f (11 + 4 * p) - nI t)) 3 (1 - f 3)) 6 (f 6 + 1) = dTake f m p t := by
  funext k
  simp only [upd, dTake, ← hv]
  by_cases k6 : k = 6
  · subst k6
    simp
  · rw [if_neg k6]
    by_cases k3 : k = 3
    · rw [if_pos k3, if_pos k3]
    · rw [if_neg k3, if_neg k3]
      by_cases k11 : k = 11 + 4 * p
      · subst k11
        rw [if_pos rfl, if_neg (by omega), if_neg (by omega), if_neg (by omega), if_neg (by omega), if_pos rfl]
      · rw [if_neg k11]
        by_cases k4 : k = 4
        · rw [if_pos k4, if_pos k4]
        · rw [if_neg k4, if_neg k4]
          by_cases k5 : k = 5
          · rw [if_pos k5, if_pos k5]
          · rw [if_neg k5, if_neg k5, if_neg k6]
            by_cases k9 : k = 9 + m
            · subst k9
              rw [if_pos rfl, if_pos rfl]
            · rw [if_neg k9, if_neg k9, if_neg k11]
theorem q_doesT (h : gok (X 23)) {m : Nat} (hm : X 23 3 = nI m) (hm1 : m ≤ 1) {a : Int32} {mv : Nat} (ha : a = nI mv) (hmv : mv < 20) (ht : mv % 5 + 1 ≤ gT (X 23) (mv / 5)) : fX9_does a X = some (srw X 23 (dTake (X 23) m (mv / 5) (mv % 5 + 1))) := by
  subst ha
  have hp : mv / 5 < 4 := by omega
  have h9 : (9 : Int32) + nI m = nI (9 + m) := nI_add 9 m
  generalize hf : X 23 = f at *
  have e9 : ∀ v : Int32, ∀ k, k ≠ 9 + m → upd f (9 + m) v k = f k := fun v k hk => by unfold upd; rw [if_neg hk]
  unfold fX9_does
  rw [hf, hm, h9, zd_ok (vp_in_nI (by omega) (by decide)), q_gain rfl hmv, zi_ok, hf, zd_ok (vp_in_nI (by omega) (by decide)), nI_clampN (by omega), zl_ok, xup_eq, hf]
  have hc : gcode (upd f (9 + m) (f (9 + m) + nI (mv % 5 + 1) * f (12 + 4 * (mv / 5)))) = gcode f := by
    unfold gcode gT
    rw [e9 _ _ (by omega), e9 _ _ (by omega), e9 _ _ (by omega), e9 _ _ (by omega)]
  rw [q_code, zi_ok, srw_s, hc, q_isPoisoned rfl rfl hmv (by have := gcode_lt h; omega), zi_ok, srw_s, e9 _ _ (by omega), gcode_dig h hp]
  have hT : f (11 + 4 * (mv / 5)) = nI (gT f (mv / 5)) := (nI_xun _).symm
  have h5 := gT_le h hp
  have hz : gT f (mv / 5) = mv % 5 + 1 ↔ f (11 + 4 * (mv / 5)) = nI (mv % 5 + 1) := by rw [hT, nI_iff (by omega) (by omega)]
  simp only [n20 hmv, if_false]
  have tail : ∀ v : Int32, (v = if f (13 + 4 * (mv / 5)) = 1 ∧ f (11 + 4 * (mv / 5)) = nI (mv % 5 + 1) then 1 else 0) → (zl (xup (srw X 23 (upd f (9 + m) (f (9 + m) + nI (mv % 5 + 1) * f (12 + 4 * (mv / 5))))) 23 5 v) fun X_15 => zl (xup X_15 23 4 0) fun X_18 => zi (fX9_of (nI mv / 5) 0 X_18) fun r_22 X_21 => zv (fX9_lay (nI mv / 5) 0 (r_22 - (o_rem (nI mv) 5 + 1)) X_21) fun X_24 => zl (xup X_24 23 3 (1 - X_24 23 3)) fun X_26 => zl (xup X_26 23 6 (X_26 23 6 + 1)) fun X_28 => some X_28) = some (srw X 23 (dTake f m (mv / 5) (mv % 5 + 1))) := by
    intro v hv
    rw [zl_ok, zl_ok, xup_eq, xup_eq, srw_s, srw_ss, srw_s, srw_ss]
    rw [q_of (q_5 (by omega)).1 (show (0 : Int32) = nI 0 from rfl) hp (by decide), zi_ok, q_lay (q_5 (by omega)).1 (show (0 : Int32) = nI 0 from rfl) hp (by decide), zv_ok, zl_ok, zl_ok, xup_eq, xup_eq]
    simp only [srw_s, srw_ss, Nat.add_zero]
    rw [(q_5 (by omega)).2]
    have r11 : upd (upd (upd f (9 + m) (f (9 + m) + nI (mv % 5 + 1) * f (12 + 4 * (mv / 5)))) 5 v) 4 0 (11 + 4 * (mv / 5)) = f (11 + 4 * (mv / 5)) := by
      unfold upd
      rw [if_neg (by omega), if_neg (by omega), if_neg (by omega)]
    rw [r11]
    have r3 : upd (upd (upd (upd f (9 + m) (f (9 + m) + nI (mv % 5 + 1) * f (12 + 4 * (mv / 5)))) 5 v) 4 0) (11 + 4 * (mv / 5)) (f (11 + 4 * (mv / 5)) - nI (mv % 5 + 1)) 3 = f 3 := by
      unfold upd
      rw [if_neg (by omega), if_neg (by omega), if_neg (by omega), if_neg (by omega)]
    have r6 : upd (upd (upd (upd (upd f (9 + m) (f (9 + m) + nI (mv % 5 + 1) * f (12 + 4 * (mv / 5)))) 5 v) 4 0) (11 + 4 * (mv / 5)) (f (11 + 4 * (mv / 5)) - nI (mv % 5 + 1))) 3 (1 - f 3) 6 = f 6 := by
      unfold upd
      rw [if_neg (by omega), if_neg (by omega), if_neg (by omega), if_neg (by omega), if_neg (by omega)]
    rw [r3, r6, dTake_eq hm1 hp v hv]
  by_cases c : f (13 + 4 * (mv / 5)) = 1 ∧ gT f (mv / 5) = mv % 5 + 1
  · rw [if_pos c, if_neg (by decide)]
    exact tail 1 (by rw [if_pos ⟨c.1, hz.mp c.2⟩])
  · rw [if_neg c, if_pos rfl]
    exact tail 0 (by rw [if_neg (fun q => c ⟨q.1, hz.mpr q.2⟩)])
theorem q_doesP (h : gok (X 23)) (h5 : X 23 5 = 0) {m : Nat} (hm : X 23 3 = nI m) (hm1 : m ≤ 1) : fX9_does 20 X = some (srw X 23 (dPass (X 23) m)) := by
  have h9 : (9 : Int32) + nI m = nI (9 + m) := nI_add 9 m
  have h7 : (7 : Int32) + nI m = nI (7 + m) := nI_add 7 m
  generalize hf : X 23 = f at *
  unfold fX9_does
  rw [hf, hm, h9, zd_ok (vp_in_nI (by omega) (by decide)), q_gain20, zi_ok, zd_ok (vp_in_nI (by omega) (by decide)), nI_clampN (by omega), zl_ok, xup_eq, hf, q_code, zi_ok, q_isPoisoned20, zi_ok, if_pos rfl, zl_ok, if_pos rfl, zl_ok]
  have e0 : f (9 + m) + 0 = f (9 + m) := by simp
  have eu : upd f (9 + m) (f (9 + m) + 0) = f := by
    rw [e0]
    funext k
    unfold upd
    split
    · next q => rw [q]
    · rfl
  rw [eu]
  have ef : srw X 23 f = X := by rw [← hf, srw_id]
  rw [ef]
  simp only [xup_eq, srw_s, srw_ss, hf]
  have a3 : upd (upd f 5 0) 4 1 3 = nI m := by
    unfold upd
    rw [if_neg (by decide), if_neg (by decide)]
    exact hm
  rw [a3, h7, zd_ok (vp_in_nI (by omega) (by decide)), zd_ok (vp_in_nI (by omega) (by decide)), nI_clampN (by omega)]
  simp only [zl_ok, srw_s, srw_ss]
  congr 2
  funext k
  simp only [upd, dPass]
  by_cases k6 : k = 6
  · subst k6
    have n6 : ¬ 6 = 7 + m := by omega
    simp [n6]
  · rw [if_neg k6]
    by_cases k3 : k = 3
    · subst k3
      have n3 : ¬ 3 = 7 + m := by omega
      simp [n3]
    · rw [if_neg k3, if_neg k3]
      by_cases k7 : k = 7 + m
      · subst k7
        have n4 : ¬ 7 + m = 4 := by omega
        have n5 : ¬ 7 + m = 5 := by omega
        have n6 : ¬ 7 + m = 6 := by omega
        simp [n4, n5, n6]
      · rw [if_neg k7]
        by_cases k4 : k = 4
        · rw [if_pos k4, if_pos k4]
        · rw [if_neg k4, if_neg k4]
          by_cases k5 : k = 5
          · subst k5
            rw [if_pos rfl, if_pos rfl, h5]
          · rw [if_neg k5, if_neg k5, if_neg k6, if_neg k7]
end MD
