section MD
variable {X : XM}
theorem q_5 {mv : Nat} (h : mv < 2 ^ 31) : nI mv / 5 = nI (mv / 5) ∧ o_rem (nI mv) 5 + 1 = nI (mv % 5 + 1) := by
  constructor
  · rw [show (5 : Int32) = nI 5 from rfl, pk_div h (by decide) (by decide)]
  · unfold o_rem
    rw [show (5 : Int32) = nI 5 from rfl, pk_rem h (by decide) (by decide), nI_1]
theorem n20 {mv : Nat} (h : mv < 20) : ¬ nI mv = (20 : Int32) := fun q => absurd (nI_inj (b := 20) (by omega) (by decide) q) (by omega)
theorem dTake_eq {f : Nat → Int32} {m p t : Nat} (hm1 : m ≤ 1) (hp : p < 4) (v : Int32) (hv : v = if f (13 + 4 * p) = 1 ∧ f (11 + 4 * p) = nI t then 1 else 0) : upd (upd (upd (upd (upd (upd f (9 + m) (f (9 + m) + nI t * f (12 + 4 * p))) 5 v) 4 0) (11 + 4 * p) (f (11 + 4 * p) - nI t)) 3 (1 - f 3)) 6 (f 6 + 1) = dTake f m p t := by
  funext k
  simp only [upd, dTake, ← hv]
  by_cases k6 : k = 6
  · subst k6
    simp
  · rw [if_neg k6]
    by_cases k3 : k = 3
    · rw [if_pos k3, if_pos k3]
    · rw [if_neg k3, if_neg k3]
      by_cases k11 : k = 11 + 4 * p
      · subst k11
        rw [if_pos rfl, if_neg (by omega), if_neg (by omega), if_neg (by omega), if_neg (by omega), if_pos rfl]
      · rw [if_neg k11]
        by_cases k4 : k = 4
        · rw [if_pos k4, if_pos k4]
        · rw [if_neg k4, if_neg k4]
          by_cases k5 : k = 5
          · rw [if_pos k5, if_pos k5]
          · rw [if_neg k5, if_neg k5, if_neg k6]
            by_cases k9 : k = 9 + m
            · subst k9
              rw [if_pos rfl, if_pos rfl]
            · rw [if_neg k9, if_neg k9, if_neg k11]
end MD
