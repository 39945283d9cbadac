/-! THE OPERATIONS that move -/
section OM
theorem sub1 : ∀ n, n < 5 → (nI n - 1).toInt = (n : Int) - 1 := by decide
theorem mvcode : ∀ p, p < 4 → ∀ t, t < 6 → 1 ≤ t → (5 * nI p + nI t) - 1 = nI (5 * p + (t - 1)) := by decide +kernel
theorem gainpos : ∀ t, t < 6 → ∀ w, w < 10 → ¬ nI t * nI w < 0 := by decide +kernel
theorem take_bit {f : Nat → Int32} (h : gok f) {p t : Nat} (hp : p < 4) (ht : t < 6) (ht0 : 1 ≤ t) : (gmoves f).testBit (5 * p + (t - 1)) = true ↔ f 5 = 0 ∧ (xun (f 0)).testBit (t - 1) = true ∧ t ≤ gT f p := by
  by_cases c : f 5 = 0
  · rw [gmoves_bit h c (by omega)]
    unfold canN
    rw [if_neg (by omega), show (5 * p + (t - 1)) % 5 = t - 1 by omega, show (5 * p + (t - 1)) / 5 = p by omega, gcode_dig h hp, Bool.and_eq_true, decide_eq_true_eq]
    constructor
    · rintro ⟨a, b⟩
      exact ⟨c, a, by omega⟩
    · rintro ⟨_, a, b⟩
      exact ⟨a, by omega⟩
  · have e : gmoves f = 0 := by unfold gmoves; rw [if_neg c]
    rw [e, Nat.zero_testBit]
    constructor
    · intro q; exact absurd q (by decide)
    · rintro ⟨a, _⟩; exact absurd a c
theorem nat_of {a : Int32} (h : ¬ a < 0) : ∃ p, p < 2 ^ 31 ∧ a = nI p := by
  refine ⟨xun a, ?_, (nI_xun a).symm⟩
  rw [Int32.lt_iff_toInt_lt] at h
  have e : a.toInt = a.toBitVec.toInt := rfl
  rw [BitVec.toInt_eq_toNat_cond] at e
  have e2 : xun a = a.toBitVec.toNat := rfl
  have e0 : (0 : Int32).toInt = 0 := by decide
  have := a.toBitVec.isLt
  rw [e2]
  split at e <;> omega
end OM
