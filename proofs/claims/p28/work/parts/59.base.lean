/-! WHAT STANDS BETWEEN TWO OPERATIONS, solver and sizes aside -/
section BS
theorem HC_cong {X Y : XM} {n : Nat} {C : Nat → Nat → Int32} (h : HC X n C) (e : ∀ r, r = 11 ∨ (3 ≤ r ∧ r ≤ 8) → Y r = X r) : HC Y n C := by
  obtain ⟨h1, h2, h3, h4, h5, h6⟩ := h
  have eg : ∀ j, gid Y j = gid X j := fun j => by unfold gid; rw [e 11 (Or.inl rfl)]
  refine ⟨h1, by rw [e 11 (Or.inl rfl)]; exact h2, fun j hj => by rw [eg]; exact h3 j hj, fun i j hi hj q => h4 i j hi hj (by rw [eg, eg] at q; exact q), fun r a b => by rw [e r (Or.inr ⟨a, b⟩)]; exact h5 r a b, fun j hj => ?_⟩
  have := h3 j (by omega)
  rw [eg, e _ (Or.inr this)]
  exact h6 j hj
theorem nn {n : Nat} {x : Int32} (h : xun x ≤ n) (hn : n < 2 ^ 31) : ¬ x < 0 := by
  rw [← nI_xun x]
  exact nI_pos (by omega)
theorem rng {x : Int32} {lo hi : Nat} (hh : hi < 2 ^ 31) (hl : lo ≤ hi) (h1 : ¬ x < nI lo) (h2 : ¬ nI hi < x) : lo ≤ xun x ∧ xun x ≤ hi := by
  rw [Int32.lt_iff_toInt_lt, nI_toInt (by omega)] at h1
  rw [Int32.lt_iff_toInt_lt, nI_toInt (by omega)] at h2
  have e : x.toInt = x.toBitVec.toInt := rfl
  rw [BitVec.toInt_eq_toNat_cond] at e
  have e2 : xun x = x.toBitVec.toNat := rfl
  rw [e2]
  split at e <;> omega
theorem pushN_le {n : Nat} : pushN n ≤ 6 := by unfold pushN; split <;> omega
theorem i10 : ¬ (1 : Int32) = 0 := by decide
end BS
