/-! THE PLAIN QUESTIONS -/
section AQ
variable {X : XM}
theorem flag_ok {x : Int32} (h : x = 0 ∨ x = 1) {Y : XM} : (if x = 0 then some ((0 : Int32), Y) else some ((1 : Int32), Y)) = some (x, Y) := by
  rcases h with q | q <;> rw [q] <;> rfl
theorem gwin_6 {f : Nat → Int32} (h : gok f) : gwin f = -6 ↔ gmoves f ≠ 0 := by
  unfold gwin
  have h3 := b01 h.2.2.2.2.1
  by_cases c : gmoves f = 0
  · rw [if_pos c]
    constructor
    · intro q
      exfalso
      split at q
      · rcases h3 with e | e <;> rw [e] at q <;> exact absurd q (by decide)
      · rcases h3 with e | e <;> rw [e] at q <;> exact absurd q (by decide)
    · intro q; exact absurd c q
  · rw [if_neg c]
    exact ⟨fun _ => c, fun _ => rfl⟩
end AQ
