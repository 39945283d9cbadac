/-! THE START -/
section XS
theorem base_XI : Base XI := by
  have z0 : ∀ r, (1 ≤ r ∧ r ≤ 10) → XI r = XI 0 := by
    intro r hr
    match r, hr with
    | 1, _ => rfl
    | 2, _ => rfl
    | 3, _ => rfl
    | 4, _ => rfl
    | 5, _ => rfl
    | 6, _ => rfl
    | 7, _ => rfl
    | 8, _ => rfl
    | 9, _ => rfl
    | 10, _ => rfl
  have zz : z27 (XI 0) := by
    intro k hk
    match k, hk with
    | k + 27, _ => rfl
  have g : gok (XI 0) := by
    refine ⟨by decide, by decide, by decide, by decide, by decide, by decide, by decide, by decide, by decide, fun p hp => ?_, zz⟩
    match p, hp with
    | 0, _ => decide
    | 1, _ => decide
    | 2, _ => decide
    | 3, _ => decide
  refine ⟨g, ?_, ⟨0, fun _ => XI 0, ⟨by decide, rfl, ?_, ?_, ?_, ?_⟩, ⟨rfl, ?_⟩, ?_⟩, ?_, ?_, ?_, ?_, ⟨0, by decide, rfl, rfl, fun i hi => absurd hi (by omega)⟩⟩
  · refine row27 ?_ zz ?_
    · intro k hk
      match k, hk with
      | k + 27, _ => rfl
    · refine all27 ?_ ?_ ?_ ?_ ?_ ?_ ?_ ?_ ?_ ?_ ?_ ?_ ?_ ?_ ?_ ?_ ?_ ?_ ?_ ?_ ?_ ?_ ?_ ?_ ?_ ?_ ?_ <;> rfl
  · intro j hj
    match j, hj with
    | 0, _ => decide
    | 1, _ => decide
    | 2, _ => decide
    | 3, _ => decide
    | 4, _ => decide
    | 5, _ => decide
  · intro i j hi hj
    have e : ∀ i, i < 6 → gid XI i = i + 3 := by
      intro i hi
      match i, hi with
      | 0, _ => decide
      | 1, _ => decide
      | 2, _ => decide
      | 3, _ => decide
      | 4, _ => decide
      | 5, _ => decide
    rw [e i hi, e j hj]
    omega
  · intro r a b
    rw [z0 r (by omega)]
    exact zz
  · intro j hj; omega
  · intro j hj; omega
  · intro j hj; omega
  · exact z0 1 (by decide) ▸ zz
  · exact z0 2 (by decide) ▸ zz
  · intro w hw
    rw [z0 (9 + w) (by omega)]
    exact zz
  · intro w hw
    exact ⟨rfl, Or.inl rfl⟩
theorem si_XI : SI XI := Or.inl rfl
end XS
