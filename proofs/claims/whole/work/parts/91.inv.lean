/-! WHAT STANDS BETWEEN TWO OPERATIONS, all of it -/
section IV
def Inv (X : XM) : Prop := Base X ∧ SI X ∧ SIn X
theorem SI_cong {X Y : XM} (h : SI X) (e1 : Y 18 = X 18) (e2 : Y 19 = X 19) : SI Y := by
  unfold SI SZ
  rw [e1, e2]
  exact h
theorem lift1 {X : XM} {c r : XM → Option (Int32 × XM)} (I : Inv X) (h : ∃ v X1 X2, c X = some (v, X1) ∧ r X1 = some (v, X2) ∧ Base X2 ∧ Kp X X2) : ∃ v X1 X2, c X = some (v, X1) ∧ r X1 = some (v, X2) ∧ Inv X2 := by
  obtain ⟨v, X1, X2, a, b, d, k⟩ := h
  exact ⟨v, X1, X2, a, b, d, SI_cong I.2.1 (k 18 (by decide) (by decide)) (k 19 (by decide) (by decide)), SIn_cong I.2.2 (fun r a b => k r a (by omega))⟩
theorem lift2 {X : XM} {c r : XM → Option (Int32 × XM)} (I : Inv X) (h : ∃ v X1 X2, c X = some (v, X1) ∧ r X1 = some (v, X2) ∧ Base X2 ∧ SI X2 ∧ K17 X X2) : ∃ v X1 X2, c X = some (v, X1) ∧ r X1 = some (v, X2) ∧ Inv X2 := by
  obtain ⟨v, X1, X2, a, b, d, s, k⟩ := h
  exact ⟨v, X1, X2, a, b, d, s, SIn_cong I.2.2 k⟩
theorem lift3 {X : XM} {c r : XM → Option (Int32 × XM)} (I : Inv X) (h : ∃ v X1 X2, c X = some (v, X1) ∧ r X1 = some (v, X2) ∧ Base X2 ∧ SIn X2 ∧ K89 X X2) : ∃ v X1 X2, c X = some (v, X1) ∧ r X1 = some (v, X2) ∧ Inv X2 := by
  obtain ⟨v, X1, X2, a, b, d, s, k⟩ := h
  exact ⟨v, X1, X2, a, b, d, SI_cong I.2.1 (k 18 (Or.inl rfl)) (k 19 (Or.inr rfl)), s⟩
theorem sin_XI : SIn XI := ⟨by decide +kernel, rfl, Or.inl rfl⟩
theorem inv_XI : Inv XI := ⟨base_XI, si_XI, sin_XI⟩
end IV
