/-! THE SIZES: the period's operation -/
section PD
theorem op_period {X : XM} (I : Base X) (S : SI X) (a1 : Int32) : ∃ r X1 X2, fX8_period a1 X = some (r, X1) ∧ fX9_period a1 X1 = some (r, X2) ∧ Base X2 ∧ SI X2 ∧ K17 X X2 := by
  have main : ∀ (h0 : ¬ a1 < 0) (h1 : ¬ 1 < a1) (hc : fX8_period a1 X = fX8_period_14 fuel a1 1 X), ∃ r X1 X2, fX8_period a1 X = some (r, X1) ∧ fX9_period a1 X1 = some (r, X2) ∧ Base X2 ∧ SI X2 ∧ K17 X X2 := by
    intro h0 h1 hc
    have e00 : X 0 0 = nI (xun (X 0 0)) := (nI_xun _).symm
    have htk : xun (X 0 0) < 32 := by have := I.g0.2.1; omega
    have hf := fuel_ge
    have e23 : srw X 22 (upd (X 22) 0 0) 23 = X 0 := by rw [srw_n (by decide), I.same]
    obtain ⟨W, hW, wr, ws⟩ := q_lays (X := srw X 22 (upd (X 22) 0 0)) (by rw [e23]; exact I.g0)
    rw [e23] at ws
    obtain ⟨r, Y, a, b, c, _⟩ := per_pair I.g0.1 htk (a := a1) ws fuel 1 X e00 S (by decide) (by decide) (by omega)
    have y23 : srw Y 22 (upd (Y 22) 0 0) 23 = X 0 := by rw [srw_n (by decide), b 23 (by decide) (by decide), I.same]
    obtain ⟨Z, hZ, zr, zs⟩ := q_lays (X := srw Y 22 (upd (Y 22) 0 0)) (by rw [y23]; exact I.g0)
    rw [y23] at zs
    obtain ⟨r2, Y2, a2, _, _, d2⟩ := per_pair I.g0.1 htk (a := a1) zs fuel 1 X e00 S (by decide) (by decide) (by omega)
    have er : r2 = r := by
      rw [a] at a2
      cases a2
      rfl
    rw [er] at d2
    refine ⟨r, Y, Z, ?_, ?_, base_aux I (fun r a c => ?_) ?_ ?_, ?_, fun r a c => ?_⟩
    · rw [hc]; exact a
    · unfold fX9_period
      rw [zl_ok, xup_eq, q_inT h0 h1, zi_ok, if_neg i10, hZ, zv_ok]
      exact d2
    · rw [zr r (by omega), srw_n a, b r (by omega) (by omega)]
    · rw [zr 22 (by decide), srw_s, b 22 (by decide) (by decide)]; rfl
    · rw [zr 22 (by decide), srw_s, b 22 (by decide) (by decide)]; rfl
    · unfold SI SZ
      rw [zr 18 (by decide), zr 19 (by decide), srw_n (by decide), srw_n (by decide)]
      exact c
    · rw [zr r (by omega), srw_n (by omega), b r (by omega) (by omega)]
  by_cases c0 : a1 = 0
  · refine main (by rw [c0]; decide) (by rw [c0]; decide) ?_
    unfold fX8_period
    rw [if_pos c0, c0]
  by_cases c1 : a1 = 1
  · refine main (by rw [c1]; decide) (by rw [c1]; decide) ?_
    unfold fX8_period
    rw [if_neg c0, if_pos c1, c1]
  have c7 : a1 < 0 ∨ 1 < a1 := by
    by_cases p1 : a1 < 0
    · exact Or.inl p1
    · by_cases p2 : 1 < a1
      · exact Or.inr p2
      · exact absurd (b01 (rng (x := a1) (lo := 0) (hi := 1) (by decide) (by decide) p1 p2).2) (fun q => q.elim c0 c1)
  refine ⟨-2, X, _, ?_, ?_, (base_ask I).1, ?_, fun r a b => (base_ask I).2 r a (by omega)⟩
  · unfold fX8_period
    rw [if_neg c0, if_neg c1]
  · unfold fX9_period
    rw [zl_ok, xup_eq, q_inF c7, zi_ok, if_pos rfl]
  · unfold SI SZ
    rw [srw_n (by decide), srw_n (by decide)]; exact S
end PD
