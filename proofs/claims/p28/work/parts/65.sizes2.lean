/-! THE SIZES: the reference's side, and the three operations -/
section SZ2
theorem f_nimber {tk : Nat} (h1 : 1 ≤ tk) (htk : tk < 32) {X : XM} (I : SI X) {a b : Int32} {t : Nat} (ha : a = nI tk) (hb : b = nI t) (ht : t < 201) : ∃ Y, fX5_nimber a b X = some (nI (gr tk t), Y) ∧ (∀ r, r ≠ 18 → r ≠ 19 → Y r = X r) ∧ SZ tk Y := by
  obtain ⟨Y, hY, hr, hs⟩ := f_learn h1 htk I
  refine ⟨Y, ?_, hr, hs⟩
  unfold fX5_nimber
  rw [ha, hY, zv_ok, hb, if_neg (nI_pos (by omega)), if_neg (show ¬ (201 : Int32) ≤ nI t by rw [show (201 : Int32) = nI 201 from rfl, nI_leI (by decide) (by omega)]; omega), zd_ok (vp_in_nI ht (by decide)), nI_clampN (by omega), hs.2 t ht]
theorem f_nimbered {tk t : Nat} {X : XM} (h : SZ tk X) (ht : t < 201) : fX5_nimber (nI tk) (nI t) X = some (nI (gr tk t), X) := by
  unfold fX5_nimber
  rw [f_learned h, zv_ok, if_neg (nI_pos (by omega)), if_neg (show ¬ (201 : Int32) ≤ nI t by rw [show (201 : Int32) = nI 201 from rfl, nI_leI (by decide) (by omega)]; omega), zd_ok (vp_in_nI ht (by decide)), nI_clampN (by omega), h.2 t ht]
end SZ2
