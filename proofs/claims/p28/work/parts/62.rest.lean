/-! UNDO, SAVE, RESTORE, WIPE and the plain questions -/
section OR2
theorem two_of {a : Int32} (h1 : ¬ a < 0) (h2 : a < 2) : ∃ w, w < 2 ∧ a = nI w := by
  have hb := rng (x := a) (lo := 0) (hi := 1) (by decide) (by decide) h1 (fun q => by
    rw [Int32.lt_iff_toInt_lt] at h2 q
    have e1 : (2 : Int32).toInt = 2 := by decide
    have e2 : (nI 1).toInt = 1 := by decide
    omega)
  exact ⟨xun a, by omega, (nI_xun a).symm⟩
theorem two_out {a : Int32} (h : a < 0 ∨ ¬ a < 2) : a < 0 ∨ 1 < a := by
  refine h.imp id (fun q => ?_)
  rw [Int32.lt_iff_toInt_lt] at q ⊢
  have e1 : (2 : Int32).toInt = 2 := by decide
  have e2 : (1 : Int32).toInt = 1 := by decide
  omega
end OR2
