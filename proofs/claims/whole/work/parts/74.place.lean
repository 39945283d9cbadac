/-! THE PAD: the class's places -/
section PB
theorem f_behindDigit {a b : Int32} {X : XM} : fX2_behindDigit a b X = some (if a < 48 then 0 else if 57 < a then 0 else b, X) := by
  unfold fX2_behindDigit
  split
  · rfl
  · split <;> rfl
theorem f_behindPile {a : Int32} {X : XM} : fX2_placeBehindPile a X = some (if a = 33 then 10 else if a = 59 then 1 else 0, X) := by
  unfold fX2_placeBehindPile
  split
  · rfl
  · split <;> rfl
theorem f_behindSign {a : Int32} {X : XM} : fX2_placeBehindSign a X = some (if a = 43 then 2 else if a = 45 then 6 else if a = 114 then 8 else if a = 112 then 10 else if a = 109 then 10 else 0, X) := by
  unfold fX2_placeBehindSign
  split
  · rfl
  · split
    · rfl
    · split
      · rfl
      · split
        · rfl
        · split <;> rfl
end PB
