/-! THE PAD: the class's places -/
section PB
theorem f_behindDigit {a b : Int32} {X : XM} : fX2_behindDigit a b X = some (if a < 48 then 0 else if 57 < a then 0 else b, X) := by
  unfold fX2_behindDigit
  split
  · rfl
  · split <;> rfl
theorem f_behindPile {a : Int32} {X : XM} : fX2_placeBehindPile a X = some (if a = 33 then 10 else if a = 59 then 1 else 0, X) := by
  unfold fX2_placeBehindPile
  split
  · rfl
  · split <;> rfl
theorem f_behindSign {a : Int32} {X : XM} : fX2_placeBehindSign a X = some (if a = 43 then 2 else if a = 45 then 6 else if a = 114 then 8 else if a = 112 then 10 else if a = 109 then 10 else 0, X) := by
  unfold fX2_placeBehindSign
  split
  · rfl
  · split
    · rfl
    · split
      · rfl
      · split
        · rfl
        · split <;> rfl
def pbI (s a : Int32) : Int32 :=
  if s = 1 then (if a = 43 then 2 else if a = 45 then 6 else if a = 114 then 8 else if a = 112 then 10 else if a = 109 then 10 else 0)
  else if s = 2 then (if a < 48 then 0 else if 57 < a then 0 else 3)
  else if s = 3 then (if a = 119 then 4 else if a = 33 then 10 else if a = 59 then 1 else 0)
  else if s = 4 then (if a < 48 then 0 else if 57 < a then 0 else 5)
  else if s = 5 then (if a = 33 then 10 else if a = 59 then 1 else 0)
  else if s = 6 then (if a < 48 then 0 else if 57 < a then 0 else 7)
  else if s = 7 then (if a = 46 then 9 else 0)
  else if s = 8 then (if a < 48 then 0 else if 57 < a then 0 else 9)
  else if s = 9 then (if a < 48 then 0 else if 57 < a then 0 else 10)
  else if s = 10 then (if a = 59 then 1 else 0) else 0
theorem f_placeBehind {s a : Int32} {X : XM} : fX2_placeBehind s a X = some (pbI s a, X) := by
  unfold fX2_placeBehind pbI
  simp only [f_behindDigit, f_behindPile, f_behindSign, zi_ok]
  by_cases c1 : s = 1
  · rw [if_pos c1, if_pos c1]
  rw [if_neg c1, if_neg c1]
  by_cases c2 : s = 2
  · rw [if_pos c2, if_pos c2]
  rw [if_neg c2, if_neg c2]
  by_cases c3 : s = 3
  · rw [if_pos c3, if_pos c3]
    by_cases d : a = 119
    · rw [if_pos d, if_pos d]
    · rw [if_neg d, if_neg d]
  rw [if_neg c3, if_neg c3]
  by_cases c4 : s = 4
  · rw [if_pos c4, if_pos c4]
  rw [if_neg c4, if_neg c4]
  by_cases c5 : s = 5
  · rw [if_pos c5, if_pos c5]
  rw [if_neg c5, if_neg c5]
  by_cases c6 : s = 6
  · rw [if_pos c6, if_pos c6]
  rw [if_neg c6, if_neg c6]
  by_cases c7 : s = 7
  · rw [if_pos c7, if_pos c7]
    by_cases d : a = 46
    · rw [if_pos d, if_pos d]
    · rw [if_neg d, if_neg d]
  rw [if_neg c7, if_neg c7]
  by_cases c8 : s = 8
  · rw [if_pos c8, if_pos c8]
  rw [if_neg c8, if_neg c8]
  by_cases c9 : s = 9
  · rw [if_pos c9, if_pos c9]
  rw [if_neg c9, if_neg c9]
  by_cases c10 : s = 10
  · rw [if_pos c10, if_pos c10]
    by_cases d : a = 59
    · rw [if_pos d, if_pos d]
    · rw [if_neg d, if_neg d]
  rw [if_neg c10, if_neg c10]
end PB
