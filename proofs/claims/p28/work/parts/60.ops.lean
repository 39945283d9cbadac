/-! THE OPERATIONS that change the game -/
section OP
theorem le_nlt {a b : Int32} (h : ¬ b < a) : a ≤ b := Int32.not_lt.1 h
end OP
