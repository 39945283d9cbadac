/-! THE SHARES, all of them -/
section SX
def shB (n g : Nat) : Bool := n == 0 || (Nat.blt g n || (Nat.ble 998244352 (FP.fdiv (FP.i2f (nI n)) (FP.i2f (nI g))).toNat && Nat.ble (FP.fdiv (FP.i2f (nI n)) (FP.i2f (nI g))).toNat 1065353216))
set_option maxRecDepth 100000 in
theorem sh_all : ∀ g, g < 201 → ∀ n, n < 201 → shB n g = true := by decide +kernel
theorem sh_0 : ∀ g, g < 201 → 1 ≤ g → FP.fdiv (FP.i2f 0) (FP.i2f (nI g)) = 0 := by decide +kernel
end SX
