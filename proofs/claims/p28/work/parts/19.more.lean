abbrev o_max (x y : Int32) : Int32 := if x < y then y else x
def rmW (d : Nat) : Room := { frames := 2 * d + 2, cells := 0, slots := 0, locals := 60 * d + 100 }
def rmB (d : Nat) : Room := { frames := 2 * d + 3, cells := 0, slots := 0, locals := 60 * d + 130 }
