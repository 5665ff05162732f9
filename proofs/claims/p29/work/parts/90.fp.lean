/-! doubles between 0 and 1: normal numbers by significand and exponent -/
def wd (c : Nat) (q : Int) : Nat := (q + 1075).toNat * 4503599627370496 + (c - 4503599627370496)
def U (c : Nat) (q : Int) : UInt64 := UInt64.ofNat (wd c q)
