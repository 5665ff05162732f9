/-! still, settled, masks, sums: on both sides -/
/-- what a plant remembers of the rows before the latest tick -/
def bfR (P : PV) (q k : Nat) : Int32 := if k = 9 then P.2 15 q else if k = 10 then P.2 16 q else P.2 17 q
variable {G : GB} {b : Nat}
