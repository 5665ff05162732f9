/-! the model's log; a rail becomes; what a step does -/
variable {G : GB} {b : Nat}
/-- the mask of rails that fell, after an entry -/
def falE (f : Int32) (e : Int32 × Int32 × Int32) : Int32 := f ||| (if e.2.1 < 4 then 0 else (1 : Int32) <<< (e.1 &&& 31))
