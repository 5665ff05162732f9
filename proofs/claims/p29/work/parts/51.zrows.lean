/-! the model's rails: its rows, what reads and lays a number of a rail -/
def rowZ (z : Nat → Int32) (r k : Nat) : Int32 := if k = 8 ∨ 20 ≤ k then 0 else z (68 + 20 * r + k)
theorem rz_in {z : Nat → Int32} {r k : Nat} (h : ¬ (k = 8 ∨ 20 ≤ k)) : rowZ z r k = z (68 + 20 * r + k) := if_neg h
theorem rz_out {z : Nat → Int32} {r k : Nat} (h : k = 8 ∨ 20 ≤ k) : rowZ z r k = 0 := if_pos h
variable {G : GB} {b : Nat}
