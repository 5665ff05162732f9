/-! what is only read: accounts -/
variable {T : TS} {G : GB} {b : Nat}
theorem rd_a (P : PV) (r : Nat) {p : Nat} (hp : p < 4) : rowP P r (16 + p) = P.2 13 (r * 4 + p) := by
  match p, hp with
  | 0, _ => rfl
  | 1, _ => rfl
  | 2, _ => rfl
  | 3, _ => rfl
