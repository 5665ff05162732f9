/-! what is only read: accounts -/
variable {T : TS} {G : GB} {b : Nat}
theorem rd_a (P : PV) (r : Nat) {p : Nat} (hp : p < 4) : rowP P r (16 + p) = P.2 13 (r * 4 + p) := by
  match p, hp with
  | 0, _ => rfl
  | 1, _ => rfl
  | 2, _ => rfl
  | 3, _ => rfl
theorem in_of {n p j : Nat} (hn : n < 2 ^ 31) (ep : n = p + 1) (hj : j < n) : ¬ (nI j < 0 ∨ nI p < nI j) := by
  intro h
  rcases h with h | h
  · simp only [nI_pos (show j < 2 ^ 31 by omega)] at h
  · rw [nI_ltI (by omega) (by omega)] at h
    omega
