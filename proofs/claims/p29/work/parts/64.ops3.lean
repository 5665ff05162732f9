/-! commands: short circuit, needs, set -/
variable {G : GB} {b : Nat} {T : TS}
theorem RowOK_7 {q : Nat} {row : Nat → Int32} (h : RowOK q row) {x : Int32} (hx : x.toBitVec.toNat < 2 ^ q) : RowOK q (upd row 7 x) := by
  obtain ⟨a0, a1, a2, a3, a7, a9, a10, a12, a15⟩ := h
  exact ⟨a0, a1, a2, a3, hx, a9, a10, a12, a15⟩
