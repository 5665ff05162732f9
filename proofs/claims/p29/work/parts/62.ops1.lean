/-! commands, first: residue -/
variable {G : GB} {b : Nat}
variable {T : TS}
theorem AZ_row {n r k : Nat} {P P' : PV} (h : AZ n P) (hk : k ≠ 19) {x : Int32} (e1 : rowP P' = setRow (rowP P) r (upd (rowP P r) k x)) (e2 : P'.1 = P.1) : AZ n P' := by
  refine ⟨by rw [e2]; exact h.1, fun q hq => ?_⟩
  rw [e1, e2]
  by_cases hq2 : q = r
  · subst hq2
    rw [sr_at, upd_n (Ne.symm hk)]
    exact h.2 q hq
  · rw [sr_ne _ _ hq2]
    exact h.2 q hq
