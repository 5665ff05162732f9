/-! shares: goodShare, digest -/
variable {T : TS}
theorem op_goodShare {n s : Nat} (h : INV T n s) : ∃ v, f_X3_goodShare (HT T) 0 = some v ∧ f_X4_goodShare (HT T) 133 = some (v, HT (uM T (mS T.2.2.1 0 0))) ∧ (Op.cmpValue (FP.dcmp v v) .l) = 0 := by
  sorry
theorem op_digest {n s : Nat} (h : INV T n s) : OKv T (f_X3_digest (HT T) 0) (fun h => vcall h 4 133 (f_X4_digest h 133)) := by
  sorry
