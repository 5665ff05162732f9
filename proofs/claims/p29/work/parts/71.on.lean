/-! commands: on -/
variable {G : GB} {b : Nat}
variable {T : TS}
theorem q_rails {n : Nat} (hn8 : n ≤ 8) (h0 : (T.1.2.2 0).1 0 = nI n) (x : Int32) : f_X3_areRails (HT T) 0 x = some (if x.toBitVec.toNat < 2 ^ n then 1 else 0) := by
  simp only [f_X3_areRails, t_R0, q_I0, h0, obs, c_below _ _ hn8]
  split <;> rfl
theorem q_needed {n : Nat} (hn8 : n ≤ 8) (h0 : (T.1.2.2 0).1 0 = nI n) (x : Int32) : f_X1_withAllNeeded (HT T) 1 x = some (wnF ((T.1.2.2 0).2 5) n x) := by
  unfold f_X1_withAllNeeded
  rw [q_I0, obs, h0, obs, HT0]
  exact a_neededLoop (by decide) n FU x hn8 (by rw [FU_eq]; omega)
