/-! when all would be good -/
/-- a rail without a short has none behind the tick -/
theorem tk12 {V : Nat → Nat → Int32} {w res : Int32} {n r : Nat} (hr : r < n) (h : V r 12 ≤ 0) : tkV V w res n r 12 ≤ 0 := by
  rw [tkV_in hr, endR_12, lookR_keep _ _ _ _ _ _ _ (by decide), rowsF_in hr, mvR_keep _ (by decide), if_pos h]
  exact h
/-- not all that is wanted is good -/
def gdB (P : PV) (n : Nat) : Bool := decide (P.1 3 &&& (maS (rowP P) 3 n ^^^ (-1 : Int32)) = 0)
variable {T : TS} {G : GB}
theorem I1000 (k : Nat) (hk : k < 2 ^ 31) : (1000 : Int32) < nI k ↔ 1000 < k := by
  rw [show (1000 : Int32) = nI 1000 from rfl, nI_ltI (by decide) hk]
theorem c_goodStep {P : PV} {n k fuel : Nat} (hn8 : n ≤ 8) (h0 : P.1 0 = nI n) (hk : k ≤ 1000) {P' : PV} (e1 : f_X1_passTick (HT (uP T 1 P)) 17 = some (eN n P, HT (uP T 1 P'))) (hp : PT n P P') : f_X3_allGoodIn_13 (fuel + 1) (HT (uP T 1 P)) 0 (nI k) = if gdB P n = true then some (nI k, HT (uP T 1 P)) else if (shF (rowP P) n 0 && stF (rowP P') (rowP P) n 0) = true then some (-1, HT (uP T 1 P')) else f_X3_allGoodIn_13 fuel (HT (uP T 1 P')) 0 (nI (k + 1)) := by
  have hq0 : P'.1 0 = nI n := hp.2.1.trans h0
  show b_X3_allGoodIn_13 _ _ _ _ = _
  unfold b_X3_allGoodIn_13 gdB
  rw [if_neg (by rw [I1000 _ (by omega)]; omega), t_R1, obs, f_I3, obs, obs, f_v1, f_mask T hn8 h0, obs]
  by_cases hc : P.1 3 &&& (maS (rowP P) 3 n ^^^ (-1 : Int32)) = 0
  · rw [if_pos hc, decide_eq_true hc, if_pos rfl]
  · rw [if_neg hc, decide_eq_false hc, if_neg (show ¬ false = true by decide), obs, f_v1, f_any T hn8 h0, obs]
    unfold b_X3_allGoodIn_58 b_X3_allGoodIn_83
    by_cases hsh : shF (rowP P) n 0 = true
    · rw [if_pos hsh, if_pos rfl, hsh, Bool.true_and, t_R1, obs, f_v1, e1, obs, if_neg (show ¬ (1 : Int32) = 0 by decide), t_R1, obs, f_v1, f_still T hn8 hq0, obs, ite01, bf_PT hp hn8 n 0 (by omega), nI_1]
    · rw [if_neg hsh, if_neg (show ¬ (1 : Int32) = 0 by decide), Bool.eq_false_iff.mpr hsh, Bool.false_and, if_neg (show ¬ false = true by decide), t_R1, obs, f_v1, e1, obs, if_pos rfl, nI_1]
