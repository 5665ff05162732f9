/-! when all would be off -/
def ofF (V : Nat → Nat → Int32) (res : Int32) : Nat → Nat → Bool
  | 0, _ => true
  | m + 1, k => (decide (V k 9 = 0) && !decide (res < V k 10)) && ofF V res m (k + 1)
variable {G : GB} {b : Nat}
theorem a_offAll (hb : b ≤ 122) {P : PV} {n : Nat} (hn8 : n ≤ 8) (h0 : P.1 0 = nI n) : ∀ (m k fuel : Nat), k + m = n → m < fuel → f_X1_isAllOff_2 (hp G b P) fuel b (nI k) = some (if ofF (rowP P) (P.1 2) m k = true then 1 else 0) := by
  intro m
  induction m with
  | zero =>
    intro k fuel hk hf
    obtain ⟨fuel, rfl⟩ : ∃ f, fuel = f + 1 := ⟨fuel - 1, by omega⟩
    show b_X1_isAllOff_2 _ _ _ _ = _
    unfold b_X1_isAllOff_2
    rw [p_I0 hb, obs, h0, if_pos (nI_le (by omega) (by omega))]
    rfl
  | succ m ih =>
    intro k fuel hk hf
    obtain ⟨fuel, rfl⟩ : ∃ f, fuel = f + 1 := ⟨fuel - 1, by omega⟩
    show b_X1_isAllOff_2 _ _ _ _ = _
    unfold b_X1_isAllOff_2 b_X1_isAllOff_27 ofF
    rw [p_I0 hb, obs, h0, if_neg (nI_ge (by omega) (by omega)), p_R6 hb, obs, p_a6 hb, bd_nI (by omega) (by decide), obs]
    by_cases h9 : rowP P k 9 = 0
    · rw [if_pos (show P.2 6 k = 0 from h9), p_v1 hb, a_dis hb (by omega), obs, decide_eq_true h9, Bool.true_and]
      by_cases hd : P.1 2 < rowP P k 10
      · rw [if_pos hd, if_pos rfl, decide_eq_true hd]
        rfl
      · rw [if_neg hd, if_neg n10, decide_eq_false hd, nI_1, ih (k + 1) fuel (by omega) (by omega)]
        rfl
    · rw [if_neg (show ¬ P.2 6 k = 0 from h9), decide_eq_false h9]
      rfl
variable {T : TS}
theorem f_allOff (T : TS) {Q : PV} {n : Nat} (hn8 : n ≤ 8) (h0 : Q.1 0 = nI n) : f_X1_isAllOff (HT (uP T 1 Q)) 17 = some (if ofF (rowP Q) (Q.1 2) n 0 = true then 1 else 0) := by
  rw [HT1 (uP T 1 Q), uP_at]
  exact a_offAll (by decide) hn8 h0 n 0 FU (by omega) (by rw [FU_eq]; omega)
theorem f_P3 (T : TS) (Q : PV) (x : Int32) : hP (HT (uP T 1 Q)) 1 17 3 (.int x) = some (HT (uP T 1 (wS Q 3 x))) := by
  have t := t_pP3 (uP T 1 Q) (j := 1) (by decide) x
  rw [uP_at, uP_uP] at t
  exact t
