/-! commands: off -/
theorem tb_bit {k q : Nat} (hk : k < 31) : tb ((1 : Int32) <<< (nI k &&& 31)) q = decide (k = q) := by
  have hp : 2 ^ k ≤ 2 ^ 30 := Nat.pow_le_pow_right (by decide) (by omega)
  rw [nI_bit hk, tb_nI (by omega), Nat.testBit_two_pow]
/-- a mask with its followers, from k on, m rails -/
def foF (nd : Nat → Int32) : Nat → Nat → Int32 → Int32
  | 0, _, x => x
  | m + 1, k, x => foF nd m (k + 1) (if x &&& nd k = 0 then x else x ||| ((1 : Int32) <<< (nI k &&& 31)))
variable {G : GB} {b : Nat}
theorem a_follLoop (hb : b ≤ 122) {P : PV} {n : Nat} (h0 : P.1 0 = nI n) (hn8 : n ≤ 8) : ∀ (m k fuel : Nat) (x : Int32), k + m = n → m < fuel → f_X1_withFollowers_4 (hp G b P) fuel b x (nI k) = some (foF (P.2 5) m k x) := by
  intro m
  induction m with
  | zero =>
    intro k fuel x hk hf
    obtain ⟨fuel, rfl⟩ : ∃ f, fuel = f + 1 := ⟨fuel - 1, by omega⟩
    show b_X1_withFollowers_4 _ _ _ _ _ = _
    unfold b_X1_withFollowers_4
    rw [p_I0 hb, obs, h0, if_pos (nI_le (by omega) (by omega))]
    rfl
  | succ m ih =>
    intro k fuel x hk hf
    obtain ⟨fuel, rfl⟩ : ∃ f, fuel = f + 1 := ⟨fuel - 1, by omega⟩
    show b_X1_withFollowers_4 _ _ _ _ _ = _
    unfold b_X1_withFollowers_4 b_X1_withFollowers_29 foF
    rw [p_I0 hb, obs, h0, if_neg (nI_ge (by omega) (by omega)), p_R5 hb, obs, p_a5 hb, bd_nI (by omega) (by decide), obs, nI_1]
    by_cases ht : x &&& P.2 5 k = 0
    · rw [if_pos ht, if_pos ht]
      exact ih (k + 1) fuel x (by omega) (by omega)
    · rw [if_neg ht, if_neg ht, obs]
      exact ih (k + 1) fuel _ (by omega) (by omega)
variable {T : TS}
theorem q_foll {n : Nat} (hn8 : n ≤ 8) (h0 : (T.1.2.2 0).1 0 = nI n) (x : Int32) : f_X1_withFollowers (HT T) 1 x = some (foF ((T.1.2.2 0).2 5) n 0 x) := by
  unfold f_X1_withFollowers
  rw [HT0]
  exact a_follLoop (by decide) h0 hn8 n 0 FU x (by omega) (by rw [FU_eq]; omega)
