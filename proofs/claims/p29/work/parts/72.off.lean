/-! commands: off -/
theorem tb_bit {k q : Nat} (hk : k < 31) : tb ((1 : Int32) <<< (nI k &&& 31)) q = decide (k = q) := by
  have hp : 2 ^ k ≤ 2 ^ 30 := Nat.pow_le_pow_right (by decide) (by omega)
  rw [nI_bit hk, tb_nI (by omega), Nat.testBit_two_pow]
theorem tb_andn (x y : Int32) {q : Nat} (hq : q < 32) : tb (x &&& (y ^^^ (-1 : Int32))) q = (tb x q && !tb y q) := by
  show (x.toBitVec &&& (y.toBitVec ^^^ BitVec.allOnes 32)).getLsbD q = (x.toBitVec.getLsbD q && !y.toBitVec.getLsbD q)
  rw [BitVec.getLsbD_and, BitVec.getLsbD_xor, BitVec.getLsbD_allOnes]
  simp only [hq, decide_true]
  cases x.toBitVec.getLsbD q <;> cases y.toBitVec.getLsbD q <;> rfl
theorem andn_lt {x y : Int32} {n : Nat} (h : x.toBitVec.toNat < 2 ^ n) : (x &&& (y ^^^ (-1 : Int32))).toBitVec.toNat < 2 ^ n := by
  show (x.toBitVec &&& (y.toBitVec ^^^ BitVec.allOnes 32)).toNat < 2 ^ n
  rw [BitVec.toNat_and]
  exact Nat.lt_of_le_of_lt Nat.and_le_left h
/-- a mask with its followers, from k on, m rails -/
def foF (nd : Nat → Int32) : Nat → Nat → Int32 → Int32
  | 0, _, x => x
  | m + 1, k, x => foF nd m (k + 1) (if x &&& nd k = 0 then x else x ||| ((1 : Int32) <<< (nI k &&& 31)))
theorem fo_lo {nd : Nat → Int32} : ∀ (m k : Nat) (x : Int32) (q : Nat), k + m ≤ 31 → q < k → tb (foF nd m k x) q = tb x q := by
  intro m
  induction m with
  | zero => intro k x q _ _; rfl
  | succ m ih =>
    intro k x q hk hq
    unfold foF
    rw [ih (k + 1) _ q (by omega) (by omega)]
    split
    · rfl
    · rw [tb_or, tb_bit (by omega), decide_eq_false (by omega), Bool.or_false]
variable {G : GB} {b : Nat}
theorem a_follLoop (hb : b ≤ 122) {P : PV} {n : Nat} (h0 : P.1 0 = nI n) (hn8 : n ≤ 8) : ∀ (m k fuel : Nat) (x : Int32), k + m = n → m < fuel → f_X1_withFollowers_4 (hp G b P) fuel b x (nI k) = some (foF (P.2 5) m k x) := by
  intro m
  induction m with
  | zero =>
    intro k fuel x hk hf
    obtain ⟨fuel, rfl⟩ : ∃ f, fuel = f + 1 := ⟨fuel - 1, by omega⟩
    show b_X1_withFollowers_4 _ _ _ _ _ = _
    unfold b_X1_withFollowers_4
    rw [p_I0 hb, obs, h0, if_pos (nI_le (by omega) (by omega))]
    rfl
  | succ m ih =>
    intro k fuel x hk hf
    obtain ⟨fuel, rfl⟩ : ∃ f, fuel = f + 1 := ⟨fuel - 1, by omega⟩
    show b_X1_withFollowers_4 _ _ _ _ _ = _
    unfold b_X1_withFollowers_4 b_X1_withFollowers_29 foF
    rw [p_I0 hb, obs, h0, if_neg (nI_ge (by omega) (by omega)), p_R5 hb, obs, p_a5 hb, bd_nI (by omega) (by decide), obs, nI_1]
    by_cases ht : x &&& P.2 5 k = 0
    · rw [if_pos ht, if_pos ht]
      exact ih (k + 1) fuel x (by omega) (by omega)
    · rw [if_neg ht, if_neg ht, obs]
      exact ih (k + 1) fuel _ (by omega) (by omega)
variable {T : TS}
theorem q_foll {n : Nat} (hn8 : n ≤ 8) (h0 : (T.1.2.2 0).1 0 = nI n) (x : Int32) : f_X1_withFollowers (HT T) 1 x = some (foF ((T.1.2.2 0).2 5) n 0 x) := by
  unfold f_X1_withFollowers
  rw [HT0]
  exact a_follLoop (by decide) h0 hn8 n 0 FU x (by omega) (by rw [FU_eq]; omega)
