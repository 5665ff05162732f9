/-! commands: set, short circuit, stick, needs -/
theorem bel_iff (x : Int32) {r : Nat} (hr : r ≤ 8) : (x &&& ((((1 : Int32) <<< (nI r &&& 31)) - (1 : Int32)) ^^^ (-1 : Int32))) = 0 ↔ x.toBitVec.toNat < 2 ^ r := by
  have hp : 2 ^ r ≤ 2 ^ 8 := Nat.pow_le_pow_right (by decide) hr
  have h1 : 1 ≤ 2 ^ r := Nat.one_le_two_pow
  have e : ((1 : Int32) <<< (nI r &&& 31)) - 1 = nI (2 ^ r - 1) := by
    rw [nI_bit (by omega)]
    exact pk_sub h1
  rw [e, ← Int32.toBitVec_inj]
  show (x.toBitVec &&& (BitVec.ofNat 32 (2 ^ r - 1) ^^^ BitVec.allOnes 32)) = 0#32 ↔ _
  have gb : ∀ i, i < 32 → (x.toBitVec &&& (BitVec.ofNat 32 (2 ^ r - 1) ^^^ BitVec.allOnes 32)).getLsbD i = (tb x i && !decide (i < r)) := by
    intro i hi
    rw [BitVec.getLsbD_and, BitVec.getLsbD_xor, BitVec.getLsbD_allOnes, BitVec.getLsbD_ofNat, Nat.testBit_two_pow_sub_one]
    show (tb x i && _) = _
    simp only [hi, decide_true, Bool.true_and]
    cases decide (i < r) <;> rfl
  constructor
  · intro h
    apply Nat.lt_pow_two_of_testBit
    intro i hi
    by_cases h32 : i < 32
    · have := gb i h32
      rw [h] at this
      have h0 : (0#32).getLsbD i = false := by simp
      rw [h0] at this
      have hd : decide (i < r) = false := decide_eq_false (by omega)
      rw [hd] at this
      show tb x i = false
      cases ht : tb x i
      · rfl
      · rw [ht] at this
        exact absurd this (by decide)
    · exact Nat.testBit_lt_two_pow (Nat.lt_of_lt_of_le x.toBitVec.isLt (Nat.pow_le_pow_right (by decide) (by omega)))
  · intro h
    apply BitVec.eq_of_getLsbD_eq
    intro i hi
    rw [gb i hi]
    have h0 : (0#32).getLsbD i = false := by simp
    rw [h0]
    by_cases hir : i < r
    · simp [hir]
    · have : tb x i = false := Nat.testBit_lt_two_pow (Nat.lt_of_lt_of_le h (Nat.pow_le_pow_right (by decide) (show r ≤ i by omega)))
      rw [this]
      rfl
theorem neg_big {x : Int32} (h : x < 0) : ¬ x.toBitVec.toNat < 2 ^ 31 := by
  intro hh
  rw [← nI_nat x] at h
  simp only [nI_pos hh] at h
theorem c_below (h : MH) (x : Int32) {r : Nat} (hr : r ≤ 8) : f_X3_areBelow h (nI r) x = some (if x.toBitVec.toNat < 2 ^ r then 1 else 0) := by
  unfold f_X3_areBelow b_X3_areBelow_17
  by_cases hx : x.toBitVec.toNat < 2 ^ r
  · rw [if_pos ((bel_iff x hr).2 hx), if_pos hx]
    rfl
  · rw [if_neg (fun hh => hx ((bel_iff x hr).1 hh)), if_neg hx]
    rfl
/-- a rail's number, or none -/
theorem rail_cases {n : Nat} (hn : n ≤ 8) (x : Int32) : (∃ r, r < n ∧ x = nI r) ∨ (x < 0 ∨ nI n ≤ x) := by
  by_cases h0 : x < 0
  · exact Or.inr (Or.inl h0)
  · obtain ⟨j, hj, rfl⟩ := nI_of h0
    by_cases h : j < n
    · exact Or.inl ⟨j, h, rfl⟩
    · exact Or.inr (Or.inr (nI_le (by omega) hj))
theorem rail_not {n r : Nat} (hn : n ≤ 8) (hr : r < n) : ¬ (nI r < 0 ∨ nI n ≤ nI r) := by
  intro h
  rcases h with h | h
  · simp only [nI_pos (show r < 2 ^ 31 by omega)] at h
  · exact nI_ge hr (by omega) h
variable {G : GB} {b : Nat}
variable {T : TS}
theorem c_isRail {n : Nat} (hn : (T.1.2.2 0).1 0 = nI n) (x : Int32) : f_X3_isRail (HT T) 0 x = some (if x < 0 ∨ nI n ≤ x then 0 else 1) := by
  simp only [f_X3_isRail, b_X3_isRail_19, b_X3_isRail_20, Option.bind_some, t_v3, t_R0, t_R1, t_R2, t_R4, t_R6, t_I3, t_I5, t_P3, t_P5, q_v1, q_v0, q_lI, q_lR, q_lP, q_I0, q_P0, q_I1, q_P1, q_I2, q_P2, q_I3, q_P3, q_R4, q_R5, q_R6, q_R7, q_R8, q_R9, q_R10, q_R11, q_R12, q_R13, q_R14, q_R15, q_R16, q_R17, q_a4, q_s4, q_a5, q_s5, q_a6, q_s6, q_a7, q_s7, q_a8, q_s8, q_a9, q_s9, q_a10, q_s10, q_a11, q_s11, q_a12, q_s12, q_a13, q_s13, q_a15, q_s15, q_a16, q_s16, q_a17, q_s17, q_a14, q_s14, uP_pl, hn, i11, i01]
  by_cases h0 : x < 0
  · simp only [h0, true_or, if_true]
  · by_cases h1 : nI n ≤ x
    · simp only [h0, h1, or_true, if_true, if_false]
    · simp only [h0, h1, or_self, if_false]
theorem RowOK_11 {q : Nat} {row : Nat → Int32} (h : RowOK q row) (x : Int32) : RowOK q (upd row 11 x) := RowOK_upd h x (by decide) (by decide) (by decide) (by decide) (by decide) (by decide) (by decide) (by decide) (by decide)
