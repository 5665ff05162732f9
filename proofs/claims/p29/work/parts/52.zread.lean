/-! the model: a bit, a flag, a voltage's move, what is missing, what is used -/
theorem tb_has (x : Int32) {k : Nat} (hk : k < 31) : ((x >>> (nI k &&& 31)) &&& (1 : Int32)) = 1 ↔ tb x k = true := by
  have hs : ((nI k &&& 31).toBitVec.smod 32).toNat = k := by
    have key : ∀ r, r < 31 → ((nI r &&& 31).toBitVec.smod 32).toNat = r := by decide +kernel
    exact key k hk
  have h0 : ∀ i, i < 32 → ((x.toBitVec.sshiftRight k) &&& 1#32).getLsbD i = (decide (i = 0) && tb x k) := by
    intro i hi
    by_cases h : i = 0
    · subst h
      rw [BitVec.getLsbD_and, BitVec.getLsbD_sshiftRight, if_pos (by omega), show (1#32).getLsbD 0 = true from rfl]
      show ((true && tb x k) && true) = (true && tb x k)
      cases tb x k <;> rfl
    · simp [BitVec.getLsbD_one, h]
  have e : ((x >>> (nI k &&& 31)) &&& (1 : Int32)).toBitVec = (x.toBitVec.sshiftRight k) &&& 1#32 := by
    show (x.toBitVec.sshiftRight ((nI k &&& 31).toBitVec.smod 32).toNat) &&& 1#32 = _
    rw [hs]
  rw [← Int32.toBitVec_inj, e]
  constructor
  · intro h
    have := h0 0 (by omega)
    rw [h] at this
    simpa using this.symm
  · intro h
    apply BitVec.eq_of_getLsbD_eq
    intro i hi
    rw [h0 i hi, h]
    show _ = (1#32).getLsbD i
    simp [BitVec.getLsbD_one]
theorem i_small {x : Int} (h1 : -2147483648 ≤ x) (h2 : x < 2147483648) : x.bmod (2 ^ 32) = x := by
  rw [Int.bmod_def]
  omega
theorem i_add {a b : Int32} (h1 : -2147483648 ≤ a.toInt + b.toInt) (h2 : a.toInt + b.toInt < 2147483648) : (a + b).toInt = a.toInt + b.toInt := by
  rw [Int32.toInt_add, i_small h1 h2]
theorem i_sub {a b : Int32} (h1 : -2147483648 ≤ a.toInt - b.toInt) (h2 : a.toInt - b.toInt < 2147483648) : (a - b).toInt = a.toInt - b.toInt := by
  rw [Int32.toInt_sub, i_small h1 h2]
theorem i_neg {a : Int32} (h1 : -2147483648 ≤ -a.toInt) (h2 : -a.toInt < 2147483648) : (-a).toInt = -a.toInt := by
  rw [Int32.toInt_neg, i_small h1 h2]
/-- a small number -/
def sm (x : Int32) : Prop := 0 ≤ x.toInt ∧ x.toInt ≤ 1000000
variable {G : GB} {b : Nat}
