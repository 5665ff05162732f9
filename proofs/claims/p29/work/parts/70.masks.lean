/-! masks of rails -/
def mkN (f : Nat → Bool) : Nat → Nat
  | 0 => 0
  | k + 1 => mkN f k ||| (if f k = true then 2 ^ k else 0)
theorem mk_bit (f : Nat → Bool) : ∀ n i, (mkN f n).testBit i = (decide (i < n) && f i) := by
  intro n
  induction n with
  | zero => intro i; simp [mkN]
  | succ n ih =>
    intro i
    unfold mkN
    rw [Nat.testBit_or, ih]
    by_cases hi : i = n
    · subst hi
      cases hf : f i <;> simp [hf, Nat.testBit_two_pow_self]
    · have e : (if f n = true then 2 ^ n else 0).testBit i = false := by
        split
        · rw [Nat.testBit_two_pow]
          exact decide_eq_false (Ne.symm hi)
        · exact Nat.zero_testBit _
      rw [e, Bool.or_false]
      congr 1
      exact decide_eq_decide.2 (by omega)
theorem mk_lt (f : Nat → Bool) (n : Nat) : mkN f n < 2 ^ n := by
  apply Nat.lt_pow_two_of_testBit
  intro i hi
  rw [mk_bit, decide_eq_false (by omega), Bool.false_and]
theorem mk_congr {f g : Nat → Bool} {n : Nat} (h : ∀ q, q < n → f q = g q) : mkN f n = mkN g n := by
  apply Nat.eq_of_testBit_eq
  intro i
  rw [mk_bit, mk_bit]
  by_cases hi : i < n
  · rw [h i hi]
  · rw [decide_eq_false hi, Bool.false_and, Bool.false_and]
theorem mk_tb {x : Int32} {n : Nat} (h : x.toBitVec.toNat < 2 ^ n) : nI (mkN (fun q => tb x q) n) = x := by
  have e : mkN (fun q => tb x q) n = x.toBitVec.toNat := by
    apply Nat.eq_of_testBit_eq
    intro i
    rw [mk_bit]
    by_cases hi : i < n
    · rw [decide_eq_true hi, Bool.true_and]
      rfl
    · rw [decide_eq_false hi, Bool.false_and]
      exact (Nat.testBit_lt_two_pow (Nat.lt_of_lt_of_le h (Nat.pow_le_pow_right (by decide) (by omega)))).symm
  rw [e, nI_nat]
theorem tb_or (x y : Int32) (q : Nat) : tb (x ||| y) q = (tb x q || tb y q) := by
  unfold tb
  rw [show (x ||| y).toBitVec = x.toBitVec ||| y.toBitVec from rfl, BitVec.toNat_or, Nat.testBit_or]
theorem or_lt {x y : Int32} {n : Nat} (h1 : x.toBitVec.toNat < 2 ^ n) (h2 : y.toBitVec.toNat < 2 ^ n) : (x ||| y).toBitVec.toNat < 2 ^ n := by
  rw [show (x ||| y).toBitVec = x.toBitVec ||| y.toBitVec from rfl, BitVec.toNat_or]
  exact Nat.or_lt_two_pow h1 h2
theorem tb_hi {x : Int32} {n q : Nat} (h : x.toBitVec.toNat < 2 ^ n) (hq : n ≤ q) : tb x q = false :=
  Nat.testBit_lt_two_pow (Nat.lt_of_lt_of_le h (Nat.pow_le_pow_right (by decide) hq))
/-- a mask with all that its rails need, from k - 1 down -/
def wnF (nd : Nat → Int32) : Nat → Int32 → Int32
  | 0, x => x
  | k + 1, x => wnF nd k (if tb x k = true then x ||| nd k else x)
theorem wn_hi {nd : Nat → Int32} : ∀ (k : Nat) (x : Int32) (q : Nat), (∀ j, j < k → (nd j).toBitVec.toNat < 2 ^ j) → k ≤ q → tb (wnF nd k x) q = tb x q := by
  intro k
  induction k with
  | zero => intro x q _ _; rfl
  | succ k ih =>
    intro x q h hq
    unfold wnF
    rw [ih _ q (fun j hj => h j (by omega)) (by omega)]
    split
    · rw [tb_or, tb_hi (h k (by omega)) (by omega), Bool.or_false]
    · rfl
theorem wn_lt {nd : Nat → Int32} {n : Nat} : ∀ (k : Nat) (x : Int32), (∀ j, j < k → (nd j).toBitVec.toNat < 2 ^ j) → k ≤ n → x.toBitVec.toNat < 2 ^ n → (wnF nd k x).toBitVec.toNat < 2 ^ n := by
  intro k
  induction k with
  | zero => intro x _ _ hx; exact hx
  | succ k ih =>
    intro x h hk hx
    unfold wnF
    refine ih _ (fun j hj => h j (by omega)) (by omega) ?_
    split
    · exact or_lt hx (Nat.lt_of_lt_of_le (h k (by omega)) (Nat.pow_le_pow_right (by decide) (by omega)))
    · exact hx
variable {G : GB} {b : Nat}
theorem a_neededLoop (hb : b ≤ 122) {P : PV} : ∀ (k fuel : Nat) (x : Int32), k ≤ 8 → k < fuel → f_X1_withAllNeeded_9 (hp G b P) fuel b x (nI k - 1) = some (wnF (P.2 5) k x) := by
  intro k
  induction k with
  | zero =>
    intro fuel x hk hf
    obtain ⟨fuel, rfl⟩ : ∃ f, fuel = f + 1 := ⟨fuel - 1, by omega⟩
    show b_X1_withAllNeeded_9 _ _ _ _ _ = _
    unfold b_X1_withAllNeeded_9
    rw [if_pos (by decide)]
    rfl
  | succ k ih =>
    intro fuel x hk hf
    obtain ⟨fuel, rfl⟩ : ∃ f, fuel = f + 1 := ⟨fuel - 1, by omega⟩
    show b_X1_withAllNeeded_9 _ _ _ _ _ = _
    unfold b_X1_withAllNeeded_9 b_X1_withAllNeeded_30
    rw [show nI (k + 1) - 1 = nI k from by rw [← nI_1]; exact Int32.add_sub_cancel _ _, if_neg (by simp only [nI_pos (show k < 2 ^ 31 by omega), not_false_eq_true])]
    rw [show nI k + -1 = nI k - 1 from (Int32.sub_eq_add_neg _ _).symm]
    unfold wnF
    by_cases ht : tb x k = true
    · rw [if_neg (fun h => by rw [tb_and _ (by omega)] at h; rw [h] at ht; exact absurd ht (by decide)), if_pos ht, p_R5 hb, obs, p_a5 hb, bd_nI (by omega) (by decide), obs, obs]
      exact ih fuel _ (by omega) (by omega)
    · rw [if_pos (by rw [tb_and _ (by omega)]; simpa using ht), if_neg ht]
      exact ih fuel _ (by omega) (by omega)

