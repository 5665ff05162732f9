/-! when all would be off -/
def diF (V : Nat → Nat → Int32) (res : Int32) : Nat → Nat → Bool
  | 0, _ => true
  | m + 1, k => !decide (res < V k 10) && diF V res m (k + 1)
def ofF (V : Nat → Nat → Int32) (res : Int32) : Nat → Nat → Bool
  | 0, _ => true
  | m + 1, k => (decide (V k 9 = 0) && !decide (res < V k 10)) && ofF V res m (k + 1)
def a9F (V : Nat → Nat → Int32) : Nat → Nat → Bool
  | 0, _ => true
  | m + 1, k => decide (V k 9 = 0) && a9F V m (k + 1)
theorem of_split (V : Nat → Nat → Int32) (res : Int32) : ∀ m k, ofF V res m k = (a9F V m k && diF V res m k) := by
  intro m
  induction m with
  | zero => exact fun _ => rfl
  | succ m ih =>
    intro k
    unfold ofF a9F diF
    rw [ih (k + 1)]
    cases decide (V k 9 = 0) <;> cases (!decide (res < V k 10)) <;> cases a9F V m (k + 1) <;> rfl
theorem of_congr {V V' : Nat → Nat → Int32} {res : Int32} {n : Nat} (h : ∀ q, q < n → V q = V' q) : ∀ m k, k + m ≤ n → ofF V res m k = ofF V' res m k := by
  intro m
  induction m with
  | zero => exact fun _ _ => rfl
  | succ m ih =>
    intro k hk
    unfold ofF
    rw [ih (k + 1) (by omega), h k (by omega)]
theorem a9_iff {V : Nat → Nat → Int32} : ∀ m k, a9F V m k = true ↔ ∀ q, k ≤ q → q < k + m → V q 9 = 0 := by
  intro m
  induction m with
  | zero => exact fun k => ⟨fun _ q h1 h2 => by omega, fun _ => rfl⟩
  | succ m ih =>
    intro k
    unfold a9F
    rw [Bool.and_eq_true, decide_eq_true_eq, ih (k + 1)]
    constructor
    · intro ⟨h1, h2⟩ q q1 q2
      by_cases e : q = k
      · subst e
        exact h1
      · exact h2 q (by omega) (by omega)
    · intro h
      exact ⟨h k (by omega) (by omega), fun q q1 q2 => h q (by omega) (by omega)⟩
theorem mk_all {f : Nat → Bool} {n : Nat} : mkN f n = 2 ^ n - 1 ↔ ∀ q, q < n → f q = true := by
  constructor
  · intro h q hq
    have e := congrArg (fun x => x.testBit q) h
    simp only [mk_bit, Nat.testBit_two_pow_sub_one] at e
    rw [decide_eq_true hq, Bool.true_and] at e
    exact e
  · intro h
    apply Nat.eq_of_testBit_eq
    intro i
    rw [mk_bit, Nat.testBit_two_pow_sub_one]
    by_cases hi : i < n
    · rw [decide_eq_true hi, h i hi]
      rfl
    · rw [decide_eq_false hi, Bool.false_and]
theorem all_bits {n : Nat} (hn8 : n ≤ 8) : ((1 : Int32) <<< (nI n &&& 31)) - 1 = nI (2 ^ n - 1) := by
  have h1 : 1 ≤ 2 ^ n := Nat.one_le_two_pow
  rw [nI_bit (by omega), show (1 : Int32) = nI 1 from rfl, pk_sub h1]
theorem ma_all {V : Nat → Nat → Int32} {n : Nat} (hn8 : n ≤ 8) : maS V 0 n = ((1 : Int32) <<< (nI n &&& 31)) - 1 ↔ a9F V n 0 = true := by
  have h2 : 2 ^ n ≤ 2 ^ 8 := Nat.pow_le_pow_right (by decide) hn8
  have h3 := mk_lt (fun q => decide (V q 9 = 0)) n
  rw [all_bits hn8]
  unfold maS
  rw [nI_eq (by omega) (by omega), mk_all, a9_iff]
  constructor
  · intro h q _ hq
    exact of_decide_eq_true (h q (by omega))
  · intro h q hq
    exact decide_eq_true (h q (Nat.zero_le q) (by omega))
variable {G : GB} {b : Nat}
theorem a_offAll (hb : b ≤ 122) {P : PV} {n : Nat} (hn8 : n ≤ 8) (h0 : P.1 0 = nI n) : ∀ (m k fuel : Nat), k + m = n → m < fuel → f_X1_isAllOff_2 (hp G b P) fuel b (nI k) = some (if ofF (rowP P) (P.1 2) m k = true then 1 else 0) := by
  intro m
  induction m with
  | zero =>
    intro k fuel hk hf
    obtain ⟨fuel, rfl⟩ : ∃ f, fuel = f + 1 := ⟨fuel - 1, by omega⟩
    show b_X1_isAllOff_2 _ _ _ _ = _
    unfold b_X1_isAllOff_2
    rw [p_I0 hb, obs, h0, if_pos (nI_le (by omega) (by omega))]
    rfl
  | succ m ih =>
    intro k fuel hk hf
    obtain ⟨fuel, rfl⟩ : ∃ f, fuel = f + 1 := ⟨fuel - 1, by omega⟩
    show b_X1_isAllOff_2 _ _ _ _ = _
    unfold b_X1_isAllOff_2 b_X1_isAllOff_27 ofF
    rw [p_I0 hb, obs, h0, if_neg (nI_ge (by omega) (by omega)), p_R6 hb, obs, p_a6 hb, bd_nI (by omega) (by decide), obs]
    by_cases h9 : rowP P k 9 = 0
    · rw [if_pos (show P.2 6 k = 0 from h9), p_v1 hb, a_dis hb (by omega), obs, decide_eq_true h9, Bool.true_and]
      by_cases hd : P.1 2 < rowP P k 10
      · rw [if_pos hd, if_pos rfl, decide_eq_true hd]
        rfl
      · rw [if_neg hd, if_neg n10, decide_eq_false hd, nI_1, ih (k + 1) fuel (by omega) (by omega)]
        rfl
    · rw [if_neg (show ¬ P.2 6 k = 0 from h9), decide_eq_false h9]
      rfl
variable {T : TS}
theorem f_allOff (T : TS) {Q : PV} {n : Nat} (hn8 : n ≤ 8) (h0 : Q.1 0 = nI n) : f_X1_isAllOff (HT (uP T 1 Q)) 17 = some (if ofF (rowP Q) (Q.1 2) n 0 = true then 1 else 0) := by
  rw [HT1 (uP T 1 Q), uP_at]
  exact a_offAll (by decide) hn8 h0 n 0 FU (by omega) (by rw [FU_eq]; omega)
theorem c_offStep {P : PV} {n k fuel : Nat} (hn8 : n ≤ 8) (h0 : P.1 0 = nI n) (hk : k ≤ 1000) : f_X3_allOffIn_21 (fuel + 1) (HT (uP T 1 P)) 0 (nI k) = if ofF (rowP P) (P.1 2) n 0 = true then some (nI k, HT (uP T 1 P)) else (f_X1_passTick (HT (uP T 1 P)) 17).bind (fun p4 => f_X3_allOffIn_21 fuel p4.2 0 (nI (k + 1))) := by
  show b_X3_allOffIn_21 _ _ _ _ = _
  unfold b_X3_allOffIn_21
  rw [if_neg (by rw [I1000 _ (by omega)]; omega), t_R1, obs, f_v1, f_allOff T hn8 h0, obs, ite01, obs, f_v1, nI_1]
theorem f_P3 (T : TS) (Q : PV) (x : Int32) : hP (HT (uP T 1 Q)) 1 17 3 (.int x) = some (HT (uP T 1 (wS Q 3 x))) := by
  have t := t_pP3 (uP T 1 Q) (j := 1) (by decide) x
  rw [uP_at, uP_uP] at t
  exact t
theorem tb_0 (q : Nat) : tb 0 q = false := Nat.zero_testBit q
theorem tb_all {n q : Nat} (hn8 : n ≤ 8) (hq : q < n) : tb (((1 : Int32) <<< (nI n &&& 31)) - 1) q = true := by
  have h2 : 2 ^ n ≤ 2 ^ 8 := Nat.pow_le_pow_right (by decide) hn8
  rw [all_bits hn8, tb_nI (by omega), Nat.testBit_two_pow_sub_one]
  exact decide_eq_true hq
