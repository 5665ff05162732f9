/-! still, settled, masks, sums: on both sides -/
def stF (A B : Nat → Nat → Int32) : Nat → Nat → Bool
  | 0, _ => true
  | m + 1, k => (decide (A k 9 = B k 9) && decide (A k 10 = B k 10) && decide (A k 13 = B k 13)) && stF A B m (k + 1)
theorem st_congr {A A' B B' : Nat → Nat → Int32} {n : Nat} (hA : ∀ q, q < n → A q = A' q) (hB : ∀ q, q < n → B q = B' q) : ∀ m k, k + m ≤ n → stF A B m k = stF A' B' m k := by
  intro m
  induction m with
  | zero => exact fun _ _ => rfl
  | succ m ih =>
    intro k hk
    unfold stF
    rw [ih (k + 1) (by omega), hA k (by omega), hB k (by omega)]
theorem st_at {A B : Nat → Nat → Int32} : ∀ m k, stF A B m k = true → ∀ q, k ≤ q → q < k + m → A q 9 = B q 9 ∧ A q 10 = B q 10 ∧ A q 13 = B q 13 := by
  intro m
  induction m with
  | zero => intro k _ q h1 h2; omega
  | succ m ih =>
    intro k h q h1 h2
    unfold stF at h
    simp only [Bool.and_eq_true, decide_eq_true_eq] at h
    obtain ⟨⟨⟨h9, h10⟩, h13⟩, hr⟩ := h
    by_cases e : q = k
    · subst e
      exact ⟨h9, h10, h13⟩
    · exact ih (k + 1) hr q (by omega) (by omega)
/-- what a plant remembers of the rows before the latest tick -/
def bfR (P : PV) (q k : Nat) : Int32 := if k = 9 then P.2 15 q else if k = 10 then P.2 16 q else P.2 17 q
theorem bf_PT {n : Nat} {P P' : PV} (h : PT n P P') (hn8 : n ≤ 8) : ∀ m k, k + m ≤ n → stF (rowP P') (bfR P') m k = stF (rowP P') (rowP P) m k := by
  intro m
  induction m with
  | zero => exact fun _ _ => rfl
  | succ m ih =>
    intro k hk
    unfold stF
    obtain ⟨e1, e2, e3⟩ := h.2.2.2.2.2.2 k (by omega)
    rw [ih (k + 1) (by omega), show bfR P' k 9 = rowP P k 9 from e1, show bfR P' k 10 = rowP P k 10 from e2, show bfR P' k 13 = rowP P k 13 from e3]
def shF (V : Nat → Nat → Int32) : Nat → Nat → Bool
  | 0, _ => true
  | m + 1, k => decide (V k 12 ≤ 0) && shF V m (k + 1)
theorem sh_at {V : Nat → Nat → Int32} : ∀ m k, shF V m k = true → ∀ q, k ≤ q → q < k + m → V q 12 ≤ 0 := by
  intro m
  induction m with
  | zero => intro k _ q h1 h2; omega
  | succ m ih =>
    intro k h q h1 h2
    unfold shF at h
    simp only [Bool.and_eq_true, decide_eq_true_eq] at h
    by_cases e : q = k
    · subst e
      exact h.1
    · exact ih (k + 1) h.2 q (by omega) (by omega)
def suF (V : Nat → Nat → Int32) (c : Nat) : Nat → Nat → Int32 → Int32
  | 0, _, x => x
  | m + 1, k, x => suF V c m (k + 1) (x + V k c)
theorem su_congr {A A' : Nat → Nat → Int32} {n c : Nat} (hA : ∀ q, q < n → A q = A' q) : ∀ m k x, k + m ≤ n → suF A c m k x = suF A' c m k x := by
  intro m
  induction m with
  | zero => exact fun _ _ _ => rfl
  | succ m ih =>
    intro k x hk
    unfold suF
    rw [hA k (by omega)]
    exact ih (k + 1) _ (by omega)
variable {G : GB} {b : Nat}
theorem a_stillLoop (hb : b ≤ 122) {P : PV} {n : Nat} (hn8 : n ≤ 8) (h0 : P.1 0 = nI n) : ∀ (m k fuel : Nat), k + m = n → m < fuel → f_X1_wasStill_2 (hp G b P) fuel b (nI k) = some (if stF (rowP P) (bfR P) m k = true then 1 else 0) := by
  intro m
  induction m with
  | zero =>
    intro k fuel hk hf
    obtain ⟨fuel, rfl⟩ : ∃ f, fuel = f + 1 := ⟨fuel - 1, by omega⟩
    show b_X1_wasStill_2 _ _ _ _ = _
    unfold b_X1_wasStill_2
    rw [p_I0 hb, obs, h0, if_pos (nI_le (by omega) (by omega))]
    rfl
  | succ m ih =>
    intro k fuel hk hf
    obtain ⟨fuel, rfl⟩ : ∃ f, fuel = f + 1 := ⟨fuel - 1, by omega⟩
    show b_X1_wasStill_2 _ _ _ _ = _
    unfold b_X1_wasStill_2 b_X1_wasStill_55 stF
    rw [p_I0 hb, obs, h0, if_neg (nI_ge (by omega) (by omega)), p_R6 hb, obs, p_a6 hb, bd_nI (by omega) (by decide), obs, p_R15 hb, obs, p_a15 hb, bd_nI (by omega) (by decide), obs]
    by_cases h9 : P.2 6 k = P.2 15 k
    · rw [if_pos h9, p_R7 hb, obs, p_a7 hb, bd_nI (by omega) (by decide), obs, p_R16 hb, obs, p_a16 hb, bd_nI (by omega) (by decide), obs]
      by_cases h10 : P.2 7 k = P.2 16 k
      · rw [if_pos h10, p_R10 hb, obs, p_a10 hb, bd_nI (by omega) (by decide), obs, p_R17 hb, obs, p_a17 hb, bd_nI (by omega) (by decide), obs]
        by_cases h13 : P.2 10 k = P.2 17 k
        · rw [if_pos h13, nI_1, ih (k + 1) fuel (by omega) (by omega), show rowP P k 9 = P.2 6 k from rfl, show rowP P k 10 = P.2 7 k from rfl, show rowP P k 13 = P.2 10 k from rfl, show bfR P k 9 = P.2 15 k from rfl, show bfR P k 10 = P.2 16 k from rfl, show bfR P k 13 = P.2 17 k from rfl, decide_eq_true h9, decide_eq_true h10, decide_eq_true h13, Bool.true_and, Bool.true_and, Bool.true_and]
        · rw [if_neg h13, show rowP P k 13 = P.2 10 k from rfl, show bfR P k 13 = P.2 17 k from rfl, decide_eq_false h13, Bool.and_false, Bool.false_and]
          rfl
      · rw [if_neg h10, show rowP P k 10 = P.2 7 k from rfl, show bfR P k 10 = P.2 16 k from rfl, decide_eq_false h10, Bool.and_false, Bool.false_and, Bool.false_and]
        rfl
    · rw [if_neg h9, show rowP P k 9 = P.2 6 k from rfl, show bfR P k 9 = P.2 15 k from rfl, decide_eq_false h9, Bool.false_and, Bool.false_and, Bool.false_and]
      rfl
theorem a_still (hb : b ≤ 122) {P : PV} {n : Nat} (hn8 : n ≤ 8) (h0 : P.1 0 = nI n) : f_X1_wasStill (hp G b P) b = some (if stF (rowP P) (bfR P) n 0 = true then 1 else 0) := a_stillLoop hb hn8 h0 n 0 FU (by omega) (by rw [FU_eq]; omega)
theorem a_anyLoop (hb : b ≤ 122) {P : PV} {n : Nat} (hn8 : n ≤ 8) (h0 : P.1 0 = nI n) : ∀ (m k fuel : Nat), k + m = n → m < fuel → f_X1_isAnyShorted_2 (hp G b P) fuel b (nI k) = some (if shF (rowP P) m k = true then 0 else 1) := by
  intro m
  induction m with
  | zero =>
    intro k fuel hk hf
    obtain ⟨fuel, rfl⟩ : ∃ f, fuel = f + 1 := ⟨fuel - 1, by omega⟩
    show b_X1_isAnyShorted_2 _ _ _ _ = _
    unfold b_X1_isAnyShorted_2
    rw [p_I0 hb, obs, h0, if_pos (nI_le (by omega) (by omega))]
    rfl
  | succ m ih =>
    intro k fuel hk hf
    obtain ⟨fuel, rfl⟩ : ∃ f, fuel = f + 1 := ⟨fuel - 1, by omega⟩
    show b_X1_isAnyShorted_2 _ _ _ _ = _
    unfold b_X1_isAnyShorted_2 shF
    rw [p_I0 hb, obs, h0, if_neg (nI_ge (by omega) (by omega)), p_R9 hb, obs, p_a9 hb, bd_nI (by omega) (by decide), obs]
    by_cases h : P.2 9 k ≤ 0
    · rw [if_pos h, nI_1, ih (k + 1) fuel (by omega) (by omega), show rowP P k 12 = P.2 9 k from rfl, decide_eq_true h, Bool.true_and]
    · rw [if_neg h, show rowP P k 12 = P.2 9 k from rfl, decide_eq_false h, Bool.false_and]
      rfl
theorem a_any (hb : b ≤ 122) {P : PV} {n : Nat} (hn8 : n ≤ 8) (h0 : P.1 0 = nI n) : f_X1_isAnyShorted (hp G b P) b = some (if shF (rowP P) n 0 = true then 0 else 1) := a_anyLoop hb hn8 h0 n 0 FU (by omega) (by rw [FU_eq]; omega)
/-- the mask of the rails in a state -/
def maS (V : Nat → Nat → Int32) (v : Int32) (n : Nat) : Int32 := nI (mkN (fun q => decide (V q 9 = v)) n)
theorem ma_congr {A A' : Nat → Nat → Int32} {n : Nat} (v : Int32) (hA : ∀ q, q < n → A q 9 = A' q 9) : maS A v n = maS A' v n := by
  unfold maS
  rw [mk_congr (fun q hq => by rw [hA q hq])]
theorem a_maskLoop (hb : b ≤ 122) {P : PV} {n : Nat} (hn8 : n ≤ 8) (h0 : P.1 0 = nI n) (v : Int32) : ∀ (m k fuel : Nat), k + m = n → m < fuel → f_X1_maskOf_4 (hp G b P) fuel b v (nI (mkN (fun q => decide (rowP P q 9 = v)) k)) (nI k) = some (maS (rowP P) v n) := by
  intro m
  induction m with
  | zero =>
    intro k fuel hk hf
    obtain ⟨fuel, rfl⟩ : ∃ f, fuel = f + 1 := ⟨fuel - 1, by omega⟩
    obtain rfl : k = n := by omega
    show b_X1_maskOf_4 _ _ _ _ _ _ = _
    unfold b_X1_maskOf_4
    rw [p_I0 hb, obs, h0, if_pos (nI_le (by omega) (by omega))]
    rfl
  | succ m ih =>
    intro k fuel hk hf
    obtain ⟨fuel, rfl⟩ : ∃ f, fuel = f + 1 := ⟨fuel - 1, by omega⟩
    have ih := ih (k + 1) fuel (by omega) (by omega)
    show b_X1_maskOf_4 _ _ _ _ _ _ = _
    unfold b_X1_maskOf_4 b_X1_maskOf_28
    rw [p_I0 hb, obs, h0, if_neg (nI_ge (by omega) (by omega)), p_R6 hb, obs, p_a6 hb, bd_nI (by omega) (by decide), obs]
    rw [show mkN (fun q => decide (rowP P q 9 = v)) (k + 1) = mkN (fun q => decide (rowP P q 9 = v)) k ||| (if decide (rowP P k 9 = v) = true then 2 ^ k else 0) from rfl] at ih
    by_cases h : rowP P k 9 = v
    · rw [if_pos (show P.2 6 k = v from h), obs, nI_bit (by omega), nI_or, nI_1]
      rw [if_pos (decide_eq_true h)] at ih
      exact ih
    · rw [if_neg (show ¬ P.2 6 k = v from h), nI_1]
      rw [if_neg (by rw [decide_eq_false h]; decide), Nat.or_zero] at ih
      exact ih
theorem a_maskOf (hb : b ≤ 122) {P : PV} {n : Nat} (hn8 : n ≤ 8) (h0 : P.1 0 = nI n) (v : Int32) : f_X1_maskOf (hp G b P) b v = some (maS (rowP P) v n) := by
  unfold f_X1_maskOf
  exact a_maskLoop hb hn8 h0 v n 0 FU (by omega) (by rw [FU_eq]; omega)
theorem a_sumLoop (hb : b ≤ 122) {P : PV} {n : Nat} (hn8 : n ≤ 8) (h0 : P.1 0 = nI n) : ∀ (m k fuel : Nat) (x : Int32), k + m = n → m < fuel → f_X1_sumOfVoltages_4 (hp G b P) fuel b x (nI k) = some (suF (rowP P) 10 m k x) := by
  intro m
  induction m with
  | zero =>
    intro k fuel x hk hf
    obtain ⟨fuel, rfl⟩ : ∃ f, fuel = f + 1 := ⟨fuel - 1, by omega⟩
    show b_X1_sumOfVoltages_4 _ _ _ _ _ = _
    unfold b_X1_sumOfVoltages_4
    rw [p_I0 hb, obs, h0, if_pos (nI_le (by omega) (by omega))]
    rfl
  | succ m ih =>
    intro k fuel x hk hf
    obtain ⟨fuel, rfl⟩ : ∃ f, fuel = f + 1 := ⟨fuel - 1, by omega⟩
    show b_X1_sumOfVoltages_4 _ _ _ _ _ = _
    unfold b_X1_sumOfVoltages_4
    rw [p_I0 hb, obs, h0, if_neg (nI_ge (by omega) (by omega)), p_R7 hb, obs, p_a7 hb, bd_nI (by omega) (by decide), obs, obs, nI_1, ih (k + 1) fuel _ (by omega) (by omega)]
    rfl
