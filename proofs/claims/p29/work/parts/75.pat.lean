/-! what is only read: the least patience -/
theorem rA_5L : rA 7 roL (5 : Int32) = some 1 := rfl
theorem rA_5M : rA 7 roM (5 : Int32) = some 200 := rfl
def lpF (a c d : Nat) : Nat → Nat → Int32
  | 0, _ => -1
  | m + 1, k => if k * (c * 100) < a * d then lpF a c d m (k + 1) else nI k
variable {G : GB} {b : Nat}
theorem a_patLoop (h : MH) {a c d : Nat} (ha : a ≤ 5000) (hc2 : c ≤ 1000) (hd : d ≤ 100) : ∀ (m k fuel : Nat), k + m = 201 → m < fuel → f_X1_leastPatienceOf_31 h fuel (nI (a * d)) (nI (c * 100)) (nI k) = some (lpF a c d m k) := by
  intro m
  induction m with
  | zero =>
    intro k fuel hk hf
    obtain ⟨fuel, rfl⟩ : ∃ f, fuel = f + 1 := ⟨fuel - 1, by omega⟩
    show b_X1_leastPatienceOf_31 h (f_X1_leastPatienceOf_31 h fuel) _ _ _ = _
    unfold b_X1_leastPatienceOf_31
    rw [rA_5M, obs, if_pos (by rw [show (200 : Int32) = nI 200 from rfl]; exact nI_lt (by omega) (by omega))]
    rfl
  | succ m ih =>
    intro k fuel hk hf
    obtain ⟨fuel, rfl⟩ : ∃ f, fuel = f + 1 := ⟨fuel - 1, by omega⟩
    show b_X1_leastPatienceOf_31 h (f_X1_leastPatienceOf_31 h fuel) _ _ _ = _
    unfold b_X1_leastPatienceOf_31 lpF
    have h1 : a * d ≤ 5000 * 100 := Nat.mul_le_mul ha hd
    have h2 : k * (c * 100) ≤ 201 * (1000 * 100) := Nat.mul_le_mul (by omega) (by omega)
    have hlt : nI k * nI (c * 100) < nI (a * d) ↔ k * (c * 100) < a * d := by
      rw [pk_mul, nI_ltI (by omega) (by omega)]
    rw [rA_5M, obs, if_neg (by rw [show (200 : Int32) = nI 200 from rfl, nI_ltI (by omega) (by omega)]; omega)]
    by_cases hx : k * (c * 100) < a * d
    · rw [if_pos (hlt.2 hx), if_pos hx, nI_1]
      exact ih (k + 1) fuel (by omega) (by omega)
    · rw [if_neg (fun hh => hx (hlt.1 hh)), if_neg hx]
variable {T : TS}
theorem nat_of {x : Int32} {lo hi : Int} (h0 : 0 ≤ lo) (h : lo ≤ x.toInt ∧ x.toInt ≤ hi) : ∃ a : Nat, lo ≤ a ∧ (a : Int) ≤ hi ∧ x = nI a := by
  have hx : ¬ x < 0 := by
    rw [Int32.lt_iff_toInt_lt]
    have e0 : (0 : Int32).toInt = 0 := rfl
    omega
  obtain ⟨a, ha, rfl⟩ := nI_of hx
  rw [nI_toInt ha] at h
  exact ⟨a, h.1, h.2, rfl⟩
