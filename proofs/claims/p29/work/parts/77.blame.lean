/-! the first blame, on both sides -/
def fbF (bl : Nat → Int32) : Nat → Nat → Int32
  | 0, i => nI i
  | m + 1, i => if bl i = -1 then nI i else fbF bl m (bl i).toInt.toNat
theorem nI_m1 {k : Nat} (hk : k < 2 ^ 31) : ¬ nI k = -1 := by
  intro h
  have := congrArg Int32.toInt h
  rw [nI_toInt hk] at this
  have e : (-1 : Int32).toInt = -1 := rfl
  omega
theorem fb_self {bl : Nat → Int32} {i : Nat} (hi : i < 2 ^ 31) (h : bl i = nI i) : ∀ m, fbF bl m i = nI i := by
  intro m
  induction m with
  | zero => rfl
  | succ m ih =>
    unfold fbF
    rw [h, if_neg (nI_m1 hi), nI_toInt hi, Int.toNat_natCast]
    exact ih
variable {G : GB} {b : Nat}
theorem a_blameLoop (hb : b ≤ 122) {P : PV} {n : Nat} (hn8 : n ≤ 8) (hbl : ∀ i, i < n → P.2 12 i = -1 ∨ ∃ k, k ≤ i ∧ P.2 12 i = nI k) : ∀ (m c fuel i : Nat), c + m = 8 → m < fuel → i < n → f_X1_firstBlameOf_16 (hp G b P) fuel b (nI i) (nI c) = some (fbF (P.2 12) m i) := by
  intro m
  induction m with
  | zero =>
    intro c fuel i hc hf hi
    obtain ⟨fuel, rfl⟩ : ∃ f, fuel = f + 1 := ⟨fuel - 1, by omega⟩
    show b_X1_firstBlameOf_16 _ _ _ _ _ = _
    unfold b_X1_firstBlameOf_16 b_X1_firstBlameOf_45
    rw [if_pos (by rw [show (8 : Int32) = nI 8 from rfl]; exact nI_le (by omega) (by omega))]
    rfl
  | succ m ih =>
    intro c fuel i hc hf hi
    obtain ⟨fuel, rfl⟩ : ∃ f, fuel = f + 1 := ⟨fuel - 1, by omega⟩
    show b_X1_firstBlameOf_16 _ _ _ _ _ = _
    unfold b_X1_firstBlameOf_16 b_X1_firstBlameOf_45 fbF
    rw [if_neg (by rw [show (8 : Int32) = nI 8 from rfl]; exact nI_ge (by omega) (by omega)), p_R12 hb, obs, p_a12 hb, bd_nI (by omega) (by decide), obs]
    rcases hbl i hi with h | ⟨k, hk, h⟩
    · rw [if_pos h, if_pos h]
    · rw [h, if_neg (nI_m1 (by omega)), if_neg (nI_m1 (by omega)), obs, p_a12 hb, bd_nI (by omega) (by decide), obs, h, nI_1, nI_toInt (by omega), Int.toNat_natCast]
      exact ih (c + 1) fuel k (by omega) (by omega) (by omega)
/-- the first blame of rail i -/
def fbO (bl : Nat → Int32) (i : Nat) : Int32 := if bl i = -1 then -1 else fbF bl 8 i
theorem a_blame (hb : b ≤ 122) {P : PV} {n i : Nat} (hn8 : n ≤ 8) (hbl : ∀ i, i < n → P.2 12 i = -1 ∨ ∃ k, k ≤ i ∧ P.2 12 i = nI k) (hi : i < n) : f_X1_firstBlameOf (hp G b P) b (nI i) = some (fbO (P.2 12) i) := by
  unfold f_X1_firstBlameOf fbO
  rw [p_R12 hb, obs, p_a12 hb, bd_nI (by omega) (by decide), obs]
  by_cases h : P.2 12 i = -1
  · rw [if_pos h, if_pos h]
  · rw [if_neg h, if_neg h]
    exact a_blameLoop hb hn8 hbl 8 0 FU i (by omega) (by rw [FU_eq]; omega) hi
