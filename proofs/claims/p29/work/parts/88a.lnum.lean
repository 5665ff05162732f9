/-! numbers that the law packs and unpacks -/
theorem jx9 (r : Nat) : (9 : Int32) * nI r = nI (9 * r) := pk_mul 9 r
theorem jx7 (r : Nat) : (7 : Int32) * nI r = nI (7 * r) := pk_mul 7 r
theorem jx3 (r : Nat) : (3 : Int32) * nI r = nI (3 * r) := pk_mul 3 r
theorem jm {a c : Nat} (h : c ≤ a) : nI a - nI c = nI (a - c) := pk_sub h
theorem sh_n {k : Nat} (hk : k < 31) : ((nI k &&& 31).toBitVec.smod 32).toNat = k := by
  have key : ∀ r, r < 31 → ((nI r &&& 31).toBitVec.smod 32).toNat = r := by decide +kernel
  exact key k hk
theorem and1 (y : Int32) : y &&& 1 = 0 ∨ y &&& 1 = 1 := by
  have e : y &&& 1 = nI (y.toBitVec.toNat &&& 1) := by
    have h := nI_and y.toBitVec.toNat 1
    rw [nI_nat] at h
    exact h
  rw [e, Nat.and_one_is_mod]
  rcases Nat.mod_two_eq_zero_or_one y.toBitVec.toNat with h | h <;> rw [h]
  · exact Or.inl rfl
  · exact Or.inr rfl
theorem tb_hasnt (x : Int32) {k : Nat} (hk : k < 31) : ((x >>> (nI k &&& 31)) &&& (1 : Int32)) = 0 ↔ tb x k = false := by
  have h1 := tb_has x hk
  constructor
  · intro h
    cases ht : tb x k with
    | false => rfl
    | true => rw [h1.2 ht] at h; exact absurd h (by decide)
  · intro ht
    rcases and1 (x >>> (nI k &&& 31)) with h | h
    · exact h
    · rw [h1] at h
      rw [h] at ht
      exact absurd ht (by decide)
/-- eight to a digit -/
def okN (s : Nat → Nat) : Nat → Nat
  | 0 => 0
  | m + 1 => okN s m + s m * 8 ^ m
theorem ok_lt {s : Nat → Nat} (hs : ∀ k, s k < 8) : ∀ m, okN s m < 8 ^ m := by
  intro m
  induction m with
  | zero => simp [okN]
  | succ m ih =>
    have h1 := hs m
    have h2 : s m * 8 ^ m ≤ 7 * 8 ^ m := Nat.mul_le_mul_right _ (by omega)
    show okN s m + s m * 8 ^ m < 8 ^ (m + 1)
    rw [Nat.pow_succ]
    omega
theorem ok_get {s : Nat → Nat} (hs : ∀ k, s k < 8) : ∀ m k, k < m → okN s m / 8 ^ k % 8 = s k := by
  intro m
  induction m with
  | zero => intro k hk; omega
  | succ m ih =>
    intro k hk
    show (okN s m + s m * 8 ^ m) / 8 ^ k % 8 = s k
    have hp : 0 < 8 ^ k := Nat.pow_pos (by decide)
    by_cases h : k = m
    · subst h
      rw [Nat.add_mul_div_right _ _ hp, Nat.div_eq_of_lt (ok_lt hs k), Nat.zero_add, Nat.mod_eq_of_lt (hs k)]
    · have e2 : 8 ^ m = 8 ^ (m - k - 1) * 8 * 8 ^ k := by
        rw [← Nat.pow_succ, ← Nat.pow_add]
        congr 1
        omega
      rw [e2, ← Nat.mul_assoc, Nat.add_mul_div_right _ _ hp, ← Nat.mul_assoc, Nat.add_mul_mod_self_right]
      exact ih k (by omega)
theorem p8 (m : Nat) : 2 ^ (3 * m) = 8 ^ m := Nat.pow_mul 2 3 m
theorem p8_lt {m : Nat} (h : m ≤ 6) : 8 ^ m ≤ 262144 := Nat.pow_le_pow_right (n := 8) (j := 6) (by decide) h
theorem old_or {s : Nat → Nat} (hs : ∀ k, s k < 8) {m : Nat} (hm : m < 6) : nI (okN s m) ||| (nI (s m) <<< (nI (3 * m) &&& 31)) = nI (okN s (m + 1)) := by
  have h1 := hs m
  have hp := p8_lt (m := m) (by omega)
  have h2 : s m * 8 ^ m ≤ 7 * 262144 := Nat.mul_le_mul (by omega) hp
  rw [pk_shlN (n := s m) (nI (3 * m) &&& 31) (3 * m) (sh_n (by omega)) (by rw [p8]; omega), nI_or, p8]
  congr 1
  have h := Nat.two_pow_add_eq_or_of_lt (i := 3 * m) (b := okN s m) (by rw [p8]; exact ok_lt hs m) (s m)
  rw [p8] at h
  show okN s m ||| s m * 8 ^ m = okN s m + s m * 8 ^ m
  rw [Nat.or_comm, Nat.mul_comm (s m), ← h, Nat.add_comm]
theorem old_get {s : Nat → Nat} (hs : ∀ k, s k < 8) {n k : Nat} (hn : n ≤ 6) (hk : k < n) : (nI (okN s n) >>> (nI (3 * k) &&& 31)) &&& (7 : Int32) = nI (s k) := by
  have h1 := ok_lt hs n
  have h2 := p8_lt hn
  rw [pk_shrN (by omega) (nI (3 * k) &&& 31) (3 * k) (sh_n (by omega)), p8, show (7 : Int32) = nI 7 from rfl, nI_and]
  congr 1
  rw [show (7 : Nat) = 2 ^ 3 - 1 from rfl, Nat.and_two_pow_sub_one_eq_mod]
  exact ok_get hs n k hk
theorem i_div {a c : Nat} (ha : a < 2 ^ 31) (hc : 0 < c) (hc2 : c < 2 ^ 31) : fidiv (nI a) (nI c) = some (nI (a / c)) := by
  unfold fidiv
  rw [if_neg (nI_ne0 hc hc2)]
  refine congrArg some (Int32.toInt_inj.1 ?_)
  have h1 : a / c ≤ a := Nat.div_le_self _ _
  rw [Int32.toInt_div, nI_toInt ha, nI_toInt hc2, nI_toInt (show a / c < 2 ^ 31 from Nat.lt_of_le_of_lt h1 ha), ← Int.ofNat_tdiv]
  generalize a / c = q at h1 ⊢
  rw [i_small (by omega) (by omega)]
theorem i_mod {a c : Nat} (ha : a < 2 ^ 31) (hc : 0 < c) (hc2 : c < 2 ^ 31) : firem (nI a) (nI c) = some (nI (a % c)) := by
  have h := i_div ha hc hc2
  unfold fidiv at h
  rw [if_neg (nI_ne0 hc hc2)] at h
  have h := os h
  unfold firem
  rw [if_neg (nI_ne0 hc hc2), h]
  have e : nI (a / c) * nI c = nI (a / c * c) := pk_mul _ _
  have h2 : a / c * c ≤ a := Nat.div_mul_le_self _ _
  rw [e, jm h2]
  refine congrArg some (congrArg nI ?_)
  have := Nat.mod_add_div a c
  rw [Nat.mul_comm c] at this
  omega
theorem l_at (h : MH) {a c : Nat} (ha : a < 2 ^ 31) (hc : 0 < c) (hc2 : c < 2 ^ 31) : f_L_at h (nI a) (nI c) = some (nI (a / 2 % c)) := by
  unfold f_L_at ushr
  rw [pk_ushrN (by omega) (1 : Int32) 1 (by decide)]
  rw [i_mod (by omega) hc hc2]
  rfl
