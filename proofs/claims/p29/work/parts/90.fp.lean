/-! doubles between 0 and 1: normal numbers by significand and exponent -/
theorem f_tl : FP.Core.b64.tails = 4503599627370496 := by decide
theorem f_ex : FP.Core.b64.exps = 2048 := by decide
theorem f_qn : FP.Core.b64.qmin = -1074 := by decide
theorem f_qx : FP.Core.b64.qmax = 971 := by decide
theorem f_pp : 2 ^ FP.Core.b64.p = 9007199254740992 := by decide
theorem f_p : FP.Core.b64.p = 53 := rfl
def wd (c : Nat) (q : Int) : Nat := (q + 1075).toNat * 4503599627370496 + (c - 4503599627370496)
def nm (c : Nat) (q : Int) : Prop := 4503599627370496 ≤ c ∧ c < 9007199254740992 ∧ -1074 ≤ q ∧ q ≤ 971
theorem dec_wd {c : Nat} {q : Int} (h : nm c q) : FP.Core.decode FP.Core.b64 (wd c q) = .fin false c q := by
  obtain ⟨h1, h2, h3, h4⟩ := h
  unfold FP.Core.decode FP.Core.fieldE FP.Core.fieldT FP.Core.fieldS
  rw [f_tl, f_ex, f_qn]
  have e1 : wd c q / 4503599627370496 = (q + 1075).toNat := by unfold wd; omega
  have e2 : wd c q % 4503599627370496 = c - 4503599627370496 := by unfold wd; omega
  rw [e1, e2, if_neg (by omega), if_neg (by omega)]
  have e3 : ((q + 1075).toNat / 2048 % 2 == 1) = false := by
    rw [show (q + 1075).toNat / 2048 = 0 by omega]
    rfl
  rw [e3, show 4503599627370496 + (c - 4503599627370496) = c by omega, show (-1074 : Int) + ((((q + 1075).toNat % 2048 : Nat) : Int) - 1) = q by omega]
theorem enc_wd {c : Nat} {q : Int} (h : nm c q) : FP.Core.encode FP.Core.b64 (.fin false c q) = wd c q := by
  obtain ⟨h1, h2, h3, h4⟩ := h
  show (if c < FP.Core.b64.tails then FP.Core.assemble FP.Core.b64 false 0 c else FP.Core.assemble FP.Core.b64 false ((q - FP.Core.b64.qmin).toNat + 1) (c - FP.Core.b64.tails)) = wd c q
  unfold FP.Core.assemble wd
  rw [f_tl, f_ex, f_qn, if_neg (by omega)]
  show (0 * 2048 + ((q - -1074).toNat + 1)) * 4503599627370496 + (c - 4503599627370496) = _
  omega
theorem enc_0 : FP.Core.encode FP.Core.b64 (.fin false 0 FP.Core.b64.qmin) = 0 := by decide +kernel
theorem u_nat {n : Nat} (h : n < 2 ^ 64) : (UInt64.ofNat n).toNat = n := Nat.mod_eq_of_lt h
def U (c : Nat) (q : Int) : UInt64 := UInt64.ofNat (wd c q)
theorem wd_lt {c : Nat} {q : Int} (h : nm c q) : wd c q < 9218868437227405312 := by
  obtain ⟨h1, h2, h3, h4⟩ := h
  unfold wd
  omega
theorem U_nat {c : Nat} {q : Int} (h : nm c q) : (U c q).toNat = wd c q := by
  have := wd_lt h
  unfold U
  exact u_nat (by omega)
theorem lg2 {A n : Nat} (h1 : 2 ^ n ≤ A) (h2 : A < 2 ^ (n + 1)) : A.log2 = n := by
  have h0 : A ≠ 0 := by
    have := Nat.two_pow_pos n
    omega
  have a1 : 2 ^ A.log2 ≤ A := Nat.log2_self_le h0
  have a2 : A < 2 ^ (A.log2 + 1) := Nat.lt_log2_self
  have b1 : ¬ A.log2 < n := by
    intro h
    have := Nat.pow_le_pow_right (n := 2) (by decide) (show A.log2 + 1 ≤ n by omega)
    omega
  have b2 : ¬ n < A.log2 := by
    intro h
    have := Nat.pow_le_pow_right (n := 2) (by decide) (show n + 1 ≤ A.log2 by omega)
    omega
  omega
theorem log2_1 : (1 : Nat).log2 = 0 := lg2 (by decide) (by decide)
theorem lead1 {A : Nat} (hA : A ≠ 0) : FP.Core.leading A 1 = (A.log2 : Int) := by
  unfold FP.Core.leading
  rw [log2_1]
  have e1 : ((A.log2 : Int) - ((0 : Nat) : Int)) = (A.log2 : Int) := by omega
  rw [e1]
  show (if 1 * 2 ^ (A.log2 : Int).toNat ≤ A * 2 ^ (-(A.log2 : Int)).toNat then (A.log2 : Int) else _) = _
  rw [show (A.log2 : Int).toNat = A.log2 by omega, show (-(A.log2 : Int)).toNat = 0 by omega, if_pos]
  have := Nat.log2_self_le hA
  omega
theorem near_mul (M : Nat) {B : Nat} (hB : 0 < B) : FP.Core.nearest (M * B) B = M := by
  unfold FP.Core.nearest
  rw [Nat.mul_mod_left, Nat.mul_div_cancel _ hB, if_pos (by omega)]
theorem log_mul {c k : Nat} (h1 : 4503599627370496 ≤ c) (h2 : c < 9007199254740992) : (c * 2 ^ k).log2 = 52 + k := by
  refine lg2 ?_ ?_
  · rw [Nat.pow_add]
    exact Nat.mul_le_mul_right _ h1
  · rw [show 52 + k + 1 = 53 + k by omega, Nat.pow_add]
    exact Nat.mul_lt_mul_of_pos_right h2 (Nat.two_pow_pos k)
/-- what can be written exactly is -/
theorem rr_up {c k : Nat} {q e : Int} (h : nm c q) (hq : q = e + k) : FP.Core.roundRatio FP.Core.b64 false (c * 2 ^ k) 1 e = .fin false c q := by
  obtain ⟨h1, h2, h3, h4⟩ := h
  have hA : c * 2 ^ k ≠ 0 := Nat.ne_of_gt (Nat.mul_pos (by omega) (Nat.two_pow_pos k))
  have hqm : FP.Core.quantum FP.Core.b64 (c * 2 ^ k) 1 e = q := by
    unfold FP.Core.quantum
    rw [lead1 hA, log_mul h1 h2, f_qn, f_p]
    omega
  unfold FP.Core.roundRatio
  rw [if_neg hA, hqm]
  unfold FP.Core.roundAt FP.Core.unitsNum FP.Core.unitsDen
  rw [show (e - q).toNat = 0 by omega, show (q - e).toNat = k by omega, Nat.pow_zero, Nat.mul_one, Nat.one_mul, near_mul _ (Nat.two_pow_pos k)]
  unfold FP.Core.settle FP.Core.bound
  rw [f_pp, f_qx, if_pos h2, if_pos h4]
theorem rr_down {A k : Nat} {q e : Int} (h : nm (A * 2 ^ k) q) (hq : q = e - k) : FP.Core.roundRatio FP.Core.b64 false A 1 e = .fin false (A * 2 ^ k) q := by
  obtain ⟨h1, h2, h3, h4⟩ := h
  have hA : A ≠ 0 := by
    intro hh
    rw [hh, Nat.zero_mul] at h1
    omega
  have hl : A.log2 + k = 52 := by
    have a1 : 2 ^ A.log2 ≤ A := Nat.log2_self_le hA
    have a2 : A < 2 ^ (A.log2 + 1) := Nat.lt_log2_self
    have e := lg2 (A := A * 2 ^ k) (n := A.log2 + k) (by rw [Nat.pow_add]; exact Nat.mul_le_mul_right _ a1) (by rw [show A.log2 + k + 1 = A.log2 + 1 + k by omega, Nat.pow_add]; exact Nat.mul_lt_mul_of_pos_right a2 (Nat.two_pow_pos k))
    have e2 := lg2 (A := A * 2 ^ k) (n := 52) h1 h2
    omega
  have hqm : FP.Core.quantum FP.Core.b64 A 1 e = q := by
    unfold FP.Core.quantum
    rw [lead1 hA, f_qn, f_p]
    omega
  unfold FP.Core.roundRatio
  rw [if_neg hA, hqm]
  unfold FP.Core.roundAt FP.Core.unitsNum FP.Core.unitsDen
  rw [show (e - q).toNat = k by omega, show (q - e).toNat = 0 by omega, Nat.pow_zero, Nat.mul_one]
  have t := near_mul (A * 2 ^ k) (B := 1) (by decide)
  rw [Nat.mul_one] at t
  rw [t]
  unfold FP.Core.settle FP.Core.bound
  rw [f_pp, f_qx, if_pos h2, if_pos h4]
theorem nmT {r : Int} (h1 : -1074 ≤ r) (h2 : r ≤ 971) : nm 4503599627370496 r := ⟨by omega, by omega, h1, h2⟩
theorem f_one : (4607182418800017408 : UInt64) = U 4503599627370496 (-52) := by decide +kernel
theorem mulL {c : Nat} {q r : Int} (h : nm c q) (hr1 : -1074 ≤ r) (hr2 : r ≤ 971) (h' : nm c (r + q + 52)) : FP.dmul (U 4503599627370496 r) (U c q) = U c (r + q + 52) := by
  show UInt64.ofNat (FP.Core.mul FP.Core.b64 (U 4503599627370496 r).toNat (U c q).toNat) = _
  unfold FP.Core.mul
  rw [U_nat h, U_nat (nmT hr1 hr2), dec_wd h, dec_wd (nmT hr1 hr2)]
  show UInt64.ofNat (FP.Core.encode FP.Core.b64 (FP.Core.roundRatio FP.Core.b64 false (4503599627370496 * c) 1 (r + q))) = _
  rw [Nat.mul_comm 4503599627370496 c, show c * 4503599627370496 = c * 2 ^ 52 from rfl, rr_up (k := 52) h' rfl, enc_wd h']
  rfl
theorem fd_ok {z : UInt64} (h : z.toNat ≤ 9218868437227405312) : z &&& 0x7fffffffffffffff ≤ 0x7ff0000000000000 := by
  rw [UInt64.le_iff_toNat_le, UInt64.toNat_and]
  exact Nat.le_trans Nat.and_le_left h
theorem U_ok {c : Nat} {q : Int} (h : nm c q) : U c q &&& 0x7fffffffffffffff ≤ 0x7ff0000000000000 := fd_ok (by rw [U_nat h]; exact Nat.le_of_lt (wd_lt h))
