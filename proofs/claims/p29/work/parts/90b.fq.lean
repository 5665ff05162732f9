/-! quotients, comparisons, the bits of a share -/
theorem near_ge {A B M : Nat} (hB : 0 < B) (h : M * B ≤ A) : M ≤ FP.Core.nearest A B := by
  have : M ≤ A / B := (Nat.le_div_iff_mul_le hB).mpr h
  unfold FP.Core.nearest
  split
  · exact this
  · split <;> omega
theorem near_le {A B M : Nat} (hB : 0 < B) (h : A ≤ M * B) : FP.Core.nearest A B ≤ M := by
  by_cases he : A = M * B
  · rw [he, near_mul M hB]
    exact Nat.le_refl _
  · have : A / B < M := (Nat.div_lt_iff_lt_mul hB).mpr (by omega)
    unfold FP.Core.nearest
    split
    · omega
    · split <;> omega
theorem lead_cd {c d : Nat} (hc1 : 4503599627370496 ≤ c) (hc2 : c < 9007199254740992) (hd1 : 4503599627370496 ≤ d) (hd2 : d < 9007199254740992) : FP.Core.leading c d = if d ≤ c then 0 else -1 := by
  unfold FP.Core.leading
  rw [lg2 (A := c) (n := 52) hc1 hc2, lg2 (A := d) (n := 52) hd1 hd2]
  show (if d * 2 ^ (((52 : Nat) : Int) - ((52 : Nat) : Int)).toNat ≤ c * 2 ^ (-(((52 : Nat) : Int) - ((52 : Nat) : Int))).toNat then ((52 : Nat) : Int) - ((52 : Nat) : Int) else ((52 : Nat) : Int) - ((52 : Nat) : Int) - 1) = _
  rw [show (((52 : Nat) : Int) - ((52 : Nat) : Int)) = 0 by omega, show (-(0 : Int)).toNat = 0 by decide, show (0 : Int).toNat = 0 by decide, Nat.pow_zero, Nat.mul_one, Nat.mul_one]
  rfl
theorem settle_nm {m : Nat} {q : Int} (h1 : 4503599627370496 ≤ m) (h2 : m ≤ 9007199254740992) (h3 : -1074 ≤ q) (h4 : q + 1 ≤ 971) : ∃ c' q', FP.Core.settle FP.Core.b64 false m q = .fin false c' q' ∧ nm c' q' ∧ q ≤ q' ∧ q' ≤ q + 1 ∧ (m < 9007199254740992 → q' = q) := by
  unfold FP.Core.settle FP.Core.bound
  rw [f_pp, f_qx, f_tl]
  by_cases hm : m < 9007199254740992
  · exact ⟨m, q, by rw [if_pos hm, if_pos (by omega)], ⟨h1, hm, h3, by omega⟩, by omega, by omega, fun _ => rfl⟩
  · exact ⟨4503599627370496, q + 1, by rw [if_neg hm, if_pos (by omega)], ⟨by omega, by omega, by omega, by omega⟩, by omega, by omega, fun hh => absurd hh hm⟩
/-- a quotient of at most one -/
theorem divU {c d : Nat} {q r : Int} (h : nm c q) (h' : nm d r) (hle : q < r ∨ (q = r ∧ c ≤ d)) (hlo : -40 ≤ q - r) : ∃ c' q', FP.ddiv (U c q) (U d r) = U c' q' ∧ nm c' q' ∧ -200 ≤ q' ∧ q' ≤ -52 := by
  have hh := h
  have hh' := h'
  obtain ⟨c1, c2, c3, c4⟩ := hh
  obtain ⟨d1, d2, d3, d4⟩ := hh'
  have e0 : FP.ddiv (U c q) (U d r) = UInt64.ofNat (FP.Core.encode FP.Core.b64 (FP.Core.roundRatio FP.Core.b64 false c d (q - r))) := by
    show UInt64.ofNat (FP.Core.div FP.Core.b64 (U c q).toNat (U d r).toNat) = _
    unfold FP.Core.div
    rw [U_nat h, U_nat h', dec_wd h, dec_wd h']
    show UInt64.ofNat (FP.Core.encode FP.Core.b64 (if d = 0 then (if c = 0 then .nan else .inf (false != false)) else FP.Core.roundRatio FP.Core.b64 (false != false) c d (q - r))) = _
    rw [if_neg (by omega)]
    rfl
  have hd0 : 0 < d := by omega
  have hc0 : ¬ c = 0 := by omega
  have key : ∃ c' q', FP.Core.roundRatio FP.Core.b64 false c d (q - r) = .fin false c' q' ∧ nm c' q' ∧ -200 ≤ q' ∧ q' ≤ -52 := by
    by_cases hdc : d ≤ c
    · have hqm : FP.Core.quantum FP.Core.b64 c d (q - r) = q - r - 52 := by
        unfold FP.Core.quantum
        rw [lead_cd c1 c2 d1 d2, if_pos hdc, f_qn, f_p]
        omega
      have er : FP.Core.roundRatio FP.Core.b64 false c d (q - r) = FP.Core.settle FP.Core.b64 false (FP.Core.nearest (c * 2 ^ 52) d) (q - r - 52) := by
        unfold FP.Core.roundRatio
        rw [if_neg hc0, hqm]
        unfold FP.Core.roundAt FP.Core.unitsNum FP.Core.unitsDen
        rw [show (q - r - (q - r - 52)).toNat = 52 by omega, show (q - r - 52 - (q - r)).toNat = 0 by omega, Nat.pow_zero, Nat.mul_one]
      have m1 : 4503599627370496 ≤ FP.Core.nearest (c * 2 ^ 52) d := near_ge hd0 (by
        rw [Nat.mul_comm c]
        exact Nat.mul_le_mul_left _ hdc)
      have m2 : FP.Core.nearest (c * 2 ^ 52) d ≤ 9007199254740992 := near_le hd0 (by
        have : c ≤ 2 * d := by omega
        have t := Nat.mul_le_mul_right (2 ^ 52) this
        rw [show 9007199254740992 * d = 2 * d * 2 ^ 52 by rw [show (2 : Nat) ^ 52 = 4503599627370496 from rfl]; omega]
        exact t)
      obtain ⟨c', q', s1, s2, s3, s4, s5⟩ := settle_nm (q := q - r - 52) m1 m2 (by omega) (by omega)
      refine ⟨c', q', er.trans s1, s2, by omega, ?_⟩
      rcases hle with hle | ⟨hle, hcd⟩
      · omega
      · have hcd2 : c = d := by omega
        have hm : FP.Core.nearest (c * 2 ^ 52) d = 4503599627370496 := by
          rw [hcd2, Nat.mul_comm]
          exact near_mul _ hd0
        have := s5 (by rw [hm]; decide)
        omega
    · have hqm : FP.Core.quantum FP.Core.b64 c d (q - r) = q - r - 53 := by
        unfold FP.Core.quantum
        rw [lead_cd c1 c2 d1 d2, if_neg hdc, f_qn, f_p]
        omega
      have er : FP.Core.roundRatio FP.Core.b64 false c d (q - r) = FP.Core.settle FP.Core.b64 false (FP.Core.nearest (c * 2 ^ 53) d) (q - r - 53) := by
        unfold FP.Core.roundRatio
        rw [if_neg hc0, hqm]
        unfold FP.Core.roundAt FP.Core.unitsNum FP.Core.unitsDen
        rw [show (q - r - (q - r - 53)).toNat = 53 by omega, show (q - r - 53 - (q - r)).toNat = 0 by omega, Nat.pow_zero, Nat.mul_one]
      have m1 : 4503599627370496 ≤ FP.Core.nearest (c * 2 ^ 53) d := near_ge hd0 (by
        rw [show c * 2 ^ 53 = 2 * c * 4503599627370496 by rw [show (2 : Nat) ^ 53 = 9007199254740992 from rfl]; omega, Nat.mul_comm]
        exact Nat.mul_le_mul_right _ (by omega))
      have m2 : FP.Core.nearest (c * 2 ^ 53) d ≤ 9007199254740992 := near_le hd0 (by
        rw [Nat.mul_comm]
        exact Nat.mul_le_mul_left _ (by omega))
      obtain ⟨c', q', s1, s2, s3, s4, s5⟩ := settle_nm (q := q - r - 53) m1 m2 (by omega) (by omega)
      exact ⟨c', q', er.trans s1, s2, by omega, by omega⟩
  obtain ⟨c', q', k1, k2, k3, k4⟩ := key
  exact ⟨c', q', by rw [e0, k1, enc_wd k2]; rfl, k2, k3, k4⟩
/-- whole numbers as doubles -/
theorem i2dU {k : Nat} (h0 : 0 < k) (hk : k < 262144) : FP.i2d (nI k) = U (k * 2 ^ (52 - k.log2)) ((k.log2 : Int) - 52) ∧ nm (k * 2 ^ (52 - k.log2)) ((k.log2 : Int) - 52) ∧ k.log2 ≤ 17 := by
  have a1 : 2 ^ k.log2 ≤ k := Nat.log2_self_le (by omega)
  have a2 : k < 2 ^ (k.log2 + 1) := Nat.lt_log2_self
  have hl : k.log2 ≤ 17 := by
    by_cases hh : k.log2 ≤ 17
    · exact hh
    · have := Nat.pow_le_pow_right (n := 2) (by decide) (show 18 ≤ k.log2 by omega)
      omega
  have hb1 : 4503599627370496 ≤ k * 2 ^ (52 - k.log2) := by
    have := Nat.mul_le_mul_right (2 ^ (52 - k.log2)) a1
    rw [← Nat.pow_add, show k.log2 + (52 - k.log2) = 52 by omega] at this
    exact this
  have hb2 : k * 2 ^ (52 - k.log2) < 9007199254740992 := by
    have := Nat.mul_lt_mul_of_pos_right a2 (Nat.two_pow_pos (52 - k.log2))
    rw [← Nat.pow_add, show k.log2 + 1 + (52 - k.log2) = 53 by omega] at this
    exact this
  have hn : nm (k * 2 ^ (52 - k.log2)) ((k.log2 : Int) - 52) := ⟨hb1, hb2, by omega, by omega⟩
  refine ⟨?_, hn, hl⟩
  show UInt64.ofNat (FP.Core.encode FP.Core.b64 (FP.Core.round FP.Core.b64 (FP.Core.ofInt (nI k).toInt))) = _
  rw [nI_toInt (by omega)]
  have e : FP.Core.ofInt (k : Int) = .fin false k 0 := by
    unfold FP.Core.ofInt
    rw [decide_eq_false (by omega), Int.natAbs_natCast]
  rw [e]
  show UInt64.ofNat (FP.Core.encode FP.Core.b64 (FP.Core.roundRatio FP.Core.b64 false k 1 0)) = _
  rw [rr_down (k := 52 - k.log2) hn (by omega), enc_wd hn]
  rfl
theorem i2d_0 : FP.i2d (0 : Int32) = 0 := by decide +kernel
theorem cmp_ord (x y : UInt64) : FP.dcmp x y = FP.Core.order (FP.Core.decode FP.Core.b64 x.toNat) (FP.Core.decode FP.Core.b64 y.toNat) := rfl
theorem cI_eq (a : Int) : compare a a = .eq := by
  show (if a < a then Ordering.lt else if a = a then Ordering.eq else Ordering.gt) = _
  rw [if_neg (by omega), if_pos rfl]
theorem cmpU {c d : Nat} {q r : Int} (h : nm c q) (h' : nm d r) : FP.dcmp (U c q) (U d r) = some (compare ((c * 2 ^ (q - min q r).toNat : Nat) : Int) ((d * 2 ^ (r - min q r).toNat : Nat) : Int)) := by
  rw [cmp_ord, U_nat h, U_nat h', dec_wd h, dec_wd h']
  rfl
theorem dec_0 : FP.Core.decode FP.Core.b64 (0 : UInt64).toNat = .fin false 0 (-1074) := by decide +kernel
theorem cmp_self {c : Nat} {q : Int} (h : nm c q) : (Op.cmpValue (FP.dcmp (U c q) (U c q)) .l) = 0 := by
  rw [cmpU h h, cI_eq]
  rfl
theorem cmp_00 : (Op.cmpValue (FP.dcmp (0 : UInt64) (0 : UInt64)) .l) = 0 := by decide +kernel
