/-! quotients, comparisons, the bits of a share -/
theorem near_ge {A B M : Nat} (hB : 0 < B) (h : M * B ≤ A) : M ≤ FP.Core.nearest A B := by
  have : M ≤ A / B := (Nat.le_div_iff_mul_le hB).mpr h
  unfold FP.Core.nearest
  split
  · exact this
  · split <;> omega
theorem near_le {A B M : Nat} (hB : 0 < B) (h : A ≤ M * B) : FP.Core.nearest A B ≤ M := by
  by_cases he : A = M * B
  · rw [he, near_mul M hB]
    exact Nat.le_refl _
  · have : A / B < M := (Nat.div_lt_iff_lt_mul hB).mpr (by omega)
    unfold FP.Core.nearest
    split
    · omega
    · split <;> omega
theorem lead_cd {c d : Nat} (hc1 : 4503599627370496 ≤ c) (hc2 : c < 9007199254740992) (hd1 : 4503599627370496 ≤ d) (hd2 : d < 9007199254740992) : FP.Core.leading c d = if d ≤ c then 0 else -1 := by
  unfold FP.Core.leading
  rw [lg2 (A := c) (n := 52) hc1 hc2, lg2 (A := d) (n := 52) hd1 hd2]
  show (if d * 2 ^ (((52 : Nat) : Int) - ((52 : Nat) : Int)).toNat ≤ c * 2 ^ (-(((52 : Nat) : Int) - ((52 : Nat) : Int))).toNat then ((52 : Nat) : Int) - ((52 : Nat) : Int) else ((52 : Nat) : Int) - ((52 : Nat) : Int) - 1) = _
  rw [show (((52 : Nat) : Int) - ((52 : Nat) : Int)) = 0 by omega, show (-(0 : Int)).toNat = 0 by decide, show (0 : Int).toNat = 0 by decide, Nat.pow_zero, Nat.mul_one, Nat.mul_one]
  rfl
theorem settle_nm {m : Nat} {q : Int} (h1 : 4503599627370496 ≤ m) (h2 : m ≤ 9007199254740992) (h3 : -1074 ≤ q) (h4 : q + 1 ≤ 971) : ∃ c' q', FP.Core.settle FP.Core.b64 false m q = .fin false c' q' ∧ nm c' q' ∧ q ≤ q' ∧ q' ≤ q + 1 ∧ (m < 9007199254740992 → q' = q) := by
  unfold FP.Core.settle FP.Core.bound
  rw [f_pp, f_qx, f_tl]
  by_cases hm : m < 9007199254740992
  · exact ⟨m, q, by rw [if_pos hm, if_pos (by omega)], ⟨h1, hm, h3, by omega⟩, by omega, by omega, fun _ => rfl⟩
  · exact ⟨4503599627370496, q + 1, by rw [if_neg hm, if_pos (by omega)], ⟨by omega, by omega, by omega, by omega⟩, by omega, by omega, fun hh => absurd hh hm⟩
/-- a quotient of at most one -/
theorem divU {c d : Nat} {q r : Int} (h : nm c q) (h' : nm d r) (hle : q < r ∨ (q = r ∧ c ≤ d)) (hlo : -40 ≤ q - r) : ∃ c' q', FP.ddiv (U c q) (U d r) = U c' q' ∧ nm c' q' ∧ -200 ≤ q' ∧ q' ≤ -52 := by
  have hh := h
  have hh' := h'
  obtain ⟨c1, c2, c3, c4⟩ := hh
  obtain ⟨d1, d2, d3, d4⟩ := hh'
  have e0 : FP.ddiv (U c q) (U d r) = UInt64.ofNat (FP.Core.encode FP.Core.b64 (FP.Core.roundRatio FP.Core.b64 false c d (q - r))) := by
    show UInt64.ofNat (FP.Core.div FP.Core.b64 (U c q).toNat (U d r).toNat) = _
    unfold FP.Core.div
    rw [U_nat h, U_nat h', dec_wd h, dec_wd h']
    show UInt64.ofNat (FP.Core.encode FP.Core.b64 (if d = 0 then (if c = 0 then .nan else .inf (false != false)) else FP.Core.roundRatio FP.Core.b64 (false != false) c d (q - r))) = _
    rw [if_neg (by omega)]
    rfl
  have hd0 : 0 < d := by omega
  have hc0 : ¬ c = 0 := by omega
  have key : ∃ c' q', FP.Core.roundRatio FP.Core.b64 false c d (q - r) = .fin false c' q' ∧ nm c' q' ∧ -200 ≤ q' ∧ q' ≤ -52 := by
    by_cases hdc : d ≤ c
    · have hqm : FP.Core.quantum FP.Core.b64 c d (q - r) = q - r - 52 := by
        unfold FP.Core.quantum
        rw [lead_cd c1 c2 d1 d2, if_pos hdc, f_qn, f_p]
        omega
      have er : FP.Core.roundRatio FP.Core.b64 false c d (q - r) = FP.Core.settle FP.Core.b64 false (FP.Core.nearest (c * 2 ^ 52) d) (q - r - 52) := by
        unfold FP.Core.roundRatio
        rw [if_neg hc0, hqm]
        unfold FP.Core.roundAt FP.Core.unitsNum FP.Core.unitsDen
        rw [show (q - r - (q - r - 52)).toNat = 52 by omega, show (q - r - 52 - (q - r)).toNat = 0 by omega, Nat.pow_zero, Nat.mul_one]
      have m1 : 4503599627370496 ≤ FP.Core.nearest (c * 2 ^ 52) d := near_ge hd0 (by
        rw [Nat.mul_comm c]
        exact Nat.mul_le_mul_left _ hdc)
      have m2 : FP.Core.nearest (c * 2 ^ 52) d ≤ 9007199254740992 := near_le hd0 (by
        have : c ≤ 2 * d := by omega
        have t := Nat.mul_le_mul_right (2 ^ 52) this
        rw [show 9007199254740992 * d = 2 * d * 2 ^ 52 by rw [show (2 : Nat) ^ 52 = 4503599627370496 from rfl]; omega]
        exact t)
      obtain ⟨c', q', s1, s2, s3, s4, s5⟩ := settle_nm (q := q - r - 52) m1 m2 (by omega) (by omega)
      refine ⟨c', q', er.trans s1, s2, by omega, ?_⟩
      rcases hle with hle | ⟨hle, hcd⟩
      · omega
      · have hcd2 : c = d := by omega
        have hm : FP.Core.nearest (c * 2 ^ 52) d = 4503599627370496 := by
          rw [hcd2, Nat.mul_comm]
          exact near_mul _ hd0
        have := s5 (by rw [hm]; decide)
        omega
    · have hqm : FP.Core.quantum FP.Core.b64 c d (q - r) = q - r - 53 := by
        unfold FP.Core.quantum
        rw [lead_cd c1 c2 d1 d2, if_neg hdc, f_qn, f_p]
        omega
      have er : FP.Core.roundRatio FP.Core.b64 false c d (q - r) = FP.Core.settle FP.Core.b64 false (FP.Core.nearest (c * 2 ^ 53) d) (q - r - 53) := by
        unfold FP.Core.roundRatio
        rw [if_neg hc0, hqm]
        unfold FP.Core.roundAt FP.Core.unitsNum FP.Core.unitsDen
        rw [show (q - r - (q - r - 53)).toNat = 53 by omega, show (q - r - 53 - (q - r)).toNat = 0 by omega, Nat.pow_zero, Nat.mul_one]
      have m1 : 4503599627370496 ≤ FP.Core.nearest (c * 2 ^ 53) d := near_ge hd0 (by
        rw [show c * 2 ^ 53 = 2 * c * 4503599627370496 by rw [show (2 : Nat) ^ 53 = 9007199254740992 from rfl]; omega, Nat.mul_comm]
        exact Nat.mul_le_mul_right _ (by omega))
      have m2 : FP.Core.nearest (c * 2 ^ 53) d ≤ 9007199254740992 := near_le hd0 (by
        rw [Nat.mul_comm]
        exact Nat.mul_le_mul_left _ (by omega))
      obtain ⟨c', q', s1, s2, s3, s4, s5⟩ := settle_nm (q := q - r - 53) m1 m2 (by omega) (by omega)
      exact ⟨c', q', er.trans s1, s2, by omega, by omega⟩
  obtain ⟨c', q', k1, k2, k3, k4⟩ := key
  exact ⟨c', q', by rw [e0, k1, enc_wd k2]; rfl, k2, k3, k4⟩
/-- whole numbers as doubles -/
theorem i2dU {k : Nat} (h0 : 0 < k) (hk : k < 262144) : FP.i2d (nI k) = U (k * 2 ^ (52 - k.log2)) ((k.log2 : Int) - 52) ∧ nm (k * 2 ^ (52 - k.log2)) ((k.log2 : Int) - 52) ∧ k.log2 ≤ 17 := by
  have a1 : 2 ^ k.log2 ≤ k := Nat.log2_self_le (by omega)
  have a2 : k < 2 ^ (k.log2 + 1) := Nat.lt_log2_self
  have hl : k.log2 ≤ 17 := by
    by_cases hh : k.log2 ≤ 17
    · exact hh
    · have := Nat.pow_le_pow_right (n := 2) (by decide) (show 18 ≤ k.log2 by omega)
      omega
  have hb1 : 4503599627370496 ≤ k * 2 ^ (52 - k.log2) := by
    have := Nat.mul_le_mul_right (2 ^ (52 - k.log2)) a1
    rw [← Nat.pow_add, show k.log2 + (52 - k.log2) = 52 by omega] at this
    exact this
  have hb2 : k * 2 ^ (52 - k.log2) < 9007199254740992 := by
    have := Nat.mul_lt_mul_of_pos_right a2 (Nat.two_pow_pos (52 - k.log2))
    rw [← Nat.pow_add, show k.log2 + 1 + (52 - k.log2) = 53 by omega] at this
    exact this
  have hn : nm (k * 2 ^ (52 - k.log2)) ((k.log2 : Int) - 52) := ⟨hb1, hb2, by omega, by omega⟩
  refine ⟨?_, hn, hl⟩
  show UInt64.ofNat (FP.Core.encode FP.Core.b64 (FP.Core.round FP.Core.b64 (FP.Core.ofInt (nI k).toInt))) = _
  rw [nI_toInt (by omega)]
  have e : FP.Core.ofInt (k : Int) = .fin false k 0 := by
    unfold FP.Core.ofInt
    rw [decide_eq_false (by omega), Int.natAbs_natCast]
  rw [e]
  show UInt64.ofNat (FP.Core.encode FP.Core.b64 (FP.Core.roundRatio FP.Core.b64 false k 1 0)) = _
  rw [rr_down (k := 52 - k.log2) hn (by omega), enc_wd hn]
  rfl
theorem i2d_0 : FP.i2d (0 : Int32) = 0 := by decide +kernel
theorem cmp_ord (x y : UInt64) : FP.dcmp x y = FP.Core.order (FP.Core.decode FP.Core.b64 x.toNat) (FP.Core.decode FP.Core.b64 y.toNat) := rfl
theorem cI_lt {a b : Int} (h : a < b) : compare a b = .lt := by
  show (if a < b then Ordering.lt else if a = b then Ordering.eq else Ordering.gt) = _
  rw [if_pos h]
theorem cI_eq (a : Int) : compare a a = .eq := by
  show (if a < a then Ordering.lt else if a = a then Ordering.eq else Ordering.gt) = _
  rw [if_neg (by omega), if_pos rfl]
theorem cI_gt {a b : Int} (h : b < a) : compare a b = .gt := by
  show (if a < b then Ordering.lt else if a = b then Ordering.eq else Ordering.gt) = _
  rw [if_neg (by omega), if_neg (by omega)]
theorem cmpU {c d : Nat} {q r : Int} (h : nm c q) (h' : nm d r) : FP.dcmp (U c q) (U d r) = some (compare ((c * 2 ^ (q - min q r).toNat : Nat) : Int) ((d * 2 ^ (r - min q r).toNat : Nat) : Int)) := by
  rw [cmp_ord, U_nat h, U_nat h', dec_wd h, dec_wd h']
  rfl
/-- is it below one? -/
theorem cmp_one {c : Nat} {q : Int} (h : nm c q) (hq : q ≤ -52) : (0 ≤ (Op.cmpValue (FP.dcmp (U c q) (U 4503599627370496 (-52))) .g)) ↔ q = -52 := by
  have h1 := h
  obtain ⟨c1, c2, c3, c4⟩ := h1
  rw [cmpU h (nmT (by decide) (by decide))]
  by_cases e : q = -52
  · subst e
    refine ⟨fun _ => rfl, fun _ => ?_⟩
    rw [show ((-52 : Int) - min (-52) (-52)).toNat = 0 by decide, Nat.pow_zero, Nat.mul_one, Nat.mul_one]
    by_cases hc : c = 4503599627370496
    · rw [hc, cI_eq]
      decide
    · rw [cI_gt (by omega)]
      decide
  · refine ⟨fun hh => ?_, fun hh => absurd hh e⟩
    exfalso
    rw [show min q (-52) = q by omega, show (q - q).toNat = 0 by omega, Nat.pow_zero, Nat.mul_one] at hh
    have hp : 2 ≤ 2 ^ ((-52 : Int) - q).toNat := by
      have := Nat.pow_le_pow_right (n := 2) (by decide) (show 1 ≤ ((-52 : Int) - q).toNat by omega)
      exact this
    have hp2 := Nat.mul_le_mul_left 4503599627370496 hp
    rw [cI_lt (by omega)] at hh
    exact absurd hh (by decide)
theorem dec_0 : FP.Core.decode FP.Core.b64 (0 : UInt64).toNat = .fin false 0 (-1074) := by decide +kernel
theorem cmp_zero {c : Nat} {q : Int} (h : nm c q) : 0 < (Op.cmpValue (FP.dcmp (U c q) (0 : UInt64)) .g) := by
  obtain ⟨c1, c2, c3, c4⟩ := h
  rw [cmp_ord, U_nat ⟨c1, c2, c3, c4⟩, dec_wd ⟨c1, c2, c3, c4⟩, dec_0]
  show 0 < (Op.cmpValue (some (compare ((c * 2 ^ (q - min q (-1074)).toNat : Nat) : Int) ((0 * 2 ^ (-1074 - min q (-1074)).toNat : Nat) : Int))) .g)
  have hp : 0 < c * 2 ^ (q - min q (-1074)).toNat := Nat.mul_pos (by omega) (Nat.two_pow_pos _)
  rw [Nat.zero_mul, cI_gt (by omega)]
  decide
theorem cmp_self {c : Nat} {q : Int} (h : nm c q) : (Op.cmpValue (FP.dcmp (U c q) (U c q)) .l) = 0 := by
  rw [cmpU h h, cI_eq]
  rfl
theorem cmp_00 : (Op.cmpValue (FP.dcmp (0 : UInt64) (0 : UInt64)) .l) = 0 := by decide +kernel
theorem cmp_00g : ¬ 0 < (Op.cmpValue (FP.dcmp (0 : UInt64) (0 : UInt64)) .g) := by decide +kernel
theorem ln_bv (n : Nat) : (lN n).toBitVec.toNat = n % 2 ^ 64 := rfl
theorem shl52 {a : Nat} (ha : a < 2048) : lN a <<< ((Int32.toInt64 (52 : Int32)) &&& 63) = lN (a * 4503599627370496) := by
  apply Int64.toBitVec_inj.mp
  apply BitVec.eq_of_toNat_eq
  have hy : (((Int32.toInt64 (52 : Int32)) &&& 63).toBitVec.smod 64).toNat = 52 := by decide
  have hp : (2 : Nat) ^ 52 = 4503599627370496 := by decide
  rw [Int64.toBitVec_shiftLeft, BitVec.shiftLeft_eq', BitVec.toNat_shiftLeft, hy, ln_bv, ln_bv, Nat.shiftLeft_eq, hp, Nat.mod_eq_of_lt (show a < 2 ^ 64 by omega)]
theorem long_n (n : Nat) : UInt64.toInt64 (UInt64.ofNat n) = lN n := rfl
theorem long_U {c : Nat} {q : Int} (h : nm c q) : UInt64.toInt64 (U c q) = lN (wd c q) := long_n _
theorem long_i (n : Nat) : Int64.ofInt (n : Int) = lN n := rfl
/-- the bits of a share -/
theorem a_bits (h : MH) {c : Nat} (h1 : 4503599627370496 ≤ c) (h2 : c < 9007199254740992) {E : Nat} (hE : E < 2048) : ∀ (m k fuel : Nat) (q : Int), (q : Int) = -52 - (m : Int) → m ≤ 200 → k + m ≤ 1000 → m < fuel → f_X3_bitsOfShare_18 h fuel (U c q) (lN (E + m)) (nI k) = some (lN (E * 4503599627370496 + (c - 4503599627370496))) := by
  intro m
  induction m with
  | zero =>
    intro k fuel q hq hm hk hf
    obtain ⟨fuel, rfl⟩ : ∃ f, fuel = f + 1 := ⟨fuel - 1, by omega⟩
    obtain rfl : q = -52 := by omega
    obtain ⟨v1, v2, b1, b2, b3⟩ := frac h1 h2
    show b_X3_bitsOfShare_18 _ _ _ _ _ = _
    unfold b_X3_bitsOfShare_18 b_X3_bitsOfShare_50
    rw [if_neg (by rw [show (1022 : Int32) = nI 1022 from rfl, nI_leI (by decide) (by omega)]; omega), f_one, if_pos ((cmp_one ⟨h1, h2, by decide, by decide⟩ (by decide)).mpr rfl), b1, obs, f_big, b2, obs, obs, b3, Nat.add_zero, shl52 hE, long_i, lN_add]
  | succ m ih =>
    intro k fuel q hq hm hk hf
    obtain ⟨fuel, rfl⟩ : ∃ f, fuel = f + 1 := ⟨fuel - 1, by omega⟩
    have hn : nm c q := ⟨h1, h2, by omega, by omega⟩
    have hn' : nm c (q + -51 + 52) := ⟨h1, h2, by omega, by omega⟩
    have em : fdmul (U c q) (U 4503599627370496 (-51)) = some (U c (q + -51 + 52)) := by
      unfold fdmul
      rw [mulR hn (by decide) (by decide) hn', if_pos (U_ok hn')]
    show b_X3_bitsOfShare_18 _ _ _ _ _ = _
    unfold b_X3_bitsOfShare_18
    rw [if_neg (by rw [show (1022 : Int32) = nI 1022 from rfl, nI_leI (by decide) (by omega)]; omega), f_one, if_neg (fun hh => by have := (cmp_one hn (by omega)).mp hh; omega), f_two, em, obs, obs, nI_1, show (1 : Int64) = lN 1 from rfl, lN_sub (by omega), show E + (m + 1) - 1 = E + m by omega]
    exact ih (k + 1) fuel (q + -51 + 52) (by omega) (by omega) (by omega) (by omega)
theorem bits_U (h : MH) {c : Nat} {q : Int} (hn : nm c q) (hq1 : -200 ≤ q) (hq2 : q ≤ -52) : f_X3_bitsOfShare h (U c q) = some (UInt64.toInt64 (U c q)) := by
  have hn' := hn
  obtain ⟨h1, h2, h3, h4⟩ := hn'
  unfold f_X3_bitsOfShare
  rw [if_pos (cmp_zero hn)]
  have t := a_bits h h1 h2 (E := (q + 1075).toNat) (by omega) (-52 - q).toNat 0 FU q (by omega) (by omega) (by omega) (by rw [FU_eq]; omega)
  rw [show (q + 1075).toNat + (-52 - q).toNat = 1023 by omega] at t
  rw [long_U hn]
  exact t
theorem bits_0 (h : MH) : f_X3_bitsOfShare h 0 = some (UInt64.toInt64 0) := by
  unfold f_X3_bitsOfShare
  rw [if_neg cmp_00g]
  rfl
/-- a share: both ways to compute it, its bits -/
theorem share (g a : Nat) (ha : 0 < a) (hga : g ≤ a) (ha2 : a < 262144) : ∃ x : UInt64, fddiv (FP.i2d (nI g)) (FP.i2d (nI a)) = some x ∧ (∃ y, fdmul (4607182418800017408 : UInt64) (FP.i2d (nI g)) = some y ∧ fddiv y (FP.i2d (nI a)) = some x) ∧ (Op.cmpValue (FP.dcmp x x) .l) = 0 ∧ ∀ h : MH, f_X3_bitsOfShare h x = some (UInt64.toInt64 x) := by
  obtain ⟨a1, a2, a3⟩ := i2dU ha ha2
  by_cases hg : g = 0
  · subst hg
    have e0 : FP.i2d (nI 0) = 0 := i2d_0
    have hdiv : FP.ddiv (0 : UInt64) (FP.i2d (nI a)) = 0 := by
      rw [a1]
      show UInt64.ofNat (FP.Core.div FP.Core.b64 (0 : UInt64).toNat (U _ _).toNat) = _
      unfold FP.Core.div
      rw [U_nat a2, dec_wd a2, dec_0]
      obtain ⟨a21, a22, a23, a24⟩ := a2
      show UInt64.ofNat (FP.Core.encode FP.Core.b64 (if a * 2 ^ (52 - a.log2) = 0 then (if (0 : Nat) = 0 then .nan else .inf (false != false)) else FP.Core.roundRatio FP.Core.b64 (false != false) 0 (a * 2 ^ (52 - a.log2)) (-1074 - ((a.log2 : Int) - 52)))) = _
      rw [if_neg (by omega)]
      unfold FP.Core.roundRatio
      rw [if_pos rfl]
      show UInt64.ofNat (FP.Core.encode FP.Core.b64 (.fin false 0 FP.Core.b64.qmin)) = _
      rw [enc_0]
      rfl
    have hf : fddiv (0 : UInt64) (FP.i2d (nI a)) = some 0 := by
      unfold fddiv
      rw [hdiv, if_pos (by decide)]
    have hm : fdmul (4607182418800017408 : UInt64) 0 = some 0 := by
      unfold fdmul
      have e : FP.dmul (4607182418800017408 : UInt64) 0 = 0 := by decide +kernel
      rw [e, if_pos (by decide)]
    rw [e0]
    exact ⟨0, hf, ⟨0, hm, hf⟩, cmp_00, bits_0⟩
  · obtain ⟨g1, g2, g3⟩ := i2dU (k := g) (by omega) (by omega)
    have hll : g.log2 ≤ a.log2 := by
      by_cases hh : g.log2 ≤ a.log2
      · exact hh
      · have b1 : 2 ^ g.log2 ≤ g := Nat.log2_self_le hg
        have b2 : a < 2 ^ (a.log2 + 1) := Nat.lt_log2_self
        have := Nat.pow_le_pow_right (n := 2) (by decide) (show a.log2 + 1 ≤ g.log2 by omega)
        omega
    have hle : (g.log2 : Int) - 52 < (a.log2 : Int) - 52 ∨ ((g.log2 : Int) - 52 = (a.log2 : Int) - 52 ∧ g * 2 ^ (52 - g.log2) ≤ a * 2 ^ (52 - a.log2)) := by
      by_cases hh : g.log2 < a.log2
      · exact Or.inl (by omega)
      · have he : g.log2 = a.log2 := by omega
        exact Or.inr ⟨by omega, by rw [he]; exact Nat.mul_le_mul_right _ hga⟩
    obtain ⟨c', q', d1, d2, d3, d4⟩ := divU g2 a2 hle (by omega)
    have hf : fddiv (U (g * 2 ^ (52 - g.log2)) ((g.log2 : Int) - 52)) (U (a * 2 ^ (52 - a.log2)) ((a.log2 : Int) - 52)) = some (U c' q') := by
      unfold fddiv
      rw [d1, if_pos (U_ok d2)]
    have hn2 : nm (g * 2 ^ (52 - g.log2)) (-52 + ((g.log2 : Int) - 52) + 52) := by
      obtain ⟨n1, n2, n3, n4⟩ := g2
      exact ⟨n1, n2, by omega, by omega⟩
    have hm : fdmul (4607182418800017408 : UInt64) (U (g * 2 ^ (52 - g.log2)) ((g.log2 : Int) - 52)) = some (U (g * 2 ^ (52 - g.log2)) ((g.log2 : Int) - 52)) := by
      have t := mulL (r := -52) g2 (by decide) (by decide) hn2
      rw [show -52 + ((g.log2 : Int) - 52) + 52 = (g.log2 : Int) - 52 by omega] at t
      unfold fdmul
      rw [f_one, t, if_pos (U_ok g2)]
    rw [g1, a1]
    exact ⟨U c' q', hf, ⟨_, hm, hf⟩, cmp_self d2, fun h => bits_U h d2 d3 d4⟩
