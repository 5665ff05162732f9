/-! commands: set, short circuit, stick, needs -/
theorem bel_iff (x : Int32) {r : Nat} (hr : r ≤ 8) : (x &&& ((((1 : Int32) <<< (nI r &&& 31)) - (1 : Int32)) ^^^ (-1 : Int32))) = 0 ↔ x.toBitVec.toNat < 2 ^ r := by
  have hp : 2 ^ r ≤ 2 ^ 8 := Nat.pow_le_pow_right (by decide) hr
  have h1 : 1 ≤ 2 ^ r := Nat.one_le_two_pow
  have e : ((1 : Int32) <<< (nI r &&& 31)) - 1 = nI (2 ^ r - 1) := by
    rw [nI_bit (by omega)]
    exact pk_sub h1
  rw [e, ← Int32.toBitVec_inj]
  show (x.toBitVec &&& (BitVec.ofNat 32 (2 ^ r - 1) ^^^ BitVec.allOnes 32)) = 0#32 ↔ _
  have gb : ∀ i, i < 32 → (x.toBitVec &&& (BitVec.ofNat 32 (2 ^ r - 1) ^^^ BitVec.allOnes 32)).getLsbD i = (tb x i && !decide (i < r)) := by
    intro i hi
    rw [BitVec.getLsbD_and, BitVec.getLsbD_xor, BitVec.getLsbD_allOnes, BitVec.getLsbD_ofNat, Nat.testBit_two_pow_sub_one]
    show (tb x i && _) = _
    simp only [hi, decide_true, Bool.true_and]
    cases decide (i < r) <;> rfl
  constructor
  · intro h
    apply Nat.lt_pow_two_of_testBit
    intro i hi
    by_cases h32 : i < 32
    · have := gb i h32
      rw [h] at this
      have h0 : (0#32).getLsbD i = false := by simp
      rw [h0] at this
      have hd : decide (i < r) = false := decide_eq_false (by omega)
      rw [hd] at this
      show tb x i = false
      cases ht : tb x i
      · rfl
      · rw [ht] at this
        exact absurd this (by decide)
    · exact Nat.testBit_lt_two_pow (Nat.lt_of_lt_of_le x.toBitVec.isLt (Nat.pow_le_pow_right (by decide) (by omega)))
  · intro h
    apply BitVec.eq_of_getLsbD_eq
    intro i hi
    rw [gb i hi]
    have h0 : (0#32).getLsbD i = false := by simp
    rw [h0]
    by_cases hir : i < r
    · simp [hir]
    · have : tb x i = false := Nat.testBit_lt_two_pow (Nat.lt_of_lt_of_le h (Nat.pow_le_pow_right (by decide) (show r ≤ i by omega)))
      rw [this]
      rfl
theorem neg_big {x : Int32} (h : x < 0) : ¬ x.toBitVec.toNat < 2 ^ 31 := by
  intro hh
  rw [← nI_nat x] at h
  simp only [nI_pos hh] at h
theorem c_below (h : MH) (x : Int32) {r : Nat} (hr : r ≤ 8) : f_X3_areBelow h (nI r) x = some (if x.toBitVec.toNat < 2 ^ r then 1 else 0) := by
  unfold f_X3_areBelow b_X3_areBelow_17
  by_cases hx : x.toBitVec.toNat < 2 ^ r
  · rw [if_pos ((bel_iff x hr).2 hx), if_pos hx]
    rfl
  · rw [if_neg (fun hh => hx ((bel_iff x hr).1 hh)), if_neg hx]
    rfl
theorem z_mask (h : MH) (b : Nat) (x : Int32) {r : Nat} (hr : r ≤ 8) : f_X4_isMask h b x (nI r) = some (if x.toBitVec.toNat < 2 ^ r then 1 else 0) := by
  have hp : 2 ^ r ≤ 2 ^ 8 := Nat.pow_le_pow_right (by decide) hr
  unfold f_X4_isMask b_X4_isMask_15 b_X4_isMask_16
  rw [nI_bit (by omega)]
  by_cases h0 : x < 0
  · have := neg_big h0
    rw [if_pos h0, if_neg (by omega)]
    rfl
  · rw [if_neg h0]
    obtain ⟨j, hj, rfl⟩ := nI_of h0
    have ej : (nI j).toBitVec.toNat = j := pk_tn (by omega)
    rw [ej]
    by_cases hx : j < 2 ^ r
    · rw [if_neg (nI_ge hx (by omega)), if_pos hx]
      rfl
    · rw [if_pos (nI_le (by omega) hj), if_neg hx]
      rfl
/-- a rail's number, or none -/
theorem rail_cases {n : Nat} (hn : n ≤ 8) (x : Int32) : (∃ r, r < n ∧ x = nI r) ∨ (x < 0 ∨ nI n ≤ x) := by
  by_cases h0 : x < 0
  · exact Or.inr (Or.inl h0)
  · obtain ⟨j, hj, rfl⟩ := nI_of h0
    by_cases h : j < n
    · exact Or.inl ⟨j, h, rfl⟩
    · exact Or.inr (Or.inr (nI_le (by omega) hj))
theorem rail_not {n r : Nat} (hn : n ≤ 8) (hr : r < n) : ¬ (nI r < 0 ∨ nI n ≤ nI r) := by
  intro h
  rcases h with h | h
  · simp only [nI_pos (show r < 2 ^ 31 by omega)] at h
  · exact nI_ge hr (by omega) h
variable {G : Nat → MC} {b : Nat}
theorem z_isRail (hb : b ≤ 134) {M : MV} {n : Nat} (hn : M.2 1 0 = nI n) (hn8 : n ≤ 8) (x : Int32) : f_X4_isRail (hm G b M) b x = some (if x < 0 ∨ nI n ≤ x then 0 else 1) := by
  simp only [f_X4_isRail, Option.bind_some, b228_0, b228_1, b228_2, b228_3, m_v hb, m_R1 hb, m_R8 hb, m_a1 hb, m_a8 hb, wZ_1, wZ_z, wZ_8, wZ_wZ, hn, z_within]
  have e : nI n - 1 < x ↔ ¬ x < 0 ∧ nI n ≤ x ∨ (nI n - 1 < x ∧ x < 0) := by
    rw [Int32.lt_iff_toInt_lt, Int32.lt_iff_toInt_lt, Int32.le_iff_toInt_le, i_sub, nI_toInt (by omega)]
    · have e1 : (1 : Int32).toInt = 1 := rfl
      have e0 : (0 : Int32).toInt = 0 := rfl
      omega
    · rw [nI_toInt (by omega)]
      have e1 : (1 : Int32).toInt = 1 := rfl
      omega
    · rw [nI_toInt (by omega)]
      have e1 : (1 : Int32).toInt = 1 := rfl
      omega
  by_cases h0 : x < 0
  · simp only [h0, true_or, if_true]
    rfl
  · by_cases h1 : nI n ≤ x
    · have : nI n - 1 < x := e.2 (Or.inl ⟨h0, h1⟩)
      simp only [h1, this, or_true, if_true]
      rfl
    · have : ¬ nI n - 1 < x := fun hh => by
        rcases e.1 hh with h | h
        · exact h1 h.2
        · exact h0 h.2
      simp only [h0, h1, this, or_self, if_false]
      rfl
theorem m_ofG (hb : b ≤ 134) {M : MV} {r k : Nat} (hr : r < 8) (hk : k < 20) : f_X4_of (hm G b M) b (nI r) (nI k) = some (M.2 1 (68 + 20 * r + k)) := by
  simp (disch := omega) only [f_X4_of, m_R1 hb, m_a1 hb, ix7, ix4, ix20, ix4l, ix68, ix4p, ixa0, ixa1, ixa2, ixa3, ixa4, ixa5, ixa6, ixa7, ixa8, ixa9, ixa10, ixa11, ixa12, ixa13, ixa14, ixa15, ixa16, ixa17, ixa18, ixa19, ixa20, nI_add, bd_nI, Option.bind_some]
theorem m_layG (hb : b ≤ 134) {M : MV} {r k : Nat} (hr : r < 8) (hk : k < 20) (x : Int32) : f_X4_lay (hm G b M) b (nI r) (nI k) x = some (hm G b (wZ M (upd (M.2 1) (68 + 20 * r + k) x))) := by
  simp (disch := omega) only [f_X4_lay, m_R1 hb, m_s1 hb, ix7, ix4, ix20, ix4l, ix68, ix4p, ixa0, ixa1, ixa2, ixa3, ixa4, ixa5, ixa6, ixa7, ixa8, ixa9, ixa10, ixa11, ixa12, ixa13, ixa14, ixa15, ixa16, ixa17, ixa18, ixa19, ixa20, nI_add, bd_nI, Option.bind_some, mA_wZ]
theorem z_replaced (hb : b ≤ 134) {s : Nat} (hs : s ≤ 6) {M : MV} (h2 : M.1.1 2 = nI s) {r k : Nat} (hr : r < 8) (hk : k < 20) (x : Int32) : f_X4_replaced (hm G b (mS M 0 0)) b (nI r) (nI k) x = some (M.2 1 (68 + 20 * r + k), hm G b (wZ (sM M s) (upd (M.2 1) (68 + 20 * r + k) x))) := by
  simp only [f_X4_replaced, m_v hb, z_saveT hb hs h2, Option.bind_some, m_ofG hb hr hk, m_layG hb hr hk, sM_1]
variable {T : TS}
theorem c_isRail {n : Nat} (hn : (T.1.2.2 0).1 0 = nI n) (x : Int32) : f_X3_isRail (HT T) 0 x = some (if x < 0 ∨ nI n ≤ x then 0 else 1) := by
  simp only [f_X3_isRail, b_X3_isRail_19, b_X3_isRail_20, Option.bind_some, t_v3, t_vm, t_R0, t_R1, t_R2, t_R4, t_R6, t_I3, t_I5, t_P3, t_P5, q_v1, q_v0, q_lI, q_lR, q_lP, q_I0, q_P0, q_I1, q_P1, q_I2, q_P2, q_I3, q_P3, q_R4, q_R5, q_R6, q_R7, q_R8, q_R9, q_R10, q_R11, q_R12, q_R13, q_R14, q_R15, q_R16, q_R17, q_a4, q_s4, q_a5, q_s5, q_a6, q_s6, q_a7, q_s7, q_a8, q_s8, q_a9, q_s9, q_a10, q_s10, q_a11, q_s11, q_a12, q_s12, q_a13, q_s13, q_a15, q_s15, q_a16, q_s16, q_a17, q_s17, q_a14, q_s14, uP_pl, hn, i11, i01]
  by_cases h0 : x < 0
  · simp only [h0, true_or, if_true]
  · by_cases h1 : nI n ≤ x
    · simp only [h0, h1, or_true, if_true, if_false]
    · simp only [h0, h1, or_self, if_false]
theorem c_stick {n s : Nat} (hn8 : n ≤ 8) (hs : s ≤ 6) (hS : T.1.1 3 = nI s) (hσ : σOK T.1.2.1) (hn : (T.1.2.2 0).1 0 = nI n) (x y : Int32) : f_X3_stick (HT T) 0 x y = if x < 0 ∨ nI n ≤ x then some (.inl (2, HT T)) else if y < 0 ∨ 2 < y then some (.inl (0, HT T)) else bd 8 x (fun r => .inr ((T.1.2.2 0).2 8 r, HT (uP (svT T s) 0 (wA (T.1.2.2 0) 8 r y)))) := by
  simp only [f_X3_stick, b_X3_stick_27, t_v3, c_isRail hn, Option.bind_some]
  rcases rail_cases hn8 x with ⟨r, hr, rfl⟩ | hx
  · rw [if_neg (rail_not hn8 hr), if_neg (rail_not hn8 hr), if_neg n10]
    by_cases h0 : y < 0
    · simp only [h0, true_or, if_true]
    · by_cases h1 : y ≤ 2
      · have h2 : ¬ 2 < y := by rw [Int32.not_lt]; exact h1
        simp (disch := omega) only [h0, h1, h2, if_true, if_false, or_self, t_save T hs hS hσ, Option.bind_some, t_v3, t_vm, t_R0, t_R1, t_R2, t_R4, t_R6, t_I3, t_I5, t_P3, t_P5, q_v1, q_v0, q_lI, q_lR, q_lP, q_I0, q_P0, q_I1, q_P1, q_I2, q_P2, q_I3, q_P3, q_R4, q_R5, q_R6, q_R7, q_R8, q_R9, q_R10, q_R11, q_R12, q_R13, q_R14, q_R15, q_R16, q_R17, q_a4, q_s4, q_a5, q_s5, q_a6, q_s6, q_a7, q_s7, q_a8, q_s8, q_a9, q_s9, q_a10, q_s10, q_a11, q_s11, q_a12, q_s12, q_a13, q_s13, q_a15, q_s15, q_a16, q_s16, q_a17, q_s17, q_a14, q_s14, uP_pl, bd_nI, sv_pl T hσ, uP_uP]
      · have h2 : 2 < y := by rw [← Int32.not_le]; exact h1
        simp only [h0, h1, h2, if_true, if_false, or_true]
  · rw [if_pos hx, if_pos hx, if_pos rfl]
theorem z_stick (hb : b ≤ 134) {s n : Nat} (hs : s ≤ 6) {M : MV} (h2 : M.1.1 2 = nI s) (hn : M.2 1 0 = nI n) (hn8 : n ≤ 8) (x y : Int32) : f_X4_stick (hm G b M) b x y = if x < 0 ∨ nI n ≤ x then some (0, hm G b (mS M 0 1)) else if y < 0 ∨ 2 < y then some (0, hm G b (mS M 0 2)) else bd 8 x (fun r => (M.2 1 (68 + 20 * r + 11), hm G b (wZ (sM M s) (upd (M.2 1) (68 + 20 * r + 11) y)))) := by
  have e : ∀ c : Int32, b_X4_stick_27 (hm G b M) b x y b c = if c ≤ 0 then (f_X4_replaced (hm G b (mS M 0 c)) b x 11 y).bind (fun p => some (p.1, p.2)) else some (0, hm G b (mS M 0 c)) := by
    intro c
    simp only [b_X4_stick_27, b_X4_stick_49, m_P0 hb, m_I0 hb, m_v hb, Option.bind_some, mS_0]
  simp only [f_X4_stick, m_v hb, z_isRail hb hn hn8, z_within, Option.bind_some, e]
  rcases rail_cases hn8 x with ⟨r, hr, rfl⟩ | hx
  · rw [if_neg (rail_not hn8 hr), if_neg (rail_not hn8 hr), if_neg n10]
    by_cases hy : y < 0 ∨ 2 < y
    · simp only [hy, if_true]
      rw [if_neg (by decide)]
    · simp only [hy, if_false, n10]
      rw [if_pos (by decide), show (11 : Int32) = nI 11 from rfl, z_replaced hb hs h2 (by omega) (by decide), bd_nI (by omega) (by decide)]
      rfl
  · rw [if_pos hx, if_pos hx, if_pos rfl, if_neg (by decide)]
theorem RowOK_11 {q : Nat} {row : Nat → Int32} (h : RowOK q row) (x : Int32) : RowOK q (upd row 11 x) := RowOK_upd h x (by decide) (by decide) (by decide) (by decide) (by decide) (by decide) (by decide) (by decide) (by decide)
theorem op_stick {n s : Nat} (h : INV T n s) (x y : Int32) : OKc T (f_L_stick (HT T) 0 x y 140) (fun h => vcall h 4 133 (f_X4_stick h 133 x y)) := by
  have h' := h
  obtain ⟨hs, hS, hM, hσ, hz, ha, hv, hbf⟩ := h'
  have hz' := hz
  obtain ⟨hn8, h0, z0, z1, z2, hrow, hw, hl, hwn, hok⟩ := hz'
  unfold f_L_stick
  rw [t_v3, c_stick hn8 hs hS hσ h0]
  rcases rail_cases hn8 x with ⟨r, hr, rfl⟩ | hx
  · rw [if_neg (rail_not hn8 hr)]
    by_cases hy : y < 0 ∨ 2 < y
    · rw [if_pos hy]
      refine OK_no h (c := 2) (by decide) rfl (fun G => ?_)
      rw [z_stick (by decide) hs hM z0 hn8, if_neg (rail_not hn8 hr), if_pos hy]
    · rw [if_neg hy, bd_nI (by omega) (by decide)]
      refine OK_do h (m := n) (a := (T.1.2.2 0).2 8 r) (P' := wA (T.1.2.2 0) 8 r y) (M' := wZ (sM T.2.2.1 s) (upd (T.2.2.1.2 1) (68 + 20 * r + 11) y)) ?_ (fun G => ?_) rfl (RZ_row hz hr (by decide) (by decide) (rw_11 _ _ _) rfl rfl (RowOK_11 (hok r hr) y)) (AZ_row ha (by decide) (rw_11 _ _ _) rfl) rfl rfl rfl rfl
      · simp only [Option.bind_some, Sum.elim_inr, t_sL]
        rfl
      · rw [z_stick (by decide) hs hM z0 hn8, if_neg (rail_not hn8 hr), if_neg hy, bd_nI (by omega) (by decide)]
        have e := congrFun (hrow r hr) 11
        rw [rz_in (by decide)] at e
        rw [← e]
        rfl
  · rw [if_pos hx]
    refine OK_no h (c := 1) (by decide) rfl (fun G => ?_)
    rw [z_stick (by decide) hs hM z0 hn8, if_pos hx]
