/-! commands: short circuit, needs, set -/
theorem not_neg {y c : Int32} (h : ¬ (y < 0 ∨ c < y)) : 0 ≤ y.toInt := by
  have h1 : ¬ y < 0 := fun hh => h (Or.inl hh)
  rw [Int32.lt_iff_toInt_lt] at h1
  have e0 : (0 : Int32).toInt = 0 := rfl
  omega
variable {G : Nat → MC} {b : Nat} {T : TS}
theorem c_shortCircuit {n s : Nat} (hn8 : n ≤ 8) (hs : s ≤ 6) (hS : T.1.1 3 = nI s) (hσ : σOK T.1.2.1) (hn : (T.1.2.2 0).1 0 = nI n) (x y : Int32) : f_X3_shortCircuit (HT T) 0 x y = if x < 0 ∨ nI n ≤ x then some (.inl (2, HT T)) else if y < 0 ∨ 500 < y then some (.inl (0, HT T)) else bd 8 x (fun r => .inr ((T.1.2.2 0).2 9 r, HT (uP (svT T s) 0 (wA (T.1.2.2 0) 9 r y)))) := by
  simp only [f_X3_shortCircuit, b_X3_shortCircuit_29, t_v3, c_isRail hn, Option.bind_some]
  rcases rail_cases hn8 x with ⟨r, hr, rfl⟩ | hx
  · rw [if_neg (rail_not hn8 hr), if_neg (rail_not hn8 hr), if_neg n10]
    by_cases h0 : y < 0
    · simp only [h0, true_or, if_true]
    · by_cases h1 : y ≤ 500
      · have h2 : ¬ 500 < y := by rw [Int32.not_lt]; exact h1
        simp (disch := omega) only [h0, h1, h2, if_true, if_false, or_self, t_save T hs hS hσ, Option.bind_some, t_v3, t_vm, t_R0, t_R1, t_R2, t_R4, t_R6, t_I3, t_I5, t_P3, t_P5, q_v1, q_v0, q_lI, q_lR, q_lP, q_I0, q_P0, q_I1, q_P1, q_I2, q_P2, q_I3, q_P3, q_R4, q_R5, q_R6, q_R7, q_R8, q_R9, q_R10, q_R11, q_R12, q_R13, q_R14, q_R15, q_R16, q_R17, q_a4, q_s4, q_a5, q_s5, q_a6, q_s6, q_a7, q_s7, q_a8, q_s8, q_a9, q_s9, q_a10, q_s10, q_a11, q_s11, q_a12, q_s12, q_a13, q_s13, q_a15, q_s15, q_a16, q_s16, q_a17, q_s17, q_a14, q_s14, uP_pl, bd_nI, sv_pl T hσ, uP_uP]
      · have h2 : 500 < y := by rw [← Int32.not_le]; exact h1
        simp only [h0, h1, h2, if_true, if_false, or_true]
  · rw [if_pos hx, if_pos hx, if_pos rfl]
theorem z_shortCircuit (hb : b ≤ 134) {s n : Nat} (hs : s ≤ 6) {M : MV} (h2 : M.1.1 2 = nI s) (hn : M.2 1 0 = nI n) (hn8 : n ≤ 8) (x y : Int32) : f_X4_shortCircuit (hm G b M) b x y = if x < 0 ∨ nI n ≤ x then some (0, hm G b (mS M 0 1)) else if y < 0 ∨ 500 < y then some (0, hm G b (mS M 0 2)) else bd 8 x (fun r => (M.2 1 (68 + 20 * r + 12), hm G b (wZ (sM M s) (upd (M.2 1) (68 + 20 * r + 12) y)))) := by
  have e : ∀ c : Int32, b_X4_shortCircuit_29 (hm G b M) b x y b c = if c ≤ 0 then (f_X4_replaced (hm G b (mS M 0 c)) b x 12 y).bind (fun p => some (p.1, p.2)) else some (0, hm G b (mS M 0 c)) := by
    intro c
    simp only [b_X4_shortCircuit_29, b_X4_shortCircuit_51, m_P0 hb, m_I0 hb, m_v hb, Option.bind_some, mS_0]
  simp only [f_X4_shortCircuit, m_v hb, z_isRail hb hn hn8, z_within, Option.bind_some, e]
  rcases rail_cases hn8 x with ⟨r, hr, rfl⟩ | hx
  · rw [if_neg (rail_not hn8 hr), if_neg (rail_not hn8 hr), if_neg n10]
    by_cases hy : y < 0 ∨ 500 < y
    · simp only [hy, if_true]
      rw [if_neg (by decide)]
    · simp only [hy, if_false, n10]
      rw [if_pos (by decide), show (12 : Int32) = nI 12 from rfl, z_replaced hb hs h2 (by omega) (by decide), bd_nI (by omega) (by decide)]
      rfl
  · rw [if_pos hx, if_pos hx, if_pos rfl, if_neg (by decide)]
theorem op_shortCircuit {n s : Nat} (h : INV T n s) (x y : Int32) : OKc T (f_L_shortCircuit (HT T) 0 x y 140) (fun h => vcall h 4 133 (f_X4_shortCircuit h 133 x y)) := by
  have h' := h
  obtain ⟨hs, hS, hM, hσ, hz, ha, hv, hbf⟩ := h'
  have hz' := hz
  obtain ⟨hn8, h0, z0, z1, z2, hrow, hw, hl, hwn, hok⟩ := hz'
  unfold f_L_shortCircuit
  rw [t_v3, c_shortCircuit hn8 hs hS hσ h0]
  rcases rail_cases hn8 x with ⟨r, hr, rfl⟩ | hx
  · rw [if_neg (rail_not hn8 hr)]
    by_cases hy : y < 0 ∨ 500 < y
    · rw [if_pos hy]
      refine OK_no h (c := 2) (by decide) rfl (fun G => ?_)
      rw [z_shortCircuit (by decide) hs hM z0 hn8, if_neg (rail_not hn8 hr), if_pos hy]
    · rw [if_neg hy, bd_nI (by omega) (by decide)]
      refine OK_do h (m := n) (a := (T.1.2.2 0).2 9 r) (P' := wA (T.1.2.2 0) 9 r y) (M' := wZ (sM T.2.2.1 s) (upd (T.2.2.1.2 1) (68 + 20 * r + 12) y)) ?_ (fun G => ?_) rfl (RZ_row hz hr (by decide) (by decide) (rw_12 _ _ _) rfl rfl (RowOK_12 (hok r hr) (not_neg hy))) (AZ_row ha (by decide) (rw_12 _ _ _) rfl) rfl rfl rfl rfl
      · simp only [Option.bind_some, Sum.elim_inr, t_sL]
        rfl
      · rw [z_shortCircuit (by decide) hs hM z0 hn8, if_neg (rail_not hn8 hr), if_neg hy, bd_nI (by omega) (by decide)]
        have e := congrFun (hrow r hr) 12
        rw [rz_in (by decide)] at e
        rw [← e]
        rfl
  · rw [if_pos hx]
    refine OK_no h (c := 1) (by decide) rfl (fun G => ?_)
    rw [z_shortCircuit (by decide) hs hM z0 hn8, if_pos hx]
theorem RowOK_7 {q : Nat} {row : Nat → Int32} (h : RowOK q row) {x : Int32} (hx : x.toBitVec.toNat < 2 ^ q) : RowOK q (upd row 7 x) := by
  obtain ⟨a0, a1, a2, a3, a7, a9, a10, a12, a15⟩ := h
  exact ⟨a0, a1, a2, a3, hx, a9, a10, a12, a15⟩
theorem c_setNeeds {n s : Nat} (hn8 : n ≤ 8) (hs : s ≤ 6) (hS : T.1.1 3 = nI s) (hσ : σOK T.1.2.1) (hn : (T.1.2.2 0).1 0 = nI n) {r : Nat} (hr : r < n) (y : Int32) : f_X3_setNeeds (HT T) 0 (nI r) y = if ¬ y.toBitVec.toNat < 2 ^ r then some (.inl (0, HT T)) else if (T.1.2.2 0).2 6 r = 0 ∨ (T.1.2.2 0).2 6 r = 5 then some (.inr ((T.1.2.2 0).2 5 r, HT (uP (svT T s) 0 (wA (T.1.2.2 0) 5 r y)))) else some (.inl (1, HT T)) := by
  have hr8 : r < 8 := by omega
  have e71 : b_X3_setNeeds_71 (HT T) 0 (nI r) y = some (.inr ((T.1.2.2 0).2 5 r, HT (uP (svT T s) 0 (wA (T.1.2.2 0) 5 r y)))) := by
    simp (disch := omega) only [b_X3_setNeeds_71, t_save T hs hS hσ, Option.bind_some, t_v3, t_vm, t_R0, t_R1, t_R2, t_R4, t_R6, t_I3, t_I5, t_P3, t_P5, q_v1, q_v0, q_lI, q_lR, q_lP, q_I0, q_P0, q_I1, q_P1, q_I2, q_P2, q_I3, q_P3, q_R4, q_R5, q_R6, q_R7, q_R8, q_R9, q_R10, q_R11, q_R12, q_R13, q_R14, q_R15, q_R16, q_R17, q_a4, q_s4, q_a5, q_s5, q_a6, q_s6, q_a7, q_s7, q_a8, q_s8, q_a9, q_s9, q_a10, q_s10, q_a11, q_s11, q_a12, q_s12, q_a13, q_s13, q_a15, q_s15, q_a16, q_s16, q_a17, q_s17, q_a14, q_s14, uP_pl, bd_nI, sv_pl T hσ, uP_uP]
  simp (disch := omega) only [f_X3_setNeeds, t_v3, c_isRail hn, Option.bind_some, c_below _ _ (show r ≤ 8 by omega), ite01, e71, q_R6, q_a6, t_R0, bd_nI]
  rw [if_neg (rail_not hn8 hr), if_neg n10]
  by_cases hy : y.toBitVec.toNat < 2 ^ r
  · by_cases h0 : (T.1.2.2 0).2 6 r = 0
    · simp only [hy, h0, if_true, not_true_eq_false, if_false, true_or]
    · by_cases h5 : (T.1.2.2 0).2 6 r = 5 <;> simp only [hy, h0, h5, if_true, not_true_eq_false, if_false, or_true, or_self, nl0_1, nl0_2, nl0_3, nl0_4, nl0_5, nl0_6, nl0_m1, nl1_0, nl1_2, nl1_3, nl1_4, nl1_5, nl1_6, nl1_m1, nl2_0, nl2_1, nl2_3, nl2_4, nl2_5, nl2_6, nl2_m1, nl3_0, nl3_1, nl3_2, nl3_4, nl3_5, nl3_6, nl3_m1, nl4_0, nl4_1, nl4_2, nl4_3, nl4_5, nl4_6, nl4_m1, nl5_0, nl5_1, nl5_2, nl5_3, nl5_4, nl5_6, nl5_m1, nl6_0, nl6_1, nl6_2, nl6_3, nl6_4, nl6_5, nl6_m1, nlm1_0, nlm1_1, nlm1_2, nlm1_3, nlm1_4, nlm1_5, nlm1_6]
  · simp only [hy, if_false, not_false_eq_true, if_true]
theorem z_setNeeds (hb : b ≤ 134) {s n : Nat} (hs : s ≤ 6) {M : MV} (h2 : M.1.1 2 = nI s) (hn : M.2 1 0 = nI n) (hn8 : n ≤ 8) {r : Nat} (hr : r < n) (y : Int32) : f_X4_setNeeds (hm G b M) b (nI r) y = if ¬ y.toBitVec.toNat < 2 ^ r then some (0, hm G b (mS M 0 2)) else if rowZ (M.2 1) r 9 = 0 ∨ rowZ (M.2 1) r 9 = 5 then some (M.2 1 (68 + 20 * r + 7), hm G b (wZ (sM M s) (upd (M.2 1) (68 + 20 * r + 7) y))) else some (0, hm G b (mS M 0 3)) := by
  have hr8 : r < 8 := by omega
  have e : ∀ c : Int32, b_X4_setNeeds_65 (hm G b M) b (nI r) y b c = if c ≤ 0 then (f_X4_replaced (hm G b (mS M 0 c)) b (nI r) 7 y).bind (fun p => some (p.1, p.2)) else some (0, hm G b (mS M 0 c)) := by
    intro c
    simp only [b_X4_setNeeds_65, b_X4_setNeeds_87, m_P0 hb, m_I0 hb, m_v hb, Option.bind_some, mS_0]
  have e0 := z_replaced (G := G) hb hs h2 hr8 (show 7 < 20 by decide) y
  rw [show nI 7 = (7 : Int32) from rfl] at e0
  simp only [f_X4_setNeeds, b_X4_setNeeds_36, b_X4_setNeeds_41, m_v hb, z_isRail hb hn hn8, z_mask _ _ _ (show r ≤ 8 by omega), m_of9 hb hr8, Option.bind_some, e, ite01, n10, if_false, if_true]
  rw [if_neg (rail_not hn8 hr), if_neg n10]
  by_cases hy : y.toBitVec.toNat < 2 ^ r
  · have c0 : (0 : Int32) ≤ 0 := by decide
    have c3 : ¬ (3 : Int32) ≤ 0 := by decide
    by_cases h0 : rowZ (M.2 1) r 9 = 0
    · simp only [hy, h0, if_true, not_true_eq_false, if_false, true_or, c0, e0, Option.bind_some]
    · by_cases h5 : rowZ (M.2 1) r 9 = 5
      · simp only [hy, h5, if_true, not_true_eq_false, if_false, or_true, nl0_1, nl0_2, nl0_3, nl0_4, nl0_5, nl0_6, nl0_m1, nl1_0, nl1_2, nl1_3, nl1_4, nl1_5, nl1_6, nl1_m1, nl2_0, nl2_1, nl2_3, nl2_4, nl2_5, nl2_6, nl2_m1, nl3_0, nl3_1, nl3_2, nl3_4, nl3_5, nl3_6, nl3_m1, nl4_0, nl4_1, nl4_2, nl4_3, nl4_5, nl4_6, nl4_m1, nl5_0, nl5_1, nl5_2, nl5_3, nl5_4, nl5_6, nl5_m1, nl6_0, nl6_1, nl6_2, nl6_3, nl6_4, nl6_5, nl6_m1, nlm1_0, nlm1_1, nlm1_2, nlm1_3, nlm1_4, nlm1_5, nlm1_6, c0, e0, Option.bind_some]
      · simp only [hy, h0, h5, if_true, not_true_eq_false, if_false, or_self, c3]
  · have c2 : ¬ (2 : Int32) ≤ 0 := by decide
    by_cases h0 : rowZ (M.2 1) r 9 = 0
    · simp only [hy, h0, if_true, not_false_eq_true, if_false, c2]
    · by_cases h5 : rowZ (M.2 1) r 9 = 5 <;> simp only [hy, h0, h5, if_true, not_false_eq_true, if_false, c2, nl0_1, nl0_2, nl0_3, nl0_4, nl0_5, nl0_6, nl0_m1, nl1_0, nl1_2, nl1_3, nl1_4, nl1_5, nl1_6, nl1_m1, nl2_0, nl2_1, nl2_3, nl2_4, nl2_5, nl2_6, nl2_m1, nl3_0, nl3_1, nl3_2, nl3_4, nl3_5, nl3_6, nl3_m1, nl4_0, nl4_1, nl4_2, nl4_3, nl4_5, nl4_6, nl4_m1, nl5_0, nl5_1, nl5_2, nl5_3, nl5_4, nl5_6, nl5_m1, nl6_0, nl6_1, nl6_2, nl6_3, nl6_4, nl6_5, nl6_m1, nlm1_0, nlm1_1, nlm1_2, nlm1_3, nlm1_4, nlm1_5, nlm1_6]
theorem op_setNeeds {n s : Nat} (h : INV T n s) (x y : Int32) : OKc T (f_L_setNeeds (HT T) 0 x y 140) (fun h => vcall h 4 133 (f_X4_setNeeds h 133 x y)) := by
  have h' := h
  obtain ⟨hs, hS, hM, hσ, hz, ha, hv, hbf⟩ := h'
  have hz' := hz
  obtain ⟨hn8, h0, z0, z1, z2, hrow, hw, hl, hwn, hok⟩ := hz'
  unfold f_L_setNeeds
  rw [t_v3]
  rcases rail_cases hn8 x with ⟨r, hr, rfl⟩ | hx
  · rw [c_setNeeds hn8 hs hS hσ h0 hr]
    have e9 : rowZ (T.2.2.1.2 1) r 9 = (T.1.2.2 0).2 6 r := (congrFun (hrow r hr) 9).symm
    have e7 : T.2.2.1.2 1 (68 + 20 * r + 7) = (T.1.2.2 0).2 5 r := by
      have e := congrFun (hrow r hr) 7
      rw [rz_in (by decide)] at e
      exact e.symm
    by_cases hy : y.toBitVec.toNat < 2 ^ r
    · rw [if_neg (by simp [hy])]
      by_cases hc : (T.1.2.2 0).2 6 r = 0 ∨ (T.1.2.2 0).2 6 r = 5
      · rw [if_pos hc]
        refine OK_do h (m := n) (a := (T.1.2.2 0).2 5 r) (P' := wA (T.1.2.2 0) 5 r y) (M' := wZ (sM T.2.2.1 s) (upd (T.2.2.1.2 1) (68 + 20 * r + 7) y)) ?_ (fun G => ?_) rfl (RZ_row hz hr (by decide) (by decide) (rw_7 _ _ _) rfl rfl (RowOK_7 (hok r hr) hy)) (AZ_row ha (by decide) (rw_7 _ _ _) rfl) rfl rfl rfl rfl
        · simp only [Option.bind_some, Sum.elim_inr, t_sL]
          rfl
        · rw [z_setNeeds (by decide) hs hM z0 hn8 hr, if_neg (by simp [hy]), e9, if_pos hc, e7]
      · rw [if_neg hc]
        refine OK_no h (c := 3) (by decide) rfl (fun G => ?_)
        rw [z_setNeeds (by decide) hs hM z0 hn8 hr, if_neg (by simp [hy]), e9, if_neg hc]
    · rw [if_pos hy]
      refine OK_no h (c := 2) (by decide) rfl (fun G => ?_)
      rw [z_setNeeds (by decide) hs hM z0 hn8 hr, if_pos hy]
  · have e1 : f_X3_setNeeds (HT T) 0 x y = some (.inl (2, HT T)) := by
      simp only [f_X3_setNeeds, t_v3, c_isRail h0, Option.bind_some]
      rw [if_pos hx, if_pos rfl]
    rw [e1]
    refine OK_no h (c := 1) (by decide) rfl (fun G => ?_)
    simp only [f_X4_setNeeds, m_v (show 133 ≤ 134 by decide), z_isRail (show 133 ≤ 134 by decide) z0 hn8, Option.bind_some]
    rw [if_pos hx, if_pos rfl, m_P0 (by decide)]
    rfl
