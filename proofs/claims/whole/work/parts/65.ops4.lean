/-! commands: set a property -/
theorem rA_nI {n p : Nat} {f : Nat → Int32} (hp : p < n) (hn : n < 2 ^ 31) : rA n f (nI p) = some (f p) := by
  unfold rA
  rw [nI_clamp (by omega), if_neg]
  simp only [nI_pos (show p < 2 ^ 31 by omega), false_or]
  omega
theorem c_range (h : MH) {p : Nat} (hp : p < 7) (x : Int32) : f_X3_isInRange h (nI p) x = some (if x < roL p ∨ roM p < x then 0 else 1) := by
  simp only [f_X3_isInRange, b_X3_isInRange_22, b_X3_isInRange_23, rA_nI hp (by decide), Option.bind_some, i11, i01]
  by_cases h1 : x < roL p
  · simp only [h1, if_true, true_or]
  · by_cases h2 : roM p < x <;> simp only [h1, h2, if_true, if_false, or_true, or_self]
theorem z_value (h : MH) {p : Nat} (hp : p < 7) (x : Int32) : f_X4_isValue h (nI p) x = some (if x < roL p ∨ roM p < x then 0 else 1) := by
  have e : ∀ c : Prop, ∀ [Decidable c], some ((if c then (0 : Int32) else 1) &&& 1) = some (if c then 0 else 1) := by
    intro c _
    split <;> rfl
  match p, hp with
  | 0, _ =>
    show f_X4_isValue h (0 : Int32) x = _
    simp only [f_X4_isValue, z_within, if_true, Option.bind_some, e]
    rfl
  | 1, _ =>
    show f_X4_isValue h (1 : Int32) x = _
    simp only [f_X4_isValue, z_within, if_true, if_false, nl0_1, nl0_2, nl0_3, nl0_4, nl0_5, nl0_6, nl0_m1, nl1_0, nl1_2, nl1_3, nl1_4, nl1_5, nl1_6, nl1_m1, nl2_0, nl2_1, nl2_3, nl2_4, nl2_5, nl2_6, nl2_m1, nl3_0, nl3_1, nl3_2, nl3_4, nl3_5, nl3_6, nl3_m1, nl4_0, nl4_1, nl4_2, nl4_3, nl4_5, nl4_6, nl4_m1, nl5_0, nl5_1, nl5_2, nl5_3, nl5_4, nl5_6, nl5_m1, nl6_0, nl6_1, nl6_2, nl6_3, nl6_4, nl6_5, nl6_m1, nlm1_0, nlm1_1, nlm1_2, nlm1_3, nlm1_4, nlm1_5, nlm1_6, Option.bind_some, e]
    rfl
  | 2, _ =>
    show f_X4_isValue h (2 : Int32) x = _
    simp only [f_X4_isValue, z_within, if_true, if_false, nl0_1, nl0_2, nl0_3, nl0_4, nl0_5, nl0_6, nl0_m1, nl1_0, nl1_2, nl1_3, nl1_4, nl1_5, nl1_6, nl1_m1, nl2_0, nl2_1, nl2_3, nl2_4, nl2_5, nl2_6, nl2_m1, nl3_0, nl3_1, nl3_2, nl3_4, nl3_5, nl3_6, nl3_m1, nl4_0, nl4_1, nl4_2, nl4_3, nl4_5, nl4_6, nl4_m1, nl5_0, nl5_1, nl5_2, nl5_3, nl5_4, nl5_6, nl5_m1, nl6_0, nl6_1, nl6_2, nl6_3, nl6_4, nl6_5, nl6_m1, nlm1_0, nlm1_1, nlm1_2, nlm1_3, nlm1_4, nlm1_5, nlm1_6, Option.bind_some, e]
    rfl
  | 3, _ =>
    show f_X4_isValue h (3 : Int32) x = _
    simp only [f_X4_isValue, z_within, if_true, if_false, nl0_1, nl0_2, nl0_3, nl0_4, nl0_5, nl0_6, nl0_m1, nl1_0, nl1_2, nl1_3, nl1_4, nl1_5, nl1_6, nl1_m1, nl2_0, nl2_1, nl2_3, nl2_4, nl2_5, nl2_6, nl2_m1, nl3_0, nl3_1, nl3_2, nl3_4, nl3_5, nl3_6, nl3_m1, nl4_0, nl4_1, nl4_2, nl4_3, nl4_5, nl4_6, nl4_m1, nl5_0, nl5_1, nl5_2, nl5_3, nl5_4, nl5_6, nl5_m1, nl6_0, nl6_1, nl6_2, nl6_3, nl6_4, nl6_5, nl6_m1, nlm1_0, nlm1_1, nlm1_2, nlm1_3, nlm1_4, nlm1_5, nlm1_6, Option.bind_some, e]
    rfl
  | 4, _ =>
    show f_X4_isValue h (4 : Int32) x = _
    simp only [f_X4_isValue, z_within, if_true, if_false, nl0_1, nl0_2, nl0_3, nl0_4, nl0_5, nl0_6, nl0_m1, nl1_0, nl1_2, nl1_3, nl1_4, nl1_5, nl1_6, nl1_m1, nl2_0, nl2_1, nl2_3, nl2_4, nl2_5, nl2_6, nl2_m1, nl3_0, nl3_1, nl3_2, nl3_4, nl3_5, nl3_6, nl3_m1, nl4_0, nl4_1, nl4_2, nl4_3, nl4_5, nl4_6, nl4_m1, nl5_0, nl5_1, nl5_2, nl5_3, nl5_4, nl5_6, nl5_m1, nl6_0, nl6_1, nl6_2, nl6_3, nl6_4, nl6_5, nl6_m1, nlm1_0, nlm1_1, nlm1_2, nlm1_3, nlm1_4, nlm1_5, nlm1_6, Option.bind_some, e]
    rfl
  | 5, _ =>
    show f_X4_isValue h (5 : Int32) x = _
    simp only [f_X4_isValue, z_within, if_true, if_false, nl0_1, nl0_2, nl0_3, nl0_4, nl0_5, nl0_6, nl0_m1, nl1_0, nl1_2, nl1_3, nl1_4, nl1_5, nl1_6, nl1_m1, nl2_0, nl2_1, nl2_3, nl2_4, nl2_5, nl2_6, nl2_m1, nl3_0, nl3_1, nl3_2, nl3_4, nl3_5, nl3_6, nl3_m1, nl4_0, nl4_1, nl4_2, nl4_3, nl4_5, nl4_6, nl4_m1, nl5_0, nl5_1, nl5_2, nl5_3, nl5_4, nl5_6, nl5_m1, nl6_0, nl6_1, nl6_2, nl6_3, nl6_4, nl6_5, nl6_m1, nlm1_0, nlm1_1, nlm1_2, nlm1_3, nlm1_4, nlm1_5, nlm1_6, Option.bind_some, e]
    rfl
  | 6, _ =>
    show f_X4_isValue h (6 : Int32) x = _
    simp only [f_X4_isValue, z_within, if_false, nl0_1, nl0_2, nl0_3, nl0_4, nl0_5, nl0_6, nl0_m1, nl1_0, nl1_2, nl1_3, nl1_4, nl1_5, nl1_6, nl1_m1, nl2_0, nl2_1, nl2_3, nl2_4, nl2_5, nl2_6, nl2_m1, nl3_0, nl3_1, nl3_2, nl3_4, nl3_5, nl3_6, nl3_m1, nl4_0, nl4_1, nl4_2, nl4_3, nl4_5, nl4_6, nl4_m1, nl5_0, nl5_1, nl5_2, nl5_3, nl5_4, nl5_6, nl5_m1, nl6_0, nl6_1, nl6_2, nl6_3, nl6_4, nl6_5, nl6_m1, nlm1_0, nlm1_1, nlm1_2, nlm1_3, nlm1_4, nlm1_5, nlm1_6, Option.bind_some, e]
    rfl
theorem rw_p (P : PV) (r : Nat) {p : Nat} (hp : p < 7) (x : Int32) : rowP (wA P 4 (r * 7 + p) x) = setRow (rowP P) r (upd (rowP P r) p x) := by
  match p, hp with
  | 0, _ => exact rw_0 P r x
  | 1, _ => exact rw_1 P r x
  | 2, _ => exact rw_2 P r x
  | 3, _ => exact rw_3 P r x
  | 4, _ => exact rw_4 P r x
  | 5, _ => exact rw_5 P r x
  | 6, _ => exact rw_6 P r x
theorem rd_p (P : PV) (r : Nat) {p : Nat} (hp : p < 7) : rowP P r p = P.2 4 (r * 7 + p) := by
  match p, hp with
  | 0, _ => rfl
  | 1, _ => rfl
  | 2, _ => rfl
  | 3, _ => rfl
  | 4, _ => rfl
  | 5, _ => rfl
  | 6, _ => rfl
theorem RowOK_p {q p : Nat} {row : Nat → Int32} (h : RowOK q row) (hp : p < 7) {x : Int32} (hx : ¬ (x < roL p ∨ roM p < x)) : RowOK q (upd row p x) := by
  obtain ⟨a0, a1, a2, a3, a7, a9, a10, a12, a15⟩ := h
  have h1 : ¬ x < roL p := fun hh => hx (Or.inl hh)
  have h2 : ¬ roM p < x := fun hh => hx (Or.inr hh)
  rw [Int32.lt_iff_toInt_lt] at h1 h2
  match p, hp with
  | 0, _ => exact ⟨by change ¬ x.toInt < 100 at h1; change ¬ 5000 < x.toInt at h2; rw [upd_s]; omega, a1, a2, a3, a7, a9, a10, a12, a15⟩
  | 1, _ => exact ⟨a0, by change ¬ x.toInt < 1 at h1; change ¬ 1000 < x.toInt at h2; rw [upd_s]; omega, a2, a3, a7, a9, a10, a12, a15⟩
  | 2, _ => exact ⟨a0, a1, by change ¬ x.toInt < 1 at h1; change ¬ 1000 < x.toInt at h2; rw [upd_s]; omega, a3, a7, a9, a10, a12, a15⟩
  | 3, _ => exact ⟨a0, a1, a2, by change ¬ x.toInt < 50 at h1; change ¬ 100 < x.toInt at h2; rw [upd_s]; omega, a7, a9, a10, a12, a15⟩
  | 4, _ => exact ⟨a0, a1, a2, a3, a7, a9, a10, a12, a15⟩
  | 5, _ => exact ⟨a0, a1, a2, a3, a7, a9, a10, a12, a15⟩
  | 6, _ => exact ⟨a0, a1, a2, a3, a7, a9, a10, a12, a15⟩
variable {G : Nat → MC} {b : Nat} {T : TS}
theorem c_set {n s : Nat} (hn8 : n ≤ 8) (hs : s ≤ 6) (hS : T.1.1 3 = nI s) (hσ : σOK T.1.2.1) (hn : (T.1.2.2 0).1 0 = nI n) {r p : Nat} (hr : r < n) (hp : p < 7) (y : Int32) : f_X3_set (HT T) 0 (nI r) (nI p) y = if y < roL p ∨ roM p < y then some (.inl (0, HT T)) else some (.inr ((T.1.2.2 0).2 4 (r * 7 + p), HT (uP (svT T s) 0 (wA (T.1.2.2 0) 4 (r * 7 + p) y)))) := by
  have hp7 : nI p < 7 := by rw [show (7 : Int32) = nI 7 from rfl, nI_ltI (by omega) (by omega)]; exact hp
  simp only [f_X3_set, b_X3_set_18, t_v3, c_isRail hn, Option.bind_some, c_range _ hp]
  rw [if_neg (rail_not hn8 hr), if_neg n10, if_neg (by simp only [nI_pos (show p < 2 ^ 31 by omega), not_false_eq_true]), if_pos hp7]
  by_cases hy : y < roL p ∨ roM p < y
  · rw [if_pos hy, if_pos hy, if_pos rfl]
  · rw [if_neg hy, if_neg hy, if_neg n10]
    simp (disch := omega) only [t_save T hs hS hσ, Option.bind_some, t_v3, t_vm, t_R0, t_R1, t_R2, t_R4, t_R6, t_I3, t_I5, t_P3, t_P5, q_v1, q_v0, q_lI, q_lR, q_lP, q_I0, q_P0, q_I1, q_P1, q_I2, q_P2, q_I3, q_P3, q_R4, q_R5, q_R6, q_R7, q_R8, q_R9, q_R10, q_R11, q_R12, q_R13, q_R14, q_R15, q_R16, q_R17, q_a4, q_s4, q_a5, q_s5, q_a6, q_s6, q_a7, q_s7, q_a8, q_s8, q_a9, q_s9, q_a10, q_s10, q_a11, q_s11, q_a12, q_s12, q_a13, q_s13, q_a15, q_s15, q_a16, q_s16, q_a17, q_s17, q_a14, q_s14, uP_pl, f_X1_propertyOf, ix7, ix4, ix20, ix4l, ix68, ix4p, ixa0, ixa1, ixa2, ixa3, ixa4, ixa5, ixa6, ixa7, ixa8, ixa9, ixa10, ixa11, ixa12, ixa13, ixa14, ixa15, ixa16, ixa17, ixa18, ixa19, ixa20, nI_add, bd_nI, sv_pl T hσ, uP_uP]
theorem c_setX {n : Nat} (hn : (T.1.2.2 0).1 0 = nI n) (x k y : Int32) (h : (x < 0 ∨ nI n ≤ x) ∨ (k < 0 ∨ nI 7 ≤ k)) : f_X3_set (HT T) 0 x k y = some (.inl (2, HT T)) := by
  simp only [f_X3_set, b_X3_set_18, t_v3, c_isRail hn, Option.bind_some]
  by_cases hx : x < 0 ∨ nI n ≤ x
  · rw [if_pos hx, if_pos rfl]
  · rw [if_neg hx, if_neg n10]
    by_cases h0 : k < 0
    · rw [if_pos h0]
    · rw [if_neg h0, if_neg]
      intro h7
      rcases h with h | h | h
      · exact hx h
      · exact h0 h
      · rw [show nI 7 = (7 : Int32) from rfl, ← Int32.not_lt] at h
        exact h h7
theorem z_set48 (hb : b ≤ 134) {M : MV} (x k y c : Int32) : b_X4_set_48 (hm G b M) b x k y b c = if c ≤ 0 then (f_X4_replaced (hm G b (mS M 0 c)) b x k y).bind (fun p => some (p.1, p.2)) else some (0, hm G b (mS M 0 c)) := by
  simp only [b_X4_set_48, b_X4_set_69, m_P0 hb, m_I0 hb, m_v hb, Option.bind_some, mS_0]
theorem z_setX (hb : b ≤ 134) {n : Nat} {M : MV} (hn : M.2 1 0 = nI n) (hn8 : n ≤ 8) (x k y : Int32) (h : (x < 0 ∨ nI n ≤ x) ∨ (k < 0 ∨ nI 7 ≤ k)) : f_X4_set (hm G b M) b x k y = some (0, hm G b (mS M 0 1)) := by
  simp only [f_X4_set, b_X4_set_22, b_X4_set_23, m_v hb, z_isRail hb hn hn8, z_within, Option.bind_some, z_set48 hb, if_true]
  by_cases hx : x < 0 ∨ nI n ≤ x
  · rw [if_pos hx, if_pos rfl, if_neg (by decide)]
  · have hk : k < 0 ∨ 6 < k := by
      rcases h with h | h | h
      · exact absurd h hx
      · exact Or.inl h
      · refine Or.inr ?_
        rw [Int32.lt_iff_toInt_lt]
        rw [Int32.le_iff_toInt_le, nI_toInt (by omega)] at h
        have e6 : (6 : Int32).toInt = 6 := rfl
        omega
    rw [if_neg hx, if_neg n10, if_pos hk, if_pos rfl, if_neg (by decide)]
theorem z_set (hb : b ≤ 134) {s n : Nat} (hs : s ≤ 6) {M : MV} (h2 : M.1.1 2 = nI s) (hn : M.2 1 0 = nI n) (hn8 : n ≤ 8) {r p : Nat} (hr : r < n) (hp : p < 7) (y : Int32) : f_X4_set (hm G b M) b (nI r) (nI p) y = if y < roL p ∨ roM p < y then some (0, hm G b (mS M 0 2)) else some (M.2 1 (68 + 20 * r + p), hm G b (wZ (sM M s) (upd (M.2 1) (68 + 20 * r + p) y))) := by
  have hk : ¬ (nI p < 0 ∨ 6 < nI p) := by
    intro h
    rcases h with h | h
    · simp only [nI_pos (show p < 2 ^ 31 by omega)] at h
    · rw [show (6 : Int32) = nI 6 from rfl, nI_ltI (by omega) (by omega)] at h
      omega
  simp only [f_X4_set, b_X4_set_22, b_X4_set_23, m_v hb, z_isRail hb hn hn8, z_within, z_value _ hp, Option.bind_some, z_set48 hb, n10, if_false]
  rw [if_neg (rail_not hn8 hr), if_neg n10, if_neg hk, if_neg n10]
  by_cases hy : y < roL p ∨ roM p < y
  · rw [if_pos hy, if_pos hy, if_pos rfl, if_neg (by decide)]
  · rw [if_neg hy, if_neg hy, if_neg n10, if_pos (by decide), z_replaced hb hs h2 (by omega) (by omega)]
    rfl
theorem op_set {n s : Nat} (h : INV T n s) (x k y : Int32) : OKc T (f_L_set (HT T) 0 x k y 140) (fun h => vcall h 4 133 (f_X4_set h 133 x k y)) := by
  have h' := h
  obtain ⟨hs, hS, hM, hσ, hz, ha, hv, hbf⟩ := h'
  have hz' := hz
  obtain ⟨hn8, h0, z0, z1, z2, hrow, hw, hl, hwn, hok⟩ := hz'
  unfold f_L_set
  rw [t_v3]
  have bad : (x < 0 ∨ nI n ≤ x) ∨ (k < 0 ∨ nI 7 ≤ k) → OKc T ((f_X3_set (HT T) 0 x k y).bind (Sum.elim (fun q => if q.1 = 2 then (some ((1 : Int32), q.2)) else if q.1 = 0 then (some ((2 : Int32), q.2)) else none) (fun q => (sL q.2 140 (0 : Int32) (Int32.toInt64 q.1)).bind fun h2 => some ((0 : Int32), h2)))) (fun h => vcall h 4 133 (f_X4_set h 133 x k y)) := by
    intro hx
    rw [c_setX h0 x k y hx]
    refine OK_no h (c := 1) (by decide) rfl (fun G => ?_)
    exact z_setX (by decide) z0 hn8 x k y hx
  rcases rail_cases hn8 x with ⟨r, hr, rfl⟩ | hx
  · rcases rail_cases (n := 7) (by decide) k with ⟨p, hp, rfl⟩ | hk
    · rw [c_set hn8 hs hS hσ h0 hr hp]
      by_cases hy : y < roL p ∨ roM p < y
      · rw [if_pos hy]
        refine OK_no h (c := 2) (by decide) rfl (fun G => ?_)
        rw [z_set (by decide) hs hM z0 hn8 hr hp, if_pos hy]
      · rw [if_neg hy]
        refine OK_do h (m := n) (a := (T.1.2.2 0).2 4 (r * 7 + p)) (P' := wA (T.1.2.2 0) 4 (r * 7 + p) y) (M' := wZ (sM T.2.2.1 s) (upd (T.2.2.1.2 1) (68 + 20 * r + p) y)) ?_ (fun G => ?_) rfl (RZ_row hz hr (by omega) (by omega) (rw_p _ _ hp _) rfl rfl (RowOK_p (hok r hr) hp hy)) (AZ_row ha (by omega) (rw_p _ _ hp _) rfl) rfl rfl rfl rfl
        · simp only [Option.bind_some, Sum.elim_inr, t_sL]
          rfl
        · rw [z_set (by decide) hs hM z0 hn8 hr hp, if_neg hy]
          have e := congrFun (hrow r hr) p
          rw [rz_in (by omega), rd_p _ _ hp] at e
          rw [← e]
    · exact bad (Or.inr hk)
  · exact bad (Or.inl hx)
