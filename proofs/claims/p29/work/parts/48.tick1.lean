/-! the plant: become, the voltages' move, the tick's end -/
variable {G : GB} {b : Nat} {P : PV}
def becR (s : Int32) (row : Nat → Int32) : Nat → Int32 := if s = 2 then upd (upd row 9 s) 16 (row 16 + 1) else if s = 3 then upd (upd row 9 s) 17 (row 17 + 1) else upd row 9 s
theorem a_become (hb : b ≤ 122) {r : Nat} (hr : r < 8) (s : Int32) : ∃ P', f_X1_become (hp G b P) b (nI r) s = some (hp G b P') ∧ rowP P' = setRow (rowP P) r (becR s (rowP P r)) ∧ P'.1 = (wS P 4 (mmin (P.1 4 + 1) 16)).1 ∧ P'.2 14 = logIn (P.2 14) (P.1 1) (nI r) s (rowP P r 15) ∧ ∀ k, k ≠ 6 → k ≠ 13 → k ≠ 14 → P'.2 k = P.2 k := by
  have e45 : ∀ Q : PV, b_X1_become_45 (hp G b Q) b (nI r) s = some (hp G b (wS (wR Q 14 (logIn (Q.2 14) (Q.1 1) (nI r) s (Q.2 12 r))) 4 (mmin (Q.1 4 + 1) 16))) := by
    intro Q
    simp (disch := omega) only [b_X1_become_45, Option.bind_some, p_I0 hb, p_I1 hb, p_I2 hb, p_I3 hb, p_R4 hb, p_R5 hb, p_R6 hb, p_R7 hb, p_R8 hb, p_R9 hb, p_R10 hb, p_R11 hb, p_R12 hb, p_R13 hb, p_R14 hb, p_R15 hb, p_R16 hb, p_R17 hb, p_Rl hb, p_Il hb, p_v1 hb, p_v0 hb, p_a4 hb, p_a5 hb, p_a6 hb, p_a7 hb, p_a8 hb, p_a9 hb, p_a10 hb, p_a11 hb, p_a12 hb, p_a13 hb, p_a14 hb, p_a15 hb, p_a16 hb, p_a17 hb, p_s4 hb, p_s5 hb, p_s6 hb, p_s7 hb, p_s8 hb, p_s9 hb, p_s10 hb, p_s11 hb, p_s12 hb, p_s13 hb, p_s14 hb, p_s15 hb, p_s16 hb, p_s17 hb, p_P0 hb, p_P1 hb, p_P2 hb, p_P3 hb, p_Pl hb, wS_1, wS_2, wA_1, wA_2, wR_1, wR_2, bd_nI, a_enter hb]
  unfold f_X1_become becR
  simp (disch := omega) only [Option.bind_some, p_I0 hb, p_I1 hb, p_I2 hb, p_I3 hb, p_R4 hb, p_R5 hb, p_R6 hb, p_R7 hb, p_R8 hb, p_R9 hb, p_R10 hb, p_R11 hb, p_R12 hb, p_R13 hb, p_R14 hb, p_R15 hb, p_R16 hb, p_R17 hb, p_Rl hb, p_Il hb, p_v1 hb, p_v0 hb, p_a4 hb, p_a5 hb, p_a6 hb, p_a7 hb, p_a8 hb, p_a9 hb, p_a10 hb, p_a11 hb, p_a12 hb, p_a13 hb, p_a14 hb, p_a15 hb, p_a16 hb, p_a17 hb, p_s4 hb, p_s5 hb, p_s6 hb, p_s7 hb, p_s8 hb, p_s9 hb, p_s10 hb, p_s11 hb, p_s12 hb, p_s13 hb, p_s14 hb, p_s15 hb, p_s16 hb, p_s17 hb, p_P0 hb, p_P1 hb, p_P2 hb, p_P3 hb, p_Pl hb, wS_1, wS_2, wA_1, wA_2, wR_1, wR_2, bd_nI, b_X1_become_26, ix7, ix4, ix20, ix4l, ix68, ix4p, ixa0, ixa1, ixa2, ixa3, ixa4, ixa5, ixa6, ixa7, ixa8, ixa9, ixa10, ixa11, ixa12, ixa13, ixa14, ixa15, ixa16, ixa17, ixa18, ixa19, ixa20, nI_add, e45]
  by_cases h2 : s = 2
  · subst h2
    simp (disch := omega) only [if_true, Option.bind_some, p_I0 hb, p_I1 hb, p_I2 hb, p_I3 hb, p_R4 hb, p_R5 hb, p_R6 hb, p_R7 hb, p_R8 hb, p_R9 hb, p_R10 hb, p_R11 hb, p_R12 hb, p_R13 hb, p_R14 hb, p_R15 hb, p_R16 hb, p_R17 hb, p_Rl hb, p_Il hb, p_v1 hb, p_v0 hb, p_a4 hb, p_a5 hb, p_a6 hb, p_a7 hb, p_a8 hb, p_a9 hb, p_a10 hb, p_a11 hb, p_a12 hb, p_a13 hb, p_a14 hb, p_a15 hb, p_a16 hb, p_a17 hb, p_s4 hb, p_s5 hb, p_s6 hb, p_s7 hb, p_s8 hb, p_s9 hb, p_s10 hb, p_s11 hb, p_s12 hb, p_s13 hb, p_s14 hb, p_s15 hb, p_s16 hb, p_s17 hb, p_P0 hb, p_P1 hb, p_P2 hb, p_P3 hb, p_Pl hb, wS_1, wS_2, wA_1, wA_2, wR_1, wR_2, bd_nI, nl0_1, nl0_2, nl0_3, nl0_4, nl0_5, nl0_6, nl0_m1, nl1_0, nl1_2, nl1_3, nl1_4, nl1_5, nl1_6, nl1_m1, nl2_0, nl2_1, nl2_3, nl2_4, nl2_5, nl2_6, nl2_m1, nl3_0, nl3_1, nl3_2, nl3_4, nl3_5, nl3_6, nl3_m1, nl4_0, nl4_1, nl4_2, nl4_3, nl4_5, nl4_6, nl4_m1, nl5_0, nl5_1, nl5_2, nl5_3, nl5_4, nl5_6, nl5_m1, nl6_0, nl6_1, nl6_2, nl6_3, nl6_4, nl6_5, nl6_m1, nlm1_0, nlm1_1, nlm1_2, nlm1_3, nlm1_4, nlm1_5, nlm1_6, if_false, e45]
    refine ⟨_, rfl, ?_, rfl, ?_, fun k h6 h13 h14 => ?_⟩
    · rw [rw_S, rw_R _ _ _ (by decide), rw_16, rw_9]
      simp only [sr_at, sr_sr]
      rfl
    · simp [wR, wS, wA, rowP]
    · simp [wR, wS, wA, h6, h13, h14]
  · simp only [h2, if_false]
    by_cases h3 : s = 3
    · subst h3
      simp (disch := omega) only [if_true, Option.bind_some, p_I0 hb, p_I1 hb, p_I2 hb, p_I3 hb, p_R4 hb, p_R5 hb, p_R6 hb, p_R7 hb, p_R8 hb, p_R9 hb, p_R10 hb, p_R11 hb, p_R12 hb, p_R13 hb, p_R14 hb, p_R15 hb, p_R16 hb, p_R17 hb, p_Rl hb, p_Il hb, p_v1 hb, p_v0 hb, p_a4 hb, p_a5 hb, p_a6 hb, p_a7 hb, p_a8 hb, p_a9 hb, p_a10 hb, p_a11 hb, p_a12 hb, p_a13 hb, p_a14 hb, p_a15 hb, p_a16 hb, p_a17 hb, p_s4 hb, p_s5 hb, p_s6 hb, p_s7 hb, p_s8 hb, p_s9 hb, p_s10 hb, p_s11 hb, p_s12 hb, p_s13 hb, p_s14 hb, p_s15 hb, p_s16 hb, p_s17 hb, p_P0 hb, p_P1 hb, p_P2 hb, p_P3 hb, p_Pl hb, wS_1, wS_2, wA_1, wA_2, wR_1, wR_2, bd_nI, e45]
      refine ⟨_, rfl, ?_, rfl, ?_, fun k h6 h13 h14 => ?_⟩
      · rw [rw_S, rw_R _ _ _ (by decide), rw_17, rw_9]
        simp only [sr_at, sr_sr]
        rfl
      · simp [wR, wS, wA, rowP]
      · simp [wR, wS, wA, h6, h13, h14]
    · simp only [h3, if_false]
      refine ⟨_, rfl, ?_, rfl, ?_, fun k h6 h13 h14 => ?_⟩
      · rw [rw_S, rw_R _ _ _ (by decide), rw_9]
      · simp [wR, wS, wA, rowP]
      · simp [wR, wS, wA, h6, h14]
theorem a_remember (hb : b ≤ 122) : ∃ P', f_X1_rememberBefore (hp G b P) b = some (hp G b P') ∧ rowP P' = rowP P ∧ P'.1 = P.1 ∧ (∀ k, k ≠ 15 → k ≠ 16 → k ≠ 17 → P'.2 k = P.2 k) ∧ ∀ r, r < 8 → P'.2 15 r = P.2 6 r ∧ P'.2 16 r = P.2 7 r ∧ P'.2 17 r = P.2 10 r := by
  have c1 := fun Q : PV => p_c6_15 (G := G) (P := Q) (sp := 0) (dp := 0) (n := 8) (a := 0) (c := 0) (m := 8) hb rfl rfl rfl (by decide) (by decide)
  have c2 := fun Q : PV => p_c7_16 (G := G) (P := Q) (sp := 0) (dp := 0) (n := 8) (a := 0) (c := 0) (m := 8) hb rfl rfl rfl (by decide) (by decide)
  have c3 := fun Q : PV => p_c10_17 (G := G) (P := Q) (sp := 0) (dp := 0) (n := 8) (a := 0) (c := 0) (m := 8) hb rfl rfl rfl (by decide) (by decide)
  simp only [f_X1_rememberBefore, Option.bind_some, p_I0 hb, p_I1 hb, p_I2 hb, p_I3 hb, p_R4 hb, p_R5 hb, p_R6 hb, p_R7 hb, p_R8 hb, p_R9 hb, p_R10 hb, p_R11 hb, p_R12 hb, p_R13 hb, p_R14 hb, p_R15 hb, p_R16 hb, p_R17 hb, p_Rl hb, p_Il hb, p_v1 hb, p_v0 hb, p_a4 hb, p_a5 hb, p_a6 hb, p_a7 hb, p_a8 hb, p_a9 hb, p_a10 hb, p_a11 hb, p_a12 hb, p_a13 hb, p_a14 hb, p_a15 hb, p_a16 hb, p_a17 hb, p_s4 hb, p_s5 hb, p_s6 hb, p_s7 hb, p_s8 hb, p_s9 hb, p_s10 hb, p_s11 hb, p_s12 hb, p_s13 hb, p_s14 hb, p_s15 hb, p_s16 hb, p_s17 hb, p_P0 hb, p_P1 hb, p_P2 hb, p_P3 hb, p_Pl hb, wS_1, wS_2, wA_1, wA_2, wR_1, wR_2, c1, c2, c3]
  refine ⟨_, rfl, ?_, rfl, fun k h15 h16 h17 => ?_, fun r hr => ?_⟩
  · rw [rw_R _ _ _ (by decide), rw_R _ _ _ (by decide), rw_R _ _ _ (by decide)]
  · simp [wR, h15, h16, h17]
  · simp [wR, va_cpy, hr]
def fedR (row : Nat → Int32) : Bool := (decide (row 9 = 2) || decide (row 9 = 3)) && decide (row 12 = 0)
def mvV (goal step v : Int32) : Int32 := if goal ≤ v then mmax goal (v - step) else mmin goal (v + step)
def mvR (row : Nat → Int32) : Nat → Int32 := upd row 10 (if fedR row = true then mvV (row 0) (row 1) (row 10) else mvV 0 (row 2) (row 10))
/-- rows from r on, m of them, by F -/
def rowsF (F : Nat → (Nat → Int32) → (Nat → Int32)) (V : Nat → Nat → Int32) (r m : Nat) : Nat → Nat → Int32 := fun q => if r ≤ q ∧ q < r + m then F q (V q) else V q
theorem rowsF_0 (F : Nat → (Nat → Int32) → (Nat → Int32)) (V : Nat → Nat → Int32) (r : Nat) : rowsF F V r 0 = V := by
  funext q
  unfold rowsF
  rw [if_neg (by omega)]
theorem rowsF_s (F : Nat → (Nat → Int32) → (Nat → Int32)) (V : Nat → Nat → Int32) (r m : Nat) : rowsF F (setRow V r (F r (V r))) (r + 1) m = rowsF F V r (m + 1) := by
  funext q
  unfold rowsF setRow
  by_cases h : q = r
  · subst h
    rw [if_neg (by omega), if_pos rfl, if_pos (by omega)]
  · rw [if_neg h]
    by_cases h2 : r + 1 ≤ q ∧ q < r + 1 + m
    · rw [if_pos h2, if_pos (by omega)]
    · rw [if_neg h2, if_neg (by omega)]
theorem a_moveStep (hb : b ≤ 122) {r n : Nat} (hr : r < n) (hn : P.1 0 = nI n) (hn8 : n ≤ 8) (rec2 : MH → Nat → Int32 → Option MH) : ∃ P', b_X1_moveVoltages_2 rec2 (hp G b P) b (nI r) = rec2 (hp G b P') b (nI (r + 1)) ∧ rowP P' = setRow (rowP P) r (mvR (rowP P r)) ∧ P'.1 = P.1 ∧ ∀ k, k ≠ 7 → P'.2 k = P.2 k := by
  have hr8 : r < 8 := by omega
  have e120 : ∀ x : Int32, b_X1_moveVoltages_120 rec2 (hp G b P) b (nI r) (b + 4) (nI r) x = rec2 (hp G b (wA P 7 r x)) b (nI (r + 1)) := by
    intro x
    simp (disch := omega) only [b_X1_moveVoltages_120, Option.bind_some, p_I0 hb, p_I1 hb, p_I2 hb, p_I3 hb, p_R4 hb, p_R5 hb, p_R6 hb, p_R7 hb, p_R8 hb, p_R9 hb, p_R10 hb, p_R11 hb, p_R12 hb, p_R13 hb, p_R14 hb, p_R15 hb, p_R16 hb, p_R17 hb, p_Rl hb, p_Il hb, p_v1 hb, p_v0 hb, p_a4 hb, p_a5 hb, p_a6 hb, p_a7 hb, p_a8 hb, p_a9 hb, p_a10 hb, p_a11 hb, p_a12 hb, p_a13 hb, p_a14 hb, p_a15 hb, p_a16 hb, p_a17 hb, p_s4 hb, p_s5 hb, p_s6 hb, p_s7 hb, p_s8 hb, p_s9 hb, p_s10 hb, p_s11 hb, p_s12 hb, p_s13 hb, p_s14 hb, p_s15 hb, p_s16 hb, p_s17 hb, p_P0 hb, p_P1 hb, p_P2 hb, p_P3 hb, p_Pl hb, wS_1, wS_2, wA_1, wA_2, wR_1, wR_2, bd_nI, nI_1]
  have e71 : ∀ (goal st : Int32) (k : Int32), f_X1_propertyOf (hp G b P) b (nI r) k = some st → b_X1_moveVoltages_71 rec2 (hp G b P) b (nI r) goal b (nI r) k = rec2 (hp G b (wA P 7 r (mvV goal st (P.2 7 r)))) b (nI (r + 1)) := by
    intro goal st k hk
    simp (disch := omega) only [b_X1_moveVoltages_71, Option.bind_some, p_I0 hb, p_I1 hb, p_I2 hb, p_I3 hb, p_R4 hb, p_R5 hb, p_R6 hb, p_R7 hb, p_R8 hb, p_R9 hb, p_R10 hb, p_R11 hb, p_R12 hb, p_R13 hb, p_R14 hb, p_R15 hb, p_R16 hb, p_R17 hb, p_Rl hb, p_Il hb, p_v1 hb, p_v0 hb, p_a4 hb, p_a5 hb, p_a6 hb, p_a7 hb, p_a8 hb, p_a9 hb, p_a10 hb, p_a11 hb, p_a12 hb, p_a13 hb, p_a14 hb, p_a15 hb, p_a16 hb, p_a17 hb, p_s4 hb, p_s5 hb, p_s6 hb, p_s7 hb, p_s8 hb, p_s9 hb, p_s10 hb, p_s11 hb, p_s12 hb, p_s13 hb, p_s14 hb, p_s15 hb, p_s16 hb, p_s17 hb, p_P0 hb, p_P1 hb, p_P2 hb, p_P3 hb, p_Pl hb, wS_1, wS_2, wA_1, wA_2, wR_1, wR_2, bd_nI, hk, e120, mvV]
    split <;> rfl
  have e44 : ∀ fed : Bool, b_X1_moveVoltages_44 rec2 (hp G b P) b (nI r) (if fed = true then 1 else 0) = rec2 (hp G b (wA P 7 r (if fed = true then mvV (rowP P r 0) (rowP P r 1) (P.2 7 r) else mvV 0 (rowP P r 2) (P.2 7 r)))) b (nI (r + 1)) := by
    intro fed
    cases fed with
    | true => simp only [b_X1_moveVoltages_44, b_X1_moveVoltages_59, if_true, n10, if_false, Option.bind_some, p_I0 hb, p_I1 hb, p_I2 hb, p_I3 hb, p_R4 hb, p_R5 hb, p_R6 hb, p_R7 hb, p_R8 hb, p_R9 hb, p_R10 hb, p_R11 hb, p_R12 hb, p_R13 hb, p_R14 hb, p_R15 hb, p_R16 hb, p_R17 hb, p_Rl hb, p_Il hb, p_v1 hb, p_v0 hb, p_a4 hb, p_a5 hb, p_a6 hb, p_a7 hb, p_a8 hb, p_a9 hb, p_a10 hb, p_a11 hb, p_a12 hb, p_a13 hb, p_a14 hb, p_a15 hb, p_a16 hb, p_a17 hb, p_s4 hb, p_s5 hb, p_s6 hb, p_s7 hb, p_s8 hb, p_s9 hb, p_s10 hb, p_s11 hb, p_s12 hb, p_s13 hb, p_s14 hb, p_s15 hb, p_s16 hb, p_s17 hb, p_P0 hb, p_P1 hb, p_P2 hb, p_P3 hb, p_Pl hb, wS_1, wS_2, wA_1, wA_2, wR_1, wR_2, a_prop0 hb hr8, e71 _ _ _ (a_prop1 hb hr8)]
    | false => simp only [b_X1_moveVoltages_44, b_X1_moveVoltages_59, Bool.false_eq_true, if_false, if_true, e71 _ _ _ (a_prop2 hb hr8)]
  have e1 : b_X1_moveVoltages_44 rec2 (hp G b P) b (nI r) 1 = _ := e44 true
  have e0 : b_X1_moveVoltages_44 rec2 (hp G b P) b (nI r) 0 = _ := e44 false
  refine ⟨wA P 7 r (if fedR (rowP P r) = true then mvV (rowP P r 0) (rowP P r 1) (P.2 7 r) else mvV 0 (rowP P r 2) (P.2 7 r)), ?_, ?_, rfl, fun k h7 => by simp only [wA_2, h7, if_false]⟩
  · have r9 : rowP P r 9 = P.2 6 r := rfl
    have r12 : rowP P r 12 = P.2 9 r := rfl
    unfold b_X1_moveVoltages_2
    simp (disch := omega) only [Option.bind_some, p_I0 hb, p_I1 hb, p_I2 hb, p_I3 hb, p_R4 hb, p_R5 hb, p_R6 hb, p_R7 hb, p_R8 hb, p_R9 hb, p_R10 hb, p_R11 hb, p_R12 hb, p_R13 hb, p_R14 hb, p_R15 hb, p_R16 hb, p_R17 hb, p_Rl hb, p_Il hb, p_v1 hb, p_v0 hb, p_a4 hb, p_a5 hb, p_a6 hb, p_a7 hb, p_a8 hb, p_a9 hb, p_a10 hb, p_a11 hb, p_a12 hb, p_a13 hb, p_a14 hb, p_a15 hb, p_a16 hb, p_a17 hb, p_s4 hb, p_s5 hb, p_s6 hb, p_s7 hb, p_s8 hb, p_s9 hb, p_s10 hb, p_s11 hb, p_s12 hb, p_s13 hb, p_s14 hb, p_s15 hb, p_s16 hb, p_s17 hb, p_P0 hb, p_P1 hb, p_P2 hb, p_P3 hb, p_Pl hb, wS_1, wS_2, wA_1, wA_2, wR_1, wR_2, bd_nI, hn, b_X1_moveVoltages_30, b_X1_moveVoltages_43, e1, e0, fedR, r9, r12]
    rw [if_neg (nI_ge (by omega) (by omega))]
    by_cases c2 : P.2 6 r = 2
    · simp only [c2, if_true, decide_true, Bool.true_or, Bool.true_and]
      by_cases c5 : P.2 9 r = 0
      · simp only [c5, if_true, decide_true]
      · simp only [c5, if_false, decide_false, Bool.false_eq_true]
    · simp only [c2, if_false, decide_false, Bool.false_or]
      by_cases c3 : P.2 6 r = 3
      · simp only [c3, if_true, decide_true, Bool.true_and]
        by_cases c5 : P.2 9 r = 0
        · simp only [c5, if_true, decide_true]
        · simp only [c5, if_false, decide_false, Bool.false_eq_true]
      · simp only [c3, if_false, decide_false, Bool.false_and, Bool.false_eq_true]
  · rw [rw_10]
    rfl
theorem a_moveLoop (hb : b ≤ 122) {n : Nat} (hn8 : n ≤ 8) : ∀ (m r fuel : Nat) (P : PV), P.1 0 = nI n → r + m = n → m < fuel → ∃ P', f_X1_moveVoltages_2 fuel (hp G b P) b (nI r) = some (hp G b P') ∧ rowP P' = rowsF (fun _ => mvR) (rowP P) r m ∧ P'.1 = P.1 ∧ ∀ k, k ≠ 7 → P'.2 k = P.2 k := by
  intro m
  induction m with
  | zero =>
    intro r fuel P hn hk hf
    obtain ⟨fuel, rfl⟩ : ∃ f, fuel = f + 1 := ⟨fuel - 1, by omega⟩
    refine ⟨P, ?_, (rowsF_0 _ _ _).symm, rfl, fun _ _ => rfl⟩
    show b_X1_moveVoltages_2 _ _ _ _ = _
    unfold b_X1_moveVoltages_2
    simp only [Option.bind_some, p_I0 hb, p_I1 hb, p_I2 hb, p_I3 hb, p_R4 hb, p_R5 hb, p_R6 hb, p_R7 hb, p_R8 hb, p_R9 hb, p_R10 hb, p_R11 hb, p_R12 hb, p_R13 hb, p_R14 hb, p_R15 hb, p_R16 hb, p_R17 hb, p_Rl hb, p_Il hb, p_v1 hb, p_v0 hb, p_a4 hb, p_a5 hb, p_a6 hb, p_a7 hb, p_a8 hb, p_a9 hb, p_a10 hb, p_a11 hb, p_a12 hb, p_a13 hb, p_a14 hb, p_a15 hb, p_a16 hb, p_a17 hb, p_s4 hb, p_s5 hb, p_s6 hb, p_s7 hb, p_s8 hb, p_s9 hb, p_s10 hb, p_s11 hb, p_s12 hb, p_s13 hb, p_s14 hb, p_s15 hb, p_s16 hb, p_s17 hb, p_P0 hb, p_P1 hb, p_P2 hb, p_P3 hb, p_Pl hb, wS_1, wS_2, wA_1, wA_2, wR_1, wR_2, hn]
    rw [if_pos (nI_le (by omega) (by omega))]
  | succ m ih =>
    intro r fuel P hn hk hf
    obtain ⟨fuel, rfl⟩ : ∃ f, fuel = f + 1 := ⟨fuel - 1, by omega⟩
    obtain ⟨P1, g1, g2, g3, g4⟩ := a_moveStep (G := G) (P := P) hb (r := r) (n := n) (by omega) hn hn8 (f_X1_moveVoltages_2 fuel)
    obtain ⟨P2, k1, k2, k3, k4⟩ := ih (r + 1) fuel P1 (by rw [g3]; exact hn) (by omega) (by omega)
    refine ⟨P2, ?_, ?_, k3.trans g3, fun k h7 => (k4 k h7).trans (g4 k h7)⟩
    · show b_X1_moveVoltages_2 _ _ _ _ = _
      rw [g1, k1]
    · rw [k2, g2, ← rowsF_s]
theorem a_move (hb : b ≤ 122) {n : Nat} (hn8 : n ≤ 8) (hn : P.1 0 = nI n) : ∃ P', f_X1_moveVoltages (hp G b P) b = some (hp G b P') ∧ rowP P' = rowsF (fun _ => mvR) (rowP P) 0 n ∧ P'.1 = P.1 ∧ ∀ k, k ≠ 7 → P'.2 k = P.2 k :=
  a_moveLoop hb hn8 n 0 FU P hn (by omega) (by rw [FU_eq]; omega)
def endR (row : Nat → Int32) : Nat → Int32 := if row 9 = 3 then upd (if row 12 ≤ 0 then row else upd row 12 (row 12 - 1)) 19 (row 19 + 1) else (if row 12 ≤ 0 then row else upd row 12 (row 12 - 1))
theorem a_endStep (hb : b ≤ 122) {r n : Nat} (hr : r < n) (hn : P.1 0 = nI n) (hn8 : n ≤ 8) (rec2 : MH → Nat → Int32 → Option MH) : ∃ P', b_X1_endTick_2 rec2 (hp G b P) b (nI r) = rec2 (hp G b P') b (nI (r + 1)) ∧ rowP P' = setRow (rowP P) r (endR (rowP P r)) ∧ P'.1 = P.1 ∧ ∀ k, k ≠ 9 → k ≠ 13 → P'.2 k = P.2 k := by
  have hr8 : r < 8 := by omega
  have r9 : rowP P r 9 = P.2 6 r := rfl
  have r12 : rowP P r 12 = P.2 9 r := rfl
  unfold b_X1_endTick_2 endR
  simp (disch := omega) only [Option.bind_some, p_I0 hb, p_I1 hb, p_I2 hb, p_I3 hb, p_R4 hb, p_R5 hb, p_R6 hb, p_R7 hb, p_R8 hb, p_R9 hb, p_R10 hb, p_R11 hb, p_R12 hb, p_R13 hb, p_R14 hb, p_R15 hb, p_R16 hb, p_R17 hb, p_Rl hb, p_Il hb, p_v1 hb, p_v0 hb, p_a4 hb, p_a5 hb, p_a6 hb, p_a7 hb, p_a8 hb, p_a9 hb, p_a10 hb, p_a11 hb, p_a12 hb, p_a13 hb, p_a14 hb, p_a15 hb, p_a16 hb, p_a17 hb, p_s4 hb, p_s5 hb, p_s6 hb, p_s7 hb, p_s8 hb, p_s9 hb, p_s10 hb, p_s11 hb, p_s12 hb, p_s13 hb, p_s14 hb, p_s15 hb, p_s16 hb, p_s17 hb, p_P0 hb, p_P1 hb, p_P2 hb, p_P3 hb, p_Pl hb, wS_1, wS_2, wA_1, wA_2, wR_1, wR_2, ix7, ix4, ix20, ix4l, ix68, ix4p, ixa0, ixa1, ixa2, ixa3, ixa4, ixa5, ixa6, ixa7, ixa8, ixa9, ixa10, ixa11, ixa12, ixa13, ixa14, ixa15, ixa16, ixa17, ixa18, ixa19, ixa20, nI_add, bd_nI, hn, b_X1_endTick_29, b_X1_endTick_53, nI_1, r9, r12, Nat.reduceEqDiff, if_false]
  rw [if_neg (nI_ge (by omega) (by omega))]
  by_cases c1 : P.2 9 r ≤ 0
  · simp only [c1, if_true]
    by_cases c2 : P.2 6 r = 3
    · simp only [c2, if_true]
      exact ⟨_, rfl, by rw [rw_19]; rfl, rfl, fun k h9 h13 => by simp only [wA_2, h13, if_false]⟩
    · simp only [c2, if_false]
      exact ⟨_, rfl, (sr_self _ _).symm, rfl, fun k h9 h13 => rfl⟩
  · simp only [c1, if_false]
    by_cases c2 : P.2 6 r = 3
    · simp only [c2, if_true]
      exact ⟨_, rfl, by rw [rw_19, rw_12]; simp only [sr_at, sr_sr]; rfl, rfl, fun k h9 h13 => by simp only [wA_2, h9, h13, if_false]⟩
    · simp only [c2, if_false]
      exact ⟨_, rfl, rw_12 _ _ _, rfl, fun k h9 h13 => by simp only [wA_2, h9, if_false]⟩
theorem a_endLoop (hb : b ≤ 122) {n : Nat} (hn8 : n ≤ 8) : ∀ (m r fuel : Nat) (P : PV), P.1 0 = nI n → r + m = n → m < fuel → ∃ P', f_X1_endTick_2 fuel (hp G b P) b (nI r) = some (hp G b P') ∧ rowP P' = rowsF (fun _ => endR) (rowP P) r m ∧ P'.1 = (wS P 1 (P.1 1 + 1)).1 ∧ ∀ k, k ≠ 9 → k ≠ 13 → P'.2 k = P.2 k := by
  intro m
  induction m with
  | zero =>
    intro r fuel P hn hk hf
    obtain ⟨fuel, rfl⟩ : ∃ f, fuel = f + 1 := ⟨fuel - 1, by omega⟩
    refine ⟨wS P 1 (P.1 1 + 1), ?_, (rowsF_0 _ _ _).symm, rfl, fun _ _ _ => rfl⟩
    show b_X1_endTick_2 _ _ _ _ = _
    unfold b_X1_endTick_2
    simp only [Option.bind_some, p_I0 hb, p_I1 hb, p_I2 hb, p_I3 hb, p_R4 hb, p_R5 hb, p_R6 hb, p_R7 hb, p_R8 hb, p_R9 hb, p_R10 hb, p_R11 hb, p_R12 hb, p_R13 hb, p_R14 hb, p_R15 hb, p_R16 hb, p_R17 hb, p_Rl hb, p_Il hb, p_v1 hb, p_v0 hb, p_a4 hb, p_a5 hb, p_a6 hb, p_a7 hb, p_a8 hb, p_a9 hb, p_a10 hb, p_a11 hb, p_a12 hb, p_a13 hb, p_a14 hb, p_a15 hb, p_a16 hb, p_a17 hb, p_s4 hb, p_s5 hb, p_s6 hb, p_s7 hb, p_s8 hb, p_s9 hb, p_s10 hb, p_s11 hb, p_s12 hb, p_s13 hb, p_s14 hb, p_s15 hb, p_s16 hb, p_s17 hb, p_P0 hb, p_P1 hb, p_P2 hb, p_P3 hb, p_Pl hb, wS_1, wS_2, wA_1, wA_2, wR_1, wR_2, hn]
    rw [if_pos (nI_le (by omega) (by omega))]
  | succ m ih =>
    intro r fuel P hn hk hf
    obtain ⟨fuel, rfl⟩ : ∃ f, fuel = f + 1 := ⟨fuel - 1, by omega⟩
    obtain ⟨P1, g1, g2, g3, g4⟩ := a_endStep (G := G) (P := P) hb (r := r) (n := n) (by omega) hn hn8 (f_X1_endTick_2 fuel)
    obtain ⟨P2, k1, k2, k3, k4⟩ := ih (r + 1) fuel P1 (by rw [g3]; exact hn) (by omega) (by omega)
    refine ⟨P2, ?_, ?_, ?_, fun k h9 h13 => (k4 k h9 h13).trans (g4 k h9 h13)⟩
    · show b_X1_endTick_2 _ _ _ _ = _
      rw [g1, k1]
    · rw [k2, g2, ← rowsF_s]
    · rw [k3]
      unfold wS
      rw [g3]
theorem a_end (hb : b ≤ 122) {n : Nat} (hn8 : n ≤ 8) (hn : P.1 0 = nI n) : ∃ P', f_X1_endTick (hp G b P) b = some (hp G b P') ∧ rowP P' = rowsF (fun _ => endR) (rowP P) 0 n ∧ P'.1 = (wS P 1 (P.1 1 + 1)).1 ∧ ∀ k, k ≠ 9 → k ≠ 13 → P'.2 k = P.2 k :=
  a_endLoop hb hn8 n 0 FU P hn (by omega) (by rw [FU_eq]; omega)

