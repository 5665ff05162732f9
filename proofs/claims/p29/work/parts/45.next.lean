/-! the plant: what is read in a tick; a rail's next state -/
variable {G : GB} {b : Nat} {P : PV}
theorem a_wanted (hb : b ≤ 122) {r : Nat} (hr : r < 8) : f_X1_isWanted (hp G b P) b (nI r) = some (if tb (P.1 3) r = true then 1 else 0) := by
  simp only [f_X1_isWanted, b_X1_isWanted_16, Option.bind_some, p_I0 hb, p_I1 hb, p_I2 hb, p_I3 hb, p_R4 hb, p_R5 hb, p_R6 hb, p_R7 hb, p_R8 hb, p_R9 hb, p_R10 hb, p_R11 hb, p_R12 hb, p_R13 hb, p_R14 hb, p_R15 hb, p_R16 hb, p_R17 hb, p_Rl hb, p_Il hb, p_v1 hb, p_v0 hb, p_a4 hb, p_a5 hb, p_a6 hb, p_a7 hb, p_a8 hb, p_a9 hb, p_a10 hb, p_a11 hb, p_a12 hb, p_a13 hb, p_a14 hb, p_a15 hb, p_a16 hb, p_a17 hb, p_s4 hb, p_s5 hb, p_s6 hb, p_s7 hb, p_s8 hb, p_s9 hb, p_s10 hb, p_s11 hb, p_s12 hb, p_s13 hb, p_s14 hb, p_s15 hb, p_s16 hb, p_s17 hb, p_P0 hb, p_P1 hb, p_P2 hb, p_P3 hb, p_Pl hb, wS_1, wS_2, wA_1, wA_2, wR_1, wR_2, tb_and _ (show r < 31 by omega), i11, i01]
  cases tb (P.1 3) r <;> rfl
theorem a_flag (hb : b ≤ 122) {r : Nat} (hr : r < 8) : f_X1_hasFlag (hp G b P) b (nI r) = some (if flgR (rowP P r) = true then 1 else 0) := by
  simp (disch := omega) only [f_X1_hasFlag, b_X1_hasFlag_24, b_X1_hasFlag_64, Option.bind_some, p_I0 hb, p_I1 hb, p_I2 hb, p_I3 hb, p_R4 hb, p_R5 hb, p_R6 hb, p_R7 hb, p_R8 hb, p_R9 hb, p_R10 hb, p_R11 hb, p_R12 hb, p_R13 hb, p_R14 hb, p_R15 hb, p_R16 hb, p_R17 hb, p_Rl hb, p_Il hb, p_v1 hb, p_v0 hb, p_a4 hb, p_a5 hb, p_a6 hb, p_a7 hb, p_a8 hb, p_a9 hb, p_a10 hb, p_a11 hb, p_a12 hb, p_a13 hb, p_a14 hb, p_a15 hb, p_a16 hb, p_a17 hb, p_s4 hb, p_s5 hb, p_s6 hb, p_s7 hb, p_s8 hb, p_s9 hb, p_s10 hb, p_s11 hb, p_s12 hb, p_s13 hb, p_s14 hb, p_s15 hb, p_s16 hb, p_s17 hb, p_P0 hb, p_P1 hb, p_P2 hb, p_P3 hb, p_Pl hb, wS_1, wS_2, wA_1, wA_2, wR_1, wR_2, ix7, ix4, ix20, ix4l, ix68, ix4p, ixa0, ixa1, ixa2, ixa3, ixa4, ixa5, ixa6, ixa7, ixa8, ixa9, ixa10, ixa11, ixa12, ixa13, ixa14, ixa15, ixa16, ixa17, ixa18, ixa19, ixa20, nI_add, bd_nI, i11, i01, ite_some, flgR, flg, rowP]
  by_cases h1 : P.2 8 r = 0
  · simp only [h1, if_true, Bool.not_eq_true', decide_eq_false_iff_not, ite_not]
  · simp only [h1, if_false]
    by_cases h2 : P.2 8 r = 2 <;> simp [h2]
theorem a_dis (hb : b ≤ 122) {r : Nat} (hr : r < 8) : f_X1_isDischarged (hp G b P) b (nI r) = some (if P.1 2 < rowP P r 10 then 0 else 1) := by
  simp (disch := omega) only [f_X1_isDischarged, b_X1_isDischarged_18, Option.bind_some, p_I0 hb, p_I1 hb, p_I2 hb, p_I3 hb, p_R4 hb, p_R5 hb, p_R6 hb, p_R7 hb, p_R8 hb, p_R9 hb, p_R10 hb, p_R11 hb, p_R12 hb, p_R13 hb, p_R14 hb, p_R15 hb, p_R16 hb, p_R17 hb, p_Rl hb, p_Il hb, p_v1 hb, p_v0 hb, p_a4 hb, p_a5 hb, p_a6 hb, p_a7 hb, p_a8 hb, p_a9 hb, p_a10 hb, p_a11 hb, p_a12 hb, p_a13 hb, p_a14 hb, p_a15 hb, p_a16 hb, p_a17 hb, p_s4 hb, p_s5 hb, p_s6 hb, p_s7 hb, p_s8 hb, p_s9 hb, p_s10 hb, p_s11 hb, p_s12 hb, p_s13 hb, p_s14 hb, p_s15 hb, p_s16 hb, p_s17 hb, p_P0 hb, p_P1 hb, p_P2 hb, p_P3 hb, p_Pl hb, wS_1, wS_2, wA_1, wA_2, wR_1, wR_2, bd_nI, i11, i01, ite_some, rowP]
theorem a_prop0 (hb : b ≤ 122) {r : Nat} (hr : r < 8) : f_X1_propertyOf (hp G b P) b (nI r) (0 : Int32) = some (rowP P r 0) := by
  simp (disch := omega) only [f_X1_propertyOf, Option.bind_some, p_I0 hb, p_I1 hb, p_I2 hb, p_I3 hb, p_R4 hb, p_R5 hb, p_R6 hb, p_R7 hb, p_R8 hb, p_R9 hb, p_R10 hb, p_R11 hb, p_R12 hb, p_R13 hb, p_R14 hb, p_R15 hb, p_R16 hb, p_R17 hb, p_Rl hb, p_Il hb, p_v1 hb, p_v0 hb, p_a4 hb, p_a5 hb, p_a6 hb, p_a7 hb, p_a8 hb, p_a9 hb, p_a10 hb, p_a11 hb, p_a12 hb, p_a13 hb, p_a14 hb, p_a15 hb, p_a16 hb, p_a17 hb, p_s4 hb, p_s5 hb, p_s6 hb, p_s7 hb, p_s8 hb, p_s9 hb, p_s10 hb, p_s11 hb, p_s12 hb, p_s13 hb, p_s14 hb, p_s15 hb, p_s16 hb, p_s17 hb, p_P0 hb, p_P1 hb, p_P2 hb, p_P3 hb, p_Pl hb, wS_1, wS_2, wA_1, wA_2, wR_1, wR_2, ix7, ix4, ix20, ix4l, ix68, ix4p, ixa0, ixa1, ixa2, ixa3, ixa4, ixa5, ixa6, ixa7, ixa8, ixa9, ixa10, ixa11, ixa12, ixa13, ixa14, ixa15, ixa16, ixa17, ixa18, ixa19, ixa20, nI_add, bd_nI, rowP]
theorem a_prop1 (hb : b ≤ 122) {r : Nat} (hr : r < 8) : f_X1_propertyOf (hp G b P) b (nI r) (1 : Int32) = some (rowP P r 1) := by
  simp (disch := omega) only [f_X1_propertyOf, Option.bind_some, p_I0 hb, p_I1 hb, p_I2 hb, p_I3 hb, p_R4 hb, p_R5 hb, p_R6 hb, p_R7 hb, p_R8 hb, p_R9 hb, p_R10 hb, p_R11 hb, p_R12 hb, p_R13 hb, p_R14 hb, p_R15 hb, p_R16 hb, p_R17 hb, p_Rl hb, p_Il hb, p_v1 hb, p_v0 hb, p_a4 hb, p_a5 hb, p_a6 hb, p_a7 hb, p_a8 hb, p_a9 hb, p_a10 hb, p_a11 hb, p_a12 hb, p_a13 hb, p_a14 hb, p_a15 hb, p_a16 hb, p_a17 hb, p_s4 hb, p_s5 hb, p_s6 hb, p_s7 hb, p_s8 hb, p_s9 hb, p_s10 hb, p_s11 hb, p_s12 hb, p_s13 hb, p_s14 hb, p_s15 hb, p_s16 hb, p_s17 hb, p_P0 hb, p_P1 hb, p_P2 hb, p_P3 hb, p_Pl hb, wS_1, wS_2, wA_1, wA_2, wR_1, wR_2, ix7, ix4, ix20, ix4l, ix68, ix4p, ixa0, ixa1, ixa2, ixa3, ixa4, ixa5, ixa6, ixa7, ixa8, ixa9, ixa10, ixa11, ixa12, ixa13, ixa14, ixa15, ixa16, ixa17, ixa18, ixa19, ixa20, nI_add, bd_nI, rowP]
theorem a_prop2 (hb : b ≤ 122) {r : Nat} (hr : r < 8) : f_X1_propertyOf (hp G b P) b (nI r) (2 : Int32) = some (rowP P r 2) := by
  simp (disch := omega) only [f_X1_propertyOf, Option.bind_some, p_I0 hb, p_I1 hb, p_I2 hb, p_I3 hb, p_R4 hb, p_R5 hb, p_R6 hb, p_R7 hb, p_R8 hb, p_R9 hb, p_R10 hb, p_R11 hb, p_R12 hb, p_R13 hb, p_R14 hb, p_R15 hb, p_R16 hb, p_R17 hb, p_Rl hb, p_Il hb, p_v1 hb, p_v0 hb, p_a4 hb, p_a5 hb, p_a6 hb, p_a7 hb, p_a8 hb, p_a9 hb, p_a10 hb, p_a11 hb, p_a12 hb, p_a13 hb, p_a14 hb, p_a15 hb, p_a16 hb, p_a17 hb, p_s4 hb, p_s5 hb, p_s6 hb, p_s7 hb, p_s8 hb, p_s9 hb, p_s10 hb, p_s11 hb, p_s12 hb, p_s13 hb, p_s14 hb, p_s15 hb, p_s16 hb, p_s17 hb, p_P0 hb, p_P1 hb, p_P2 hb, p_P3 hb, p_Pl hb, wS_1, wS_2, wA_1, wA_2, wR_1, wR_2, ix7, ix4, ix20, ix4l, ix68, ix4p, ixa0, ixa1, ixa2, ixa3, ixa4, ixa5, ixa6, ixa7, ixa8, ixa9, ixa10, ixa11, ixa12, ixa13, ixa14, ixa15, ixa16, ixa17, ixa18, ixa19, ixa20, nI_add, bd_nI, rowP]
theorem a_prop4 (hb : b ≤ 122) {r : Nat} (hr : r < 8) : f_X1_propertyOf (hp G b P) b (nI r) (4 : Int32) = some (rowP P r 4) := by
  simp (disch := omega) only [f_X1_propertyOf, Option.bind_some, p_I0 hb, p_I1 hb, p_I2 hb, p_I3 hb, p_R4 hb, p_R5 hb, p_R6 hb, p_R7 hb, p_R8 hb, p_R9 hb, p_R10 hb, p_R11 hb, p_R12 hb, p_R13 hb, p_R14 hb, p_R15 hb, p_R16 hb, p_R17 hb, p_Rl hb, p_Il hb, p_v1 hb, p_v0 hb, p_a4 hb, p_a5 hb, p_a6 hb, p_a7 hb, p_a8 hb, p_a9 hb, p_a10 hb, p_a11 hb, p_a12 hb, p_a13 hb, p_a14 hb, p_a15 hb, p_a16 hb, p_a17 hb, p_s4 hb, p_s5 hb, p_s6 hb, p_s7 hb, p_s8 hb, p_s9 hb, p_s10 hb, p_s11 hb, p_s12 hb, p_s13 hb, p_s14 hb, p_s15 hb, p_s16 hb, p_s17 hb, p_P0 hb, p_P1 hb, p_P2 hb, p_P3 hb, p_Pl hb, wS_1, wS_2, wA_1, wA_2, wR_1, wR_2, ix7, ix4, ix20, ix4l, ix68, ix4p, ixa0, ixa1, ixa2, ixa3, ixa4, ixa5, ixa6, ixa7, ixa8, ixa9, ixa10, ixa11, ixa12, ixa13, ixa14, ixa15, ixa16, ixa17, ixa18, ixa19, ixa20, nI_add, bd_nI, rowP]
theorem a_prop5 (hb : b ≤ 122) {r : Nat} (hr : r < 8) : f_X1_propertyOf (hp G b P) b (nI r) (5 : Int32) = some (rowP P r 5) := by
  simp (disch := omega) only [f_X1_propertyOf, Option.bind_some, p_I0 hb, p_I1 hb, p_I2 hb, p_I3 hb, p_R4 hb, p_R5 hb, p_R6 hb, p_R7 hb, p_R8 hb, p_R9 hb, p_R10 hb, p_R11 hb, p_R12 hb, p_R13 hb, p_R14 hb, p_R15 hb, p_R16 hb, p_R17 hb, p_Rl hb, p_Il hb, p_v1 hb, p_v0 hb, p_a4 hb, p_a5 hb, p_a6 hb, p_a7 hb, p_a8 hb, p_a9 hb, p_a10 hb, p_a11 hb, p_a12 hb, p_a13 hb, p_a14 hb, p_a15 hb, p_a16 hb, p_a17 hb, p_s4 hb, p_s5 hb, p_s6 hb, p_s7 hb, p_s8 hb, p_s9 hb, p_s10 hb, p_s11 hb, p_s12 hb, p_s13 hb, p_s14 hb, p_s15 hb, p_s16 hb, p_s17 hb, p_P0 hb, p_P1 hb, p_P2 hb, p_P3 hb, p_Pl hb, wS_1, wS_2, wA_1, wA_2, wR_1, wR_2, ix7, ix4, ix20, ix4l, ix68, ix4p, ixa0, ixa1, ixa2, ixa3, ixa4, ixa5, ixa6, ixa7, ixa8, ixa9, ixa10, ixa11, ixa12, ixa13, ixa14, ixa15, ixa16, ixa17, ixa18, ixa19, ixa20, nI_add, bd_nI, rowP]
theorem a_prop6 (hb : b ≤ 122) {r : Nat} (hr : r < 8) : f_X1_propertyOf (hp G b P) b (nI r) (6 : Int32) = some (rowP P r 6) := by
  simp (disch := omega) only [f_X1_propertyOf, Option.bind_some, p_I0 hb, p_I1 hb, p_I2 hb, p_I3 hb, p_R4 hb, p_R5 hb, p_R6 hb, p_R7 hb, p_R8 hb, p_R9 hb, p_R10 hb, p_R11 hb, p_R12 hb, p_R13 hb, p_R14 hb, p_R15 hb, p_R16 hb, p_R17 hb, p_Rl hb, p_Il hb, p_v1 hb, p_v0 hb, p_a4 hb, p_a5 hb, p_a6 hb, p_a7 hb, p_a8 hb, p_a9 hb, p_a10 hb, p_a11 hb, p_a12 hb, p_a13 hb, p_a14 hb, p_a15 hb, p_a16 hb, p_a17 hb, p_s4 hb, p_s5 hb, p_s6 hb, p_s7 hb, p_s8 hb, p_s9 hb, p_s10 hb, p_s11 hb, p_s12 hb, p_s13 hb, p_s14 hb, p_s15 hb, p_s16 hb, p_s17 hb, p_P0 hb, p_P1 hb, p_P2 hb, p_P3 hb, p_Pl hb, wS_1, wS_2, wA_1, wA_2, wR_1, wR_2, ix7, ix4, ix20, ix4l, ix68, ix4p, ixa0, ixa1, ixa2, ixa3, ixa4, ixa5, ixa6, ixa7, ixa8, ixa9, ixa10, ixa11, ixa12, ixa13, ixa14, ixa15, ixa16, ixa17, ixa18, ixa19, ixa20, nI_add, bd_nI, rowP]
theorem a_badLoop (hb : b ≤ 122) {r : Nat} (hr : r < 8) : ∀ (m k fuel : Nat), k + m = r → m < fuel → f_X1_lowestBadNeed_2 (hp G b P) fuel b (nI r) (nI k) = some (badF (P.2 15) (rowP P) (rowP P r 7) k m) := by
  intro m
  induction m with
  | zero =>
    intro k fuel hk hf
    obtain ⟨fuel, rfl⟩ : ∃ f, fuel = f + 1 := ⟨fuel - 1, by omega⟩
    show b_X1_lowestBadNeed_2 _ _ _ _ _ = _
    unfold b_X1_lowestBadNeed_2
    rw [if_pos (nI_le (by omega) (by omega))]
    rfl
  | succ m ih =>
    intro k fuel hk hf
    obtain ⟨fuel, rfl⟩ : ∃ f, fuel = f + 1 := ⟨fuel - 1, by omega⟩
    have ih := ih (k + 1) fuel (by omega) (by omega)
    show b_X1_lowestBadNeed_2 _ _ _ _ _ = _
    unfold b_X1_lowestBadNeed_2
    rw [if_neg (nI_ge (by omega) (by omega))]
    have hk8 : k < 8 := by omega
    simp (disch := omega) only [b_X1_lowestBadNeed_25, b_X1_lowestBadNeed_48, b_X1_lowestBadNeed_50, Option.bind_some, p_I0 hb, p_I1 hb, p_I2 hb, p_I3 hb, p_R4 hb, p_R5 hb, p_R6 hb, p_R7 hb, p_R8 hb, p_R9 hb, p_R10 hb, p_R11 hb, p_R12 hb, p_R13 hb, p_R14 hb, p_R15 hb, p_R16 hb, p_R17 hb, p_Rl hb, p_Il hb, p_v1 hb, p_v0 hb, p_a4 hb, p_a5 hb, p_a6 hb, p_a7 hb, p_a8 hb, p_a9 hb, p_a10 hb, p_a11 hb, p_a12 hb, p_a13 hb, p_a14 hb, p_a15 hb, p_a16 hb, p_a17 hb, p_s4 hb, p_s5 hb, p_s6 hb, p_s7 hb, p_s8 hb, p_s9 hb, p_s10 hb, p_s11 hb, p_s12 hb, p_s13 hb, p_s14 hb, p_s15 hb, p_s16 hb, p_s17 hb, p_P0 hb, p_P1 hb, p_P2 hb, p_P3 hb, p_Pl hb, wS_1, wS_2, wA_1, wA_2, wR_1, wR_2, bd_nI, a_flag hb hk8, nI_1, ih, badF, tb_and _ (show k < 31 by omega)]
    have e7 : P.2 5 r = rowP P r 7 := rfl
    rw [e7]
    cases h1 : tb (rowP P r 7) k with
    | false => simp
    | true =>
      by_cases h2 : P.2 15 k = 3
      · cases h3 : flgR (rowP P k) <;> simp [h2]
      · simp [h2]
theorem a_bad (hb : b ≤ 122) {r : Nat} (hr : r < 8) : f_X1_lowestBadNeed (hp G b P) b (nI r) = some (badR (P.2 15) (rowP P) r) := by
  unfold f_X1_lowestBadNeed
  exact a_badLoop hb hr r 0 FU (by omega) (by rw [FU_eq]; omega)
theorem a_restLoop (hb : b ≤ 122) {r n : Nat} (hr : r < 8) (hn : P.1 0 = nI n) (hn8 : n ≤ 8) : ∀ (m k fuel : Nat), k + m = n → m < fuel → f_X1_areUsersAtRest_4 (hp G b P) fuel b (nI r) (nI k) = some (if restF (P.2 15) (rowP P) (P.1 2) r k m = true then 1 else 0) := by
  intro m
  induction m with
  | zero =>
    intro k fuel hk hf
    obtain ⟨fuel, rfl⟩ : ∃ f, fuel = f + 1 := ⟨fuel - 1, by omega⟩
    show b_X1_areUsersAtRest_4 _ _ _ _ _ = _
    simp only [b_X1_areUsersAtRest_4, Option.bind_some, p_I0 hb, p_I1 hb, p_I2 hb, p_I3 hb, p_R4 hb, p_R5 hb, p_R6 hb, p_R7 hb, p_R8 hb, p_R9 hb, p_R10 hb, p_R11 hb, p_R12 hb, p_R13 hb, p_R14 hb, p_R15 hb, p_R16 hb, p_R17 hb, p_Rl hb, p_Il hb, p_v1 hb, p_v0 hb, p_a4 hb, p_a5 hb, p_a6 hb, p_a7 hb, p_a8 hb, p_a9 hb, p_a10 hb, p_a11 hb, p_a12 hb, p_a13 hb, p_a14 hb, p_a15 hb, p_a16 hb, p_a17 hb, p_s4 hb, p_s5 hb, p_s6 hb, p_s7 hb, p_s8 hb, p_s9 hb, p_s10 hb, p_s11 hb, p_s12 hb, p_s13 hb, p_s14 hb, p_s15 hb, p_s16 hb, p_s17 hb, p_P0 hb, p_P1 hb, p_P2 hb, p_P3 hb, p_Pl hb, wS_1, wS_2, wA_1, wA_2, wR_1, wR_2, hn]
    rw [if_pos (nI_le (by omega) (by omega))]
    rfl
  | succ m ih =>
    intro k fuel hk hf
    obtain ⟨fuel, rfl⟩ : ∃ f, fuel = f + 1 := ⟨fuel - 1, by omega⟩
    have ih := ih (k + 1) fuel (by omega) (by omega)
    show b_X1_areUsersAtRest_4 _ _ _ _ _ = _
    have hk8 : k < 8 := by omega
    simp only [b_X1_areUsersAtRest_4, Option.bind_some, p_I0 hb, p_I1 hb, p_I2 hb, p_I3 hb, p_R4 hb, p_R5 hb, p_R6 hb, p_R7 hb, p_R8 hb, p_R9 hb, p_R10 hb, p_R11 hb, p_R12 hb, p_R13 hb, p_R14 hb, p_R15 hb, p_R16 hb, p_R17 hb, p_Rl hb, p_Il hb, p_v1 hb, p_v0 hb, p_a4 hb, p_a5 hb, p_a6 hb, p_a7 hb, p_a8 hb, p_a9 hb, p_a10 hb, p_a11 hb, p_a12 hb, p_a13 hb, p_a14 hb, p_a15 hb, p_a16 hb, p_a17 hb, p_s4 hb, p_s5 hb, p_s6 hb, p_s7 hb, p_s8 hb, p_s9 hb, p_s10 hb, p_s11 hb, p_s12 hb, p_s13 hb, p_s14 hb, p_s15 hb, p_s16 hb, p_s17 hb, p_P0 hb, p_P1 hb, p_P2 hb, p_P3 hb, p_Pl hb, wS_1, wS_2, wA_1, wA_2, wR_1, wR_2, hn]
    rw [if_neg (nI_ge (by omega) (by omega))]
    have e7 : P.2 5 k = rowP P k 7 := rfl
    rw [bd_nI (by omega) (by omega)]
    simp only [Option.bind_some, tb_and _ (show r < 31 by omega), e7, restF]
    have key : ∀ s0 : Int32, b_X1_areUsersAtRest_30 (hp G b P) (f_X1_areUsersAtRest_4 (hp G b P) fuel) b (nI r) (nI k) s0 = if s0 = 0 then some (if restF (P.2 15) (rowP P) (P.1 2) r (k + 1) m = true then 1 else 0) else (if (P.2 15 k = 0 ∨ P.2 15 k = 5) ∧ ¬ P.1 2 < rowP P k 10 then some (if restF (P.2 15) (rowP P) (P.1 2) r (k + 1) m = true then 1 else 0) else some 0) := by
      intro s0
      by_cases h0 : s0 = 0
      · by_cases h2 : P.2 15 k = 0
        · simp (disch := omega) only [b_X1_areUsersAtRest_30, b_X1_areUsersAtRest_50, b_X1_areUsersAtRest_55, b_X1_areUsersAtRest_76, Option.bind_some, p_R15 hb, p_a15 hb, bd_nI, nI_1, ih, h0, h2, if_true]
        · by_cases h4 : P.2 15 k = 5
          · simp (disch := omega) only [b_X1_areUsersAtRest_30, b_X1_areUsersAtRest_50, b_X1_areUsersAtRest_55, b_X1_areUsersAtRest_76, Option.bind_some, p_R15 hb, p_a15 hb, bd_nI, nI_1, ih, h0, h2, h4, if_true, if_false, nl0_1, nl0_2, nl0_3, nl0_4, nl0_5, nl0_6, nl0_m1, nl1_0, nl1_2, nl1_3, nl1_4, nl1_5, nl1_6, nl1_m1, nl2_0, nl2_1, nl2_3, nl2_4, nl2_5, nl2_6, nl2_m1, nl3_0, nl3_1, nl3_2, nl3_4, nl3_5, nl3_6, nl3_m1, nl4_0, nl4_1, nl4_2, nl4_3, nl4_5, nl4_6, nl4_m1, nl5_0, nl5_1, nl5_2, nl5_3, nl5_4, nl5_6, nl5_m1, nl6_0, nl6_1, nl6_2, nl6_3, nl6_4, nl6_5, nl6_m1, nlm1_0, nlm1_1, nlm1_2, nlm1_3, nlm1_4, nlm1_5, nlm1_6]
          · simp (disch := omega) only [b_X1_areUsersAtRest_30, b_X1_areUsersAtRest_50, b_X1_areUsersAtRest_55, b_X1_areUsersAtRest_76, Option.bind_some, p_R15 hb, p_a15 hb, bd_nI, nI_1, ih, h0, h2, h4, if_true, if_false, nl0_1, nl0_2, nl0_3, nl0_4, nl0_5, nl0_6, nl0_m1, nl1_0, nl1_2, nl1_3, nl1_4, nl1_5, nl1_6, nl1_m1, nl2_0, nl2_1, nl2_3, nl2_4, nl2_5, nl2_6, nl2_m1, nl3_0, nl3_1, nl3_2, nl3_4, nl3_5, nl3_6, nl3_m1, nl4_0, nl4_1, nl4_2, nl4_3, nl4_5, nl4_6, nl4_m1, nl5_0, nl5_1, nl5_2, nl5_3, nl5_4, nl5_6, nl5_m1, nl6_0, nl6_1, nl6_2, nl6_3, nl6_4, nl6_5, nl6_m1, nlm1_0, nlm1_1, nlm1_2, nlm1_3, nlm1_4, nlm1_5, nlm1_6]
      · by_cases h3 : P.1 2 < rowP P k 10
        · by_cases h2 : P.2 15 k = 0
          · simp (disch := omega) only [b_X1_areUsersAtRest_30, b_X1_areUsersAtRest_50, b_X1_areUsersAtRest_55, b_X1_areUsersAtRest_76, b_X1_areUsersAtRest_74, Option.bind_some, p_R15 hb, p_a15 hb, p_v1 hb, bd_nI, nI_1, ih, a_dis hb hk8, h0, h2, h3, if_true, if_false, i01, nl0_1, nl0_2, nl0_3, nl0_4, nl0_5, nl0_6, nl0_m1, nl1_0, nl1_2, nl1_3, nl1_4, nl1_5, nl1_6, nl1_m1, nl2_0, nl2_1, nl2_3, nl2_4, nl2_5, nl2_6, nl2_m1, nl3_0, nl3_1, nl3_2, nl3_4, nl3_5, nl3_6, nl3_m1, nl4_0, nl4_1, nl4_2, nl4_3, nl4_5, nl4_6, nl4_m1, nl5_0, nl5_1, nl5_2, nl5_3, nl5_4, nl5_6, nl5_m1, nl6_0, nl6_1, nl6_2, nl6_3, nl6_4, nl6_5, nl6_m1, nlm1_0, nlm1_1, nlm1_2, nlm1_3, nlm1_4, nlm1_5, nlm1_6, not_true, and_false]
          · by_cases h4 : P.2 15 k = 5
            · simp (disch := omega) only [b_X1_areUsersAtRest_30, b_X1_areUsersAtRest_50, b_X1_areUsersAtRest_55, b_X1_areUsersAtRest_76, b_X1_areUsersAtRest_74, Option.bind_some, p_R15 hb, p_a15 hb, p_v1 hb, bd_nI, nI_1, ih, a_dis hb hk8, h0, h2, h4, h3, if_true, if_false, i01, nl0_1, nl0_2, nl0_3, nl0_4, nl0_5, nl0_6, nl0_m1, nl1_0, nl1_2, nl1_3, nl1_4, nl1_5, nl1_6, nl1_m1, nl2_0, nl2_1, nl2_3, nl2_4, nl2_5, nl2_6, nl2_m1, nl3_0, nl3_1, nl3_2, nl3_4, nl3_5, nl3_6, nl3_m1, nl4_0, nl4_1, nl4_2, nl4_3, nl4_5, nl4_6, nl4_m1, nl5_0, nl5_1, nl5_2, nl5_3, nl5_4, nl5_6, nl5_m1, nl6_0, nl6_1, nl6_2, nl6_3, nl6_4, nl6_5, nl6_m1, nlm1_0, nlm1_1, nlm1_2, nlm1_3, nlm1_4, nlm1_5, nlm1_6, not_true, and_false]
            · simp (disch := omega) only [b_X1_areUsersAtRest_30, b_X1_areUsersAtRest_50, b_X1_areUsersAtRest_55, b_X1_areUsersAtRest_76, b_X1_areUsersAtRest_74, Option.bind_some, p_R15 hb, p_a15 hb, p_v1 hb, bd_nI, nI_1, ih, a_dis hb hk8, h0, h2, h4, h3, if_true, if_false, i01, nl0_1, nl0_2, nl0_3, nl0_4, nl0_5, nl0_6, nl0_m1, nl1_0, nl1_2, nl1_3, nl1_4, nl1_5, nl1_6, nl1_m1, nl2_0, nl2_1, nl2_3, nl2_4, nl2_5, nl2_6, nl2_m1, nl3_0, nl3_1, nl3_2, nl3_4, nl3_5, nl3_6, nl3_m1, nl4_0, nl4_1, nl4_2, nl4_3, nl4_5, nl4_6, nl4_m1, nl5_0, nl5_1, nl5_2, nl5_3, nl5_4, nl5_6, nl5_m1, nl6_0, nl6_1, nl6_2, nl6_3, nl6_4, nl6_5, nl6_m1, nlm1_0, nlm1_1, nlm1_2, nlm1_3, nlm1_4, nlm1_5, nlm1_6, not_true, and_false]
        · by_cases h2 : P.2 15 k = 0
          · simp (disch := omega) only [b_X1_areUsersAtRest_30, b_X1_areUsersAtRest_50, b_X1_areUsersAtRest_55, b_X1_areUsersAtRest_76, b_X1_areUsersAtRest_74, Option.bind_some, p_R15 hb, p_a15 hb, p_v1 hb, bd_nI, nI_1, ih, a_dis hb hk8, h0, h2, h3, if_true, if_false, i01, nl0_1, nl0_2, nl0_3, nl0_4, nl0_5, nl0_6, nl0_m1, nl1_0, nl1_2, nl1_3, nl1_4, nl1_5, nl1_6, nl1_m1, nl2_0, nl2_1, nl2_3, nl2_4, nl2_5, nl2_6, nl2_m1, nl3_0, nl3_1, nl3_2, nl3_4, nl3_5, nl3_6, nl3_m1, nl4_0, nl4_1, nl4_2, nl4_3, nl4_5, nl4_6, nl4_m1, nl5_0, nl5_1, nl5_2, nl5_3, nl5_4, nl5_6, nl5_m1, nl6_0, nl6_1, nl6_2, nl6_3, nl6_4, nl6_5, nl6_m1, nlm1_0, nlm1_1, nlm1_2, nlm1_3, nlm1_4, nlm1_5, nlm1_6, not_false_eq_true, and_true, true_or]
          · by_cases h4 : P.2 15 k = 5
            · simp (disch := omega) only [b_X1_areUsersAtRest_30, b_X1_areUsersAtRest_50, b_X1_areUsersAtRest_55, b_X1_areUsersAtRest_76, b_X1_areUsersAtRest_74, Option.bind_some, p_R15 hb, p_a15 hb, p_v1 hb, bd_nI, nI_1, ih, a_dis hb hk8, h0, h2, h4, h3, if_true, if_false, i01, nl0_1, nl0_2, nl0_3, nl0_4, nl0_5, nl0_6, nl0_m1, nl1_0, nl1_2, nl1_3, nl1_4, nl1_5, nl1_6, nl1_m1, nl2_0, nl2_1, nl2_3, nl2_4, nl2_5, nl2_6, nl2_m1, nl3_0, nl3_1, nl3_2, nl3_4, nl3_5, nl3_6, nl3_m1, nl4_0, nl4_1, nl4_2, nl4_3, nl4_5, nl4_6, nl4_m1, nl5_0, nl5_1, nl5_2, nl5_3, nl5_4, nl5_6, nl5_m1, nl6_0, nl6_1, nl6_2, nl6_3, nl6_4, nl6_5, nl6_m1, nlm1_0, nlm1_1, nlm1_2, nlm1_3, nlm1_4, nlm1_5, nlm1_6, not_false_eq_true, and_true, or_true]
            · simp (disch := omega) only [b_X1_areUsersAtRest_30, b_X1_areUsersAtRest_50, b_X1_areUsersAtRest_55, b_X1_areUsersAtRest_76, b_X1_areUsersAtRest_74, Option.bind_some, p_R15 hb, p_a15 hb, p_v1 hb, bd_nI, nI_1, ih, a_dis hb hk8, h0, h2, h4, h3, if_true, if_false, i01, nl0_1, nl0_2, nl0_3, nl0_4, nl0_5, nl0_6, nl0_m1, nl1_0, nl1_2, nl1_3, nl1_4, nl1_5, nl1_6, nl1_m1, nl2_0, nl2_1, nl2_3, nl2_4, nl2_5, nl2_6, nl2_m1, nl3_0, nl3_1, nl3_2, nl3_4, nl3_5, nl3_6, nl3_m1, nl4_0, nl4_1, nl4_2, nl4_3, nl4_5, nl4_6, nl4_m1, nl5_0, nl5_1, nl5_2, nl5_3, nl5_4, nl5_6, nl5_m1, nl6_0, nl6_1, nl6_2, nl6_3, nl6_4, nl6_5, nl6_m1, nlm1_0, nlm1_1, nlm1_2, nlm1_3, nlm1_4, nlm1_5, nlm1_6, or_false, false_and]
    rw [key 0, key 1]
    by_cases hc : (P.2 15 k = 0 ∨ P.2 15 k = 5) ∧ ¬ P.1 2 < rowP P k 10
    · rcases Bool.eq_false_or_eq_true (tb (rowP P k 7) r) with h1 | h1 <;> simp [h1, hc, n10]
    · rcases Bool.eq_false_or_eq_true (tb (rowP P k 7) r) with h1 | h1 <;> simp only [h1, hc, n10, if_true, if_false, not_false_eq_true, and_self, false_and, Bool.true_eq_false, Bool.false_eq_true]
theorem a_rest (hb : b ≤ 122) {r n : Nat} (hr : r < n) (hn : P.1 0 = nI n) (hn8 : n ≤ 8) : f_X1_areUsersAtRest (hp G b P) b (nI r) = some (if restF (P.2 15) (rowP P) (P.1 2) r (r + 1) (n - (r + 1)) = true then 1 else 0) := by
  simp only [f_X1_areUsersAtRest, Option.bind_some, nI_1]
  exact a_restLoop hb (by omega) hn hn8 _ (r + 1) FU (by omega) (by rw [FU_eq]; omega)

