/-! the plant: a rail's next state -/
variable {G : GB} {b : Nat} {P : PV}
def NS (G : GB) (b : Nat) (P : PV) (r : Nat) (o : Option (Int32 × MH)) (x : Int32 × (Nat → Int32)) : Prop := ∃ P', o = some (x.1, hp G b P') ∧ rowP P' = setRow (rowP P) r x.2 ∧ P'.1 = P.1 ∧ ∀ k, k ≠ 10 → k ≠ 11 → k ≠ 12 → k ≠ 13 → P'.2 k = P.2 k
theorem NS_id (r : Nat) (s : Int32) : NS G b P r (some (s, hp G b P)) (s, rowP P r) := ⟨P, rfl, (sr_self _ _).symm, rfl, fun _ _ _ _ _ => rfl⟩
theorem a_afterOff (hb : b ≤ 122) {r : Nat} (hr : r < 8) : NS G b P r (f_X1_afterOff (hp G b P) b (nI r)) (if tb (P.1 3) r = true then (1, upd (upd (rowP P r) 13 0) 14 0) else (0, rowP P r)) := by
  simp (disch := omega) only [f_X1_afterOff, Option.bind_some, p_I0 hb, p_I1 hb, p_I2 hb, p_I3 hb, p_R4 hb, p_R5 hb, p_R6 hb, p_R7 hb, p_R8 hb, p_R9 hb, p_R10 hb, p_R11 hb, p_R12 hb, p_R13 hb, p_R14 hb, p_R15 hb, p_R16 hb, p_R17 hb, p_Rl hb, p_Il hb, p_v1 hb, p_v0 hb, p_a4 hb, p_a5 hb, p_a6 hb, p_a7 hb, p_a8 hb, p_a9 hb, p_a10 hb, p_a11 hb, p_a12 hb, p_a13 hb, p_a14 hb, p_a15 hb, p_a16 hb, p_a17 hb, p_s4 hb, p_s5 hb, p_s6 hb, p_s7 hb, p_s8 hb, p_s9 hb, p_s10 hb, p_s11 hb, p_s12 hb, p_s13 hb, p_s14 hb, p_s15 hb, p_s16 hb, p_s17 hb, p_P0 hb, p_P1 hb, p_P2 hb, p_P3 hb, p_Pl hb, wS_1, wS_2, wA_1, wA_2, wR_1, wR_2, bd_nI, a_wanted hb hr, ite01]
  by_cases h1 : tb (P.1 3) r = true
  · simp only [h1, if_true]
    exact ⟨_, rfl, by rw [rw_14, rw_13]; simp only [sr_at, sr_sr], rfl, fun k h10 h11 h12 h13 => by simp only [wA_2, h10, h11, h12, h13, if_false]⟩
  · simp only [h1]
    exact NS_id r 0
theorem a_afterWaiting (hb : b ≤ 122) {r : Nat} (hr : r < 8) : NS G b P r (f_X1_afterWaiting (hp G b P) b (nI r)) (if tb (P.1 3) r = true then (if ¬ P.1 2 < rowP P r 10 then (if badR (P.2 15) (rowP P) r = -1 then (if rowP P r 4 < rowP P r 13 + 1 then (2, upd (upd (rowP P r) 13 (rowP P r 13 + 1)) 13 0) else (1, upd (rowP P r) 13 (rowP P r 13 + 1))) else (1, upd (rowP P r) 13 0)) else (1, upd (rowP P r) 13 0)) else (0, rowP P r)) := by
  have e27 : b_X1_afterWaiting_27 (hp G b P) b (nI r) = some (1, hp G b (wA P 10 r 0)) := by
    simp (disch := omega) only [b_X1_afterWaiting_27, Option.bind_some, p_I0 hb, p_I1 hb, p_I2 hb, p_I3 hb, p_R4 hb, p_R5 hb, p_R6 hb, p_R7 hb, p_R8 hb, p_R9 hb, p_R10 hb, p_R11 hb, p_R12 hb, p_R13 hb, p_R14 hb, p_R15 hb, p_R16 hb, p_R17 hb, p_Rl hb, p_Il hb, p_v1 hb, p_v0 hb, p_a4 hb, p_a5 hb, p_a6 hb, p_a7 hb, p_a8 hb, p_a9 hb, p_a10 hb, p_a11 hb, p_a12 hb, p_a13 hb, p_a14 hb, p_a15 hb, p_a16 hb, p_a17 hb, p_s4 hb, p_s5 hb, p_s6 hb, p_s7 hb, p_s8 hb, p_s9 hb, p_s10 hb, p_s11 hb, p_s12 hb, p_s13 hb, p_s14 hb, p_s15 hb, p_s16 hb, p_s17 hb, p_P0 hb, p_P1 hb, p_P2 hb, p_P3 hb, p_Pl hb, wS_1, wS_2, wA_1, wA_2, wR_1, wR_2, bd_nI]
  have q0 : NS G b P r (some (1, hp G b (wA P 10 r 0))) (1, upd (rowP P r) 13 0) := ⟨_, rfl, rw_13 _ _ _, rfl, fun k h10 h11 h12 h13 => by simp only [wA_2, h10, if_false]⟩
  unfold f_X1_afterWaiting
  simp only [Option.bind_some, p_I0 hb, p_I1 hb, p_I2 hb, p_I3 hb, p_R4 hb, p_R5 hb, p_R6 hb, p_R7 hb, p_R8 hb, p_R9 hb, p_R10 hb, p_R11 hb, p_R12 hb, p_R13 hb, p_R14 hb, p_R15 hb, p_R16 hb, p_R17 hb, p_Rl hb, p_Il hb, p_v1 hb, p_v0 hb, p_a4 hb, p_a5 hb, p_a6 hb, p_a7 hb, p_a8 hb, p_a9 hb, p_a10 hb, p_a11 hb, p_a12 hb, p_a13 hb, p_a14 hb, p_a15 hb, p_a16 hb, p_a17 hb, p_s4 hb, p_s5 hb, p_s6 hb, p_s7 hb, p_s8 hb, p_s9 hb, p_s10 hb, p_s11 hb, p_s12 hb, p_s13 hb, p_s14 hb, p_s15 hb, p_s16 hb, p_s17 hb, p_P0 hb, p_P1 hb, p_P2 hb, p_P3 hb, p_Pl hb, wS_1, wS_2, wA_1, wA_2, wR_1, wR_2, a_wanted hb hr, ite01]
  by_cases h1 : tb (P.1 3) r = true
  · simp only [h1, if_true, a_dis hb hr, Option.bind_some]
    by_cases h2 : P.1 2 < rowP P r 10
    · simp only [h2, if_true, e27, not_true_eq_false, if_false]
      exact q0
    · simp only [h2, if_false, n10, not_false_eq_true, if_true, a_bad hb hr, Option.bind_some, Option.bind_some, p_I0 hb, p_I1 hb, p_I2 hb, p_I3 hb, p_R4 hb, p_R5 hb, p_R6 hb, p_R7 hb, p_R8 hb, p_R9 hb, p_R10 hb, p_R11 hb, p_R12 hb, p_R13 hb, p_R14 hb, p_R15 hb, p_R16 hb, p_R17 hb, p_Rl hb, p_Il hb, p_v1 hb, p_v0 hb, p_a4 hb, p_a5 hb, p_a6 hb, p_a7 hb, p_a8 hb, p_a9 hb, p_a10 hb, p_a11 hb, p_a12 hb, p_a13 hb, p_a14 hb, p_a15 hb, p_a16 hb, p_a17 hb, p_s4 hb, p_s5 hb, p_s6 hb, p_s7 hb, p_s8 hb, p_s9 hb, p_s10 hb, p_s11 hb, p_s12 hb, p_s13 hb, p_s14 hb, p_s15 hb, p_s16 hb, p_s17 hb, p_P0 hb, p_P1 hb, p_P2 hb, p_P3 hb, p_Pl hb, wS_1, wS_2, wA_1, wA_2, wR_1, wR_2]
      by_cases h3 : badR (P.2 15) (rowP P) r = -1
      · simp only [h3, if_true]
        have hp4 := a_prop4 (G := G) (P := wA P 10 r (P.2 10 r + 1)) hb hr
        rw [rw_13, sr_at, upd_n (by decide)] at hp4
        simp (disch := omega) only [Option.bind_some, p_I0 hb, p_I1 hb, p_I2 hb, p_I3 hb, p_R4 hb, p_R5 hb, p_R6 hb, p_R7 hb, p_R8 hb, p_R9 hb, p_R10 hb, p_R11 hb, p_R12 hb, p_R13 hb, p_R14 hb, p_R15 hb, p_R16 hb, p_R17 hb, p_Rl hb, p_Il hb, p_v1 hb, p_v0 hb, p_a4 hb, p_a5 hb, p_a6 hb, p_a7 hb, p_a8 hb, p_a9 hb, p_a10 hb, p_a11 hb, p_a12 hb, p_a13 hb, p_a14 hb, p_a15 hb, p_a16 hb, p_a17 hb, p_s4 hb, p_s5 hb, p_s6 hb, p_s7 hb, p_s8 hb, p_s9 hb, p_s10 hb, p_s11 hb, p_s12 hb, p_s13 hb, p_s14 hb, p_s15 hb, p_s16 hb, p_s17 hb, p_P0 hb, p_P1 hb, p_P2 hb, p_P3 hb, p_Pl hb, wS_1, wS_2, wA_1, wA_2, wR_1, wR_2, bd_nI, hp4, if_true, upd_s]
        by_cases h4 : rowP P r 4 < rowP P r 13 + 1
        · have h4' : rowP P r 4 < P.2 10 r + 1 := h4
          simp only [h4, h4', if_true]
          exact ⟨_, rfl, by rw [rw_13, rw_13]; simp only [sr_at, sr_sr]; rfl, rfl, fun k h10 h11 h12 h13 => by simp only [wA_2, h10, if_false]⟩
        · have h4' : ¬ rowP P r 4 < P.2 10 r + 1 := h4
          simp only [h4, h4', if_false]
          exact ⟨_, rfl, by rw [rw_13]; rfl, rfl, fun k h10 h11 h12 h13 => by simp only [wA_2, h10, if_false]⟩
      · simp only [h3, if_false, e27]
        exact q0
  · simp only [h1]
    exact NS_id r 0
theorem a_afterFailure (hb : b ≤ 122) {r : Nat} (hr : r < 8) : NS G b P r (f_X1_afterFailure (hp G b P) b (nI r)) (failR r (rowP P r)) := by
  have hp6 := a_prop6 (G := G) (P := wA (wA (wA P 12 r (nI r)) 11 r (P.2 11 r + 1)) 13 (r * 4 + 2) (P.2 13 (r * 4 + 2) + 1)) hb hr
  rw [rw_18, rw_14, rw_15] at hp6
  simp only [sr_at, sr_sr, upd_n (show (6 : Nat) ≠ 18 by decide), upd_n (show (6 : Nat) ≠ 14 by decide), upd_n (show (6 : Nat) ≠ 15 by decide)] at hp6
  unfold failR
  simp (disch := omega) only [f_X1_afterFailure, b_X1_afterFailure_52, Option.bind_some, p_I0 hb, p_I1 hb, p_I2 hb, p_I3 hb, p_R4 hb, p_R5 hb, p_R6 hb, p_R7 hb, p_R8 hb, p_R9 hb, p_R10 hb, p_R11 hb, p_R12 hb, p_R13 hb, p_R14 hb, p_R15 hb, p_R16 hb, p_R17 hb, p_Rl hb, p_Il hb, p_v1 hb, p_v0 hb, p_a4 hb, p_a5 hb, p_a6 hb, p_a7 hb, p_a8 hb, p_a9 hb, p_a10 hb, p_a11 hb, p_a12 hb, p_a13 hb, p_a14 hb, p_a15 hb, p_a16 hb, p_a17 hb, p_s4 hb, p_s5 hb, p_s6 hb, p_s7 hb, p_s8 hb, p_s9 hb, p_s10 hb, p_s11 hb, p_s12 hb, p_s13 hb, p_s14 hb, p_s15 hb, p_s16 hb, p_s17 hb, p_P0 hb, p_P1 hb, p_P2 hb, p_P3 hb, p_Pl hb, wS_1, wS_2, wA_1, wA_2, wR_1, wR_2, ix7, ix4, ix20, ix4l, ix68, ix4p, ixa0, ixa1, ixa2, ixa3, ixa4, ixa5, ixa6, ixa7, ixa8, ixa9, ixa10, ixa11, ixa12, ixa13, ixa14, ixa15, ixa16, ixa17, ixa18, ixa19, ixa20, nI_add, bd_nI, hp6, if_true, if_false, upd_s, Nat.reduceEqDiff]
  have hrow : rowP (wA (wA (wA P 12 r (nI r)) 11 r (P.2 11 r + 1)) 13 (r * 4 + 2) (P.2 13 (r * 4 + 2) + 1)) = setRow (rowP P) r (upd (upd (upd (rowP P r) 15 (nI r)) 14 (rowP P r 14 + 1)) 18 (rowP P r 18 + 1)) := by
    rw [rw_18, rw_14, rw_15]
    simp only [sr_at, sr_sr]
    rfl
  by_cases h4 : rowP P r 14 + 1 < rowP P r 6
  · have h4' : P.2 11 r + 1 < rowP P r 6 := h4
    simp only [h4, h4', if_true]
    exact ⟨_, rfl, hrow, rfl, fun k h10 h11 h12 h13 => by simp only [wA_2, h11, h12, h13, if_false]⟩
  · have h4' : ¬ P.2 11 r + 1 < rowP P r 6 := h4
    simp only [h4, h4', if_false]
    exact ⟨_, rfl, hrow, rfl, fun k h10 h11 h12 h13 => by simp only [wA_2, h11, h12, h13, if_false]⟩

