/-! the plant: rising, good, falling; the next state; become -/
variable {G : GB} {b : Nat} {P : PV}
theorem NS_blame (r : Nat) (s x : Int32) : NS G b P r (some (s, hp G b (wA P 12 r x))) (s, upd (rowP P r) 15 x) := ⟨_, rfl, rw_15 _ _ _, rfl, fun k h10 h11 h12 h13 => by simp only [wA_2, h12, if_false]⟩
theorem a_afterRising (hb : b ≤ 122) {r : Nat} (hr : r < 8) : NS G b P r (f_X1_afterRising (hp G b P) b (nI r)) (if tb (P.1 3) r = true then (if badR (P.2 15) (rowP P) r = -1 then (if flgR (rowP P r) = true then (3, upd (rowP P r) 15 (-1)) else (if rowP P r 13 + 1 < rowP P r 5 then (2, upd (rowP P r) 13 (rowP P r 13 + 1)) else failR r (upd (rowP P r) 13 (rowP P r 13 + 1)))) else (4, upd (rowP P r) 15 (badR (P.2 15) (rowP P) r))) else (4, upd (rowP P r) 15 (-1))) := by
  unfold f_X1_afterRising
  simp (disch := omega) only [Option.bind_some, p_I0 hb, p_I1 hb, p_I2 hb, p_I3 hb, p_R4 hb, p_R5 hb, p_R6 hb, p_R7 hb, p_R8 hb, p_R9 hb, p_R10 hb, p_R11 hb, p_R12 hb, p_R13 hb, p_R14 hb, p_R15 hb, p_R16 hb, p_R17 hb, p_Rl hb, p_Il hb, p_v1 hb, p_v0 hb, p_a4 hb, p_a5 hb, p_a6 hb, p_a7 hb, p_a8 hb, p_a9 hb, p_a10 hb, p_a11 hb, p_a12 hb, p_a13 hb, p_a14 hb, p_a15 hb, p_a16 hb, p_a17 hb, p_s4 hb, p_s5 hb, p_s6 hb, p_s7 hb, p_s8 hb, p_s9 hb, p_s10 hb, p_s11 hb, p_s12 hb, p_s13 hb, p_s14 hb, p_s15 hb, p_s16 hb, p_s17 hb, p_P0 hb, p_P1 hb, p_P2 hb, p_P3 hb, p_Pl hb, wS_1, wS_2, wA_1, wA_2, wR_1, wR_2, bd_nI, a_wanted hb hr, ite01]
  by_cases h1 : tb (P.1 3) r = true
  · simp only [h1, if_true, a_bad hb hr, Option.bind_some]
    by_cases h2 : badR (P.2 15) (rowP P) r = -1
    · simp only [h2, if_true, a_flag hb hr, Option.bind_some, ite01]
      by_cases h3 : flgR (rowP P r) = true
      · simp only [h3, if_true]
        exact NS_blame r 3 (-1)
      · simp only [h3]
        have hp5 := a_prop5 (G := G) (P := wA P 10 r (P.2 10 r + 1)) hb hr
        rw [rw_13, sr_at, upd_n (by decide)] at hp5
        simp (disch := omega) only [b_X1_afterRising_88, Option.bind_some, p_I0 hb, p_I1 hb, p_I2 hb, p_I3 hb, p_R4 hb, p_R5 hb, p_R6 hb, p_R7 hb, p_R8 hb, p_R9 hb, p_R10 hb, p_R11 hb, p_R12 hb, p_R13 hb, p_R14 hb, p_R15 hb, p_R16 hb, p_R17 hb, p_Rl hb, p_Il hb, p_v1 hb, p_v0 hb, p_a4 hb, p_a5 hb, p_a6 hb, p_a7 hb, p_a8 hb, p_a9 hb, p_a10 hb, p_a11 hb, p_a12 hb, p_a13 hb, p_a14 hb, p_a15 hb, p_a16 hb, p_a17 hb, p_s4 hb, p_s5 hb, p_s6 hb, p_s7 hb, p_s8 hb, p_s9 hb, p_s10 hb, p_s11 hb, p_s12 hb, p_s13 hb, p_s14 hb, p_s15 hb, p_s16 hb, p_s17 hb, p_P0 hb, p_P1 hb, p_P2 hb, p_P3 hb, p_Pl hb, wS_1, wS_2, wA_1, wA_2, wR_1, wR_2, bd_nI, hp5, if_true, upd_s]
        by_cases h4 : rowP P r 13 + 1 < rowP P r 5
        · have h4' : P.2 10 r + 1 < rowP P r 5 := h4
          simp only [h4, h4', if_true]
          exact ⟨_, rfl, by rw [rw_13]; rfl, rfl, fun k h10 h11 h12 h13 => by simp only [wA_2, h10, if_false]⟩
        · have h4' : ¬ P.2 10 r + 1 < rowP P r 5 := h4
          simp only [h4, h4', if_false]
          obtain ⟨P', g1, g2, g3, g4⟩ := a_afterFailure (G := G) (P := wA P 10 r (P.2 10 r + 1)) hb hr
          rw [rw_13, sr_at, sr_sr] at g2
          simp only [g1, Option.bind_some]
          rw [rw_13, sr_at]
          exact ⟨P', rfl, g2, g3, fun k h10 h11 h12 h13 => by rw [g4 k h10 h11 h12 h13]; simp only [wA_2, h10, if_false]⟩
    · simp only [h2, if_false]
      exact NS_blame r 4 _
  · simp only [h1]
    exact NS_blame r 4 (-1)
theorem a_afterGood (hb : b ≤ 122) {r n : Nat} (hr : r < n) (hn : P.1 0 = nI n) (hn8 : n ≤ 8) : NS G b P r (f_X1_afterGood (hp G b P) b (nI r)) (if badR (P.2 15) (rowP P) r = -1 then (if flgR (rowP P r) = true then (if tb (P.1 3) r = true then (3, rowP P r) else (if restF (P.2 15) (rowP P) (P.1 2) r (r + 1) (n - (r + 1)) = true then (4, upd (rowP P r) 15 (-1)) else (3, rowP P r))) else failR r (rowP P r)) else (4, upd (rowP P r) 15 (badR (P.2 15) (rowP P) r))) := by
  have hr8 : r < 8 := by omega
  unfold f_X1_afterGood
  simp (disch := omega) only [b_X1_afterGood_59, Option.bind_some, p_I0 hb, p_I1 hb, p_I2 hb, p_I3 hb, p_R4 hb, p_R5 hb, p_R6 hb, p_R7 hb, p_R8 hb, p_R9 hb, p_R10 hb, p_R11 hb, p_R12 hb, p_R13 hb, p_R14 hb, p_R15 hb, p_R16 hb, p_R17 hb, p_Rl hb, p_Il hb, p_v1 hb, p_v0 hb, p_a4 hb, p_a5 hb, p_a6 hb, p_a7 hb, p_a8 hb, p_a9 hb, p_a10 hb, p_a11 hb, p_a12 hb, p_a13 hb, p_a14 hb, p_a15 hb, p_a16 hb, p_a17 hb, p_s4 hb, p_s5 hb, p_s6 hb, p_s7 hb, p_s8 hb, p_s9 hb, p_s10 hb, p_s11 hb, p_s12 hb, p_s13 hb, p_s14 hb, p_s15 hb, p_s16 hb, p_s17 hb, p_P0 hb, p_P1 hb, p_P2 hb, p_P3 hb, p_Pl hb, wS_1, wS_2, wA_1, wA_2, wR_1, wR_2, bd_nI, a_bad hb hr8]
  by_cases h2 : badR (P.2 15) (rowP P) r = -1
  · simp only [h2, if_true, a_flag hb hr8, Option.bind_some, ite01]
    by_cases h3 : flgR (rowP P r) = true
    · simp only [h3, if_true, a_wanted hb hr8, Option.bind_some, ite01]
      by_cases h1 : tb (P.1 3) r = true
      · simp only [h1, if_true]
        exact NS_id r 3
      · simp only [h1, a_rest hb hr hn hn8, Option.bind_some, ite01]
        by_cases h5 : restF (P.2 15) (rowP P) (P.1 2) r (r + 1) (n - (r + 1)) = true
        · simp only [h5, if_true]
          exact NS_blame r 4 (-1)
        · simp only [h5]
          exact NS_id r 3
    · simp only [h3]
      obtain ⟨P', g1, g2, g3, g4⟩ := a_afterFailure (G := G) (P := P) hb hr8
      simp only [g1, Option.bind_some]
      exact ⟨P', rfl, g2, g3, g4⟩
  · simp only [h2, if_false]
    exact NS_blame r 4 _
theorem a_afterFalling (hb : b ≤ 122) {r : Nat} (hr : r < 8) : NS G b P r (f_X1_afterFalling (hp G b P) b (nI r)) (if ¬ P.1 2 < rowP P r 10 then (if tb (P.1 3) r = true then (1, upd (rowP P r) 13 0) else (0, rowP P r)) else (4, rowP P r)) := by
  unfold f_X1_afterFalling
  simp (disch := omega) only [Option.bind_some, p_I0 hb, p_I1 hb, p_I2 hb, p_I3 hb, p_R4 hb, p_R5 hb, p_R6 hb, p_R7 hb, p_R8 hb, p_R9 hb, p_R10 hb, p_R11 hb, p_R12 hb, p_R13 hb, p_R14 hb, p_R15 hb, p_R16 hb, p_R17 hb, p_Rl hb, p_Il hb, p_v1 hb, p_v0 hb, p_a4 hb, p_a5 hb, p_a6 hb, p_a7 hb, p_a8 hb, p_a9 hb, p_a10 hb, p_a11 hb, p_a12 hb, p_a13 hb, p_a14 hb, p_a15 hb, p_a16 hb, p_a17 hb, p_s4 hb, p_s5 hb, p_s6 hb, p_s7 hb, p_s8 hb, p_s9 hb, p_s10 hb, p_s11 hb, p_s12 hb, p_s13 hb, p_s14 hb, p_s15 hb, p_s16 hb, p_s17 hb, p_P0 hb, p_P1 hb, p_P2 hb, p_P3 hb, p_Pl hb, wS_1, wS_2, wA_1, wA_2, wR_1, wR_2, bd_nI, a_dis hb hr]
  by_cases h2 : P.1 2 < rowP P r 10
  · simp only [h2, if_true, not_true_eq_false, if_false]
    exact NS_id r 4
  · simp only [h2, if_false, n10, not_false_eq_true, if_true, a_wanted hb hr, Option.bind_some, ite01]
    by_cases h1 : tb (P.1 3) r = true
    · simp only [h1, if_true]
      exact ⟨_, rfl, rw_13 _ _ _, rfl, fun k h10 h11 h12 h13 => by simp only [wA_2, h10, if_false]⟩
    · simp only [h1]
      exact NS_id r 0
theorem a_nextState (hb : b ≤ 122) {r n : Nat} (hr : r < n) (hn : P.1 0 = nI n) (hn8 : n ≤ 8) : NS G b P r (f_X1_nextState (hp G b P) b (nI r)) (nsR (tb (P.1 3) r) (!decide (P.1 2 < rowP P r 10)) (flgR (rowP P r)) (restF (P.2 15) (rowP P) (P.1 2) r (r + 1) (n - (r + 1))) (badR (P.2 15) (rowP P) r) r (rowP P r)) := by
  have hr8 : r < 8 := by omega
  have e9 : rowP P r 9 = P.2 6 r := rfl
  unfold f_X1_nextState nsR
  simp (disch := omega) only [b_X1_nextState_90, b_X1_nextState_91, Option.bind_some, p_I0 hb, p_I1 hb, p_I2 hb, p_I3 hb, p_R4 hb, p_R5 hb, p_R6 hb, p_R7 hb, p_R8 hb, p_R9 hb, p_R10 hb, p_R11 hb, p_R12 hb, p_R13 hb, p_R14 hb, p_R15 hb, p_R16 hb, p_R17 hb, p_Rl hb, p_Il hb, p_v1 hb, p_v0 hb, p_a4 hb, p_a5 hb, p_a6 hb, p_a7 hb, p_a8 hb, p_a9 hb, p_a10 hb, p_a11 hb, p_a12 hb, p_a13 hb, p_a14 hb, p_a15 hb, p_a16 hb, p_a17 hb, p_s4 hb, p_s5 hb, p_s6 hb, p_s7 hb, p_s8 hb, p_s9 hb, p_s10 hb, p_s11 hb, p_s12 hb, p_s13 hb, p_s14 hb, p_s15 hb, p_s16 hb, p_s17 hb, p_P0 hb, p_P1 hb, p_P2 hb, p_P3 hb, p_Pl hb, wS_1, wS_2, wA_1, wA_2, wR_1, wR_2, bd_nI, e9, Bool.not_eq_true', decide_eq_false_iff_not]
  by_cases c0 : P.2 6 r = 0
  · simp only [c0, if_true]
    obtain ⟨P', g1, g2⟩ := a_afterOff (G := G) (P := P) hb hr8
    simp only [g1, Option.bind_some]
    exact ⟨P', rfl, g2⟩
  · simp only [c0, if_false]
    by_cases c1 : P.2 6 r = 1
    · simp only [c1, if_true]
      obtain ⟨P', g1, g2⟩ := a_afterWaiting (G := G) (P := P) hb hr8
      simp only [g1, Option.bind_some]
      exact ⟨P', rfl, g2⟩
    · simp only [c1, if_false]
      by_cases c2 : P.2 6 r = 2
      · simp only [c2, if_true]
        obtain ⟨P', g1, g2⟩ := a_afterRising (G := G) (P := P) hb hr8
        simp only [g1, Option.bind_some]
        exact ⟨P', rfl, g2⟩
      · simp only [c2, if_false]
        by_cases c3 : P.2 6 r = 3
        · simp only [c3, if_true]
          obtain ⟨P', g1, g2⟩ := a_afterGood (G := G) (P := P) hb hr hn hn8
          simp only [g1, Option.bind_some]
          exact ⟨P', rfl, g2⟩
        · simp only [c3, if_false]
          by_cases c4 : P.2 6 r = 4
          · simp only [c4, if_true]
            obtain ⟨P', g1, g2⟩ := a_afterFalling (G := G) (P := P) hb hr8
            simp only [g1, Option.bind_some]
            exact ⟨P', rfl, g2⟩
          · simp only [c4, if_false, a_wanted hb hr8, Option.bind_some, ite01]
            by_cases h1 : tb (P.1 3) r = true
            · simp only [h1, if_true]
              exact NS_id r 5
            · simp only [h1, a_dis hb hr8, Option.bind_some]
              by_cases h2 : P.1 2 < rowP P r 10
              · simp only [h2, if_true, not_true_eq_false, if_false]
                exact NS_id r 5
              · simp only [h2, if_false, n10, not_false_eq_true, if_true]
                exact NS_id r 0
/-- the log, an entry before the others -/
def logIn (f : Nat → Int32) (a c d e : Int32) : Nat → Int32 := fun i => if i = 0 then a else if i = 1 then c else if i = 2 then d else if i = 3 then e else if i < 64 then f (i - 4) else f i
theorem a_enter (hb : b ≤ 122) (x1 x2 x3 x4 : Int32) : f_X0_enter (hp G b P) (b + 11) x1 x2 x3 x4 = some (hp G b (wS (wR P 14 (logIn (P.2 14) x1 x2 x3 x4)) 4 (mmin (P.1 4 + 1) 16))) := by
  have hc := p_c14_14 (G := G) (P := P) (sp := 0) (dp := 4) (n := 60) (a := 0) (c := 4) (m := 60) hb rfl rfl rfl (by decide) (by decide)
  have l0 : ∀ {α : Type} {k : Nat → α}, bd 64 (0 : Int32) k = some (k 0) := fun {α} {k} => bd_nI (r := 0) (by decide) (by decide)
  have l1 : ∀ {α : Type} {k : Nat → α}, bd 64 (1 : Int32) k = some (k 1) := fun {α} {k} => bd_nI (r := 1) (by decide) (by decide)
  have l2 : ∀ {α : Type} {k : Nat → α}, bd 64 (2 : Int32) k = some (k 2) := fun {α} {k} => bd_nI (r := 2) (by decide) (by decide)
  have l3 : ∀ {α : Type} {k : Nat → α}, bd 64 (3 : Int32) k = some (k 3) := fun {α} {k} => bd_nI (r := 3) (by decide) (by decide)
  simp only [f_X0_enter, Option.bind_some, p_I0 hb, p_I1 hb, p_I2 hb, p_I3 hb, p_R4 hb, p_R5 hb, p_R6 hb, p_R7 hb, p_R8 hb, p_R9 hb, p_R10 hb, p_R11 hb, p_R12 hb, p_R13 hb, p_R14 hb, p_R15 hb, p_R16 hb, p_R17 hb, p_Rl hb, p_Il hb, p_v1 hb, p_v0 hb, p_a4 hb, p_a5 hb, p_a6 hb, p_a7 hb, p_a8 hb, p_a9 hb, p_a10 hb, p_a11 hb, p_a12 hb, p_a13 hb, p_a14 hb, p_a15 hb, p_a16 hb, p_a17 hb, p_s4 hb, p_s5 hb, p_s6 hb, p_s7 hb, p_s8 hb, p_s9 hb, p_s10 hb, p_s11 hb, p_s12 hb, p_s13 hb, p_s14 hb, p_s15 hb, p_s16 hb, p_s17 hb, p_P0 hb, p_P1 hb, p_P2 hb, p_P3 hb, p_Pl hb, wS_1, wS_2, wA_1, wA_2, wR_1, wR_2, hc, l0, l1, l2, l3]
  congr 2
  refine Prod.ext rfl ?_
  funext j
  simp only [wS, wA, wR]
  by_cases hj : j = 14
  · simp only [hj, if_true]
    funext i
    simp only [upd, va_cpy, logIn]
    by_cases i0 : i = 0
    · subst i0; rfl
    by_cases i1 : i = 1
    · subst i1; rfl
    by_cases i2 : i = 2
    · subst i2; rfl
    by_cases i3 : i = 3
    · subst i3; rfl
    simp only [i0, i1, i2, i3, if_false]
    by_cases h64 : i < 64
    · rw [if_pos h64, if_pos (by omega), Nat.zero_add]
    · rw [if_neg h64, if_neg (by omega)]
  · simp only [hj, if_false]

