/-! a rail is added -/
def addR (x1 x2 x3 x4 : Int32) : Nat → Int32 := fun k => ([x1, x2, x3, 90, 2, 40, 2, x4, 0, 0, 0, 0, 0, 0, 0, -1, 0, 0, 0, 0] : List Int32).getD k 0
variable {G : GB} {b : Nat}
theorem a_add154 (hb : b ≤ 122) {P : PV} {n k : Nat} (hn : n < 8) (hk : k < 4) (fuel : Nat) : f_X1_add_154 (fuel + 1) (hp G b P) b (nI n) (nI k) = f_X1_add_154 fuel (hp G b (wA P 13 (n * 4 + k) 0)) b (nI n) (nI (k + 1)) := by
  show b_X1_add_154 _ _ _ _ _ = _
  unfold b_X1_add_154
  rw [if_neg (by rw [show (4 : Int32) = nI 4 from rfl]; exact nI_ge (by omega) (by omega))]
  simp (disch := omega) only [obs, p_I0 hb, p_I1 hb, p_I2 hb, p_I3 hb, p_R4 hb, p_R5 hb, p_R6 hb, p_R7 hb, p_R8 hb, p_R9 hb, p_R10 hb, p_R11 hb, p_R12 hb, p_R13 hb, p_R14 hb, p_R15 hb, p_R16 hb, p_R17 hb, p_Rl hb, p_Il hb, p_v1 hb, p_v0 hb, p_a4 hb, p_a5 hb, p_a6 hb, p_a7 hb, p_a8 hb, p_a9 hb, p_a10 hb, p_a11 hb, p_a12 hb, p_a13 hb, p_a14 hb, p_a15 hb, p_a16 hb, p_a17 hb, p_s4 hb, p_s5 hb, p_s6 hb, p_s7 hb, p_s8 hb, p_s9 hb, p_s10 hb, p_s11 hb, p_s12 hb, p_s13 hb, p_s14 hb, p_s15 hb, p_s16 hb, p_s17 hb, p_P0 hb, p_P1 hb, p_P2 hb, p_P3 hb, p_Pl hb, wS_1, wS_2, wA_1, wA_2, wR_1, wR_2, ix4, nI_add, bd_nI, nI_1]
theorem a_addEnd (hb : b ≤ 122) {P : PV} {n : Nat} (hn : P.1 0 = nI n) (fuel : Nat) : f_X1_add_154 (fuel + 1) (hp G b P) b (nI n) (nI 4) = some (hp G b (wS P 0 (nI (n + 1)))) := by
  show b_X1_add_154 _ _ _ _ _ = _
  unfold b_X1_add_154
  rw [if_pos (by decide)]
  simp only [obs, p_I0 hb, p_I1 hb, p_I2 hb, p_I3 hb, p_R4 hb, p_R5 hb, p_R6 hb, p_R7 hb, p_R8 hb, p_R9 hb, p_R10 hb, p_R11 hb, p_R12 hb, p_R13 hb, p_R14 hb, p_R15 hb, p_R16 hb, p_R17 hb, p_Rl hb, p_Il hb, p_v1 hb, p_v0 hb, p_a4 hb, p_a5 hb, p_a6 hb, p_a7 hb, p_a8 hb, p_a9 hb, p_a10 hb, p_a11 hb, p_a12 hb, p_a13 hb, p_a14 hb, p_a15 hb, p_a16 hb, p_a17 hb, p_s4 hb, p_s5 hb, p_s6 hb, p_s7 hb, p_s8 hb, p_s9 hb, p_s10 hb, p_s11 hb, p_s12 hb, p_s13 hb, p_s14 hb, p_s15 hb, p_s16 hb, p_s17 hb, p_P0 hb, p_P1 hb, p_P2 hb, p_P3 hb, p_Pl hb, wS_1, wS_2, wA_1, wA_2, wR_1, wR_2, hn, nI_1]
def add1 (P : PV) (n : Nat) (x1 x2 x3 x4 : Int32) : PV := wA (wA (wA (wA (wA (wA (wA (wA (wA (wA (wA (wA (wA (wA (wA P 4 (n * 7 + 0) x1) 4 (n * 7 + 1) x2) 4 (n * 7 + 2) x3) 4 (n * 7 + 3) 90) 4 (n * 7 + 4) 2) 4 (n * 7 + 5) 40) 4 (n * 7 + 6) 2) 5 n x4) 6 n 0) 7 n 0) 8 n 0) 9 n 0) 10 n 0) 11 n 0) 12 n (-1)
def add2 (P : PV) (n : Nat) (x1 x2 x3 x4 : Int32) : PV := wS (wA (wA (wA (wA (add1 P n x1 x2 x3 x4) 13 (n * 4 + 0) 0) 13 (n * 4 + 1) 0) 13 (n * 4 + 2) 0) 13 (n * 4 + 3) 0) 0 (nI (n + 1))
theorem a_add1 (hb : b ≤ 122) {P : PV} {n : Nat} (h0 : P.1 0 = nI n) (hn : n < 8) (x1 x2 x3 x4 : Int32) : f_X1_add (hp G b P) b x1 x2 x3 x4 = f_X1_add_154 FU (hp G b (add1 P n x1 x2 x3 x4)) b (nI n) 0 := by
  unfold f_X1_add
  generalize FU = F
  simp (disch := omega) only [obs, p_I0 hb, p_I1 hb, p_I2 hb, p_I3 hb, p_R4 hb, p_R5 hb, p_R6 hb, p_R7 hb, p_R8 hb, p_R9 hb, p_R10 hb, p_R11 hb, p_R12 hb, p_R13 hb, p_R14 hb, p_R15 hb, p_R16 hb, p_R17 hb, p_Rl hb, p_Il hb, p_v1 hb, p_v0 hb, p_a4 hb, p_a5 hb, p_a6 hb, p_a7 hb, p_a8 hb, p_a9 hb, p_a10 hb, p_a11 hb, p_a12 hb, p_a13 hb, p_a14 hb, p_a15 hb, p_a16 hb, p_a17 hb, p_s4 hb, p_s5 hb, p_s6 hb, p_s7 hb, p_s8 hb, p_s9 hb, p_s10 hb, p_s11 hb, p_s12 hb, p_s13 hb, p_s14 hb, p_s15 hb, p_s16 hb, p_s17 hb, p_P0 hb, p_P1 hb, p_P2 hb, p_P3 hb, p_Pl hb, wS_1, wS_2, wA_1, wA_2, wR_1, wR_2, h0, ix7, ix4, ix20, ix4l, ix68, ix4p, ixa0, ixa1, ixa2, ixa3, ixa4, ixa5, ixa6, ixa7, ixa8, ixa9, ixa10, ixa11, ixa12, ixa13, ixa14, ixa15, ixa16, ixa17, ixa18, ixa19, ixa20, nI_add, bd_nI]
  rfl
theorem a_add (hb : b ≤ 122) {P : PV} {n : Nat} (h0 : P.1 0 = nI n) (hn : n < 8) (x1 x2 x3 x4 : Int32) : f_X1_add (hp G b P) b x1 x2 x3 x4 = some (hp G b (add2 P n x1 x2 x3 x4)) := by
  have e2 : FU = 2995 + 1 + 1 + 1 + 1 + 1 := FU_eq
  have e3 : f_X1_add_154 (2995 + 1 + 1 + 1 + 1 + 1) (hp G b (add1 P n x1 x2 x3 x4)) b (nI n) (nI 0) = some (hp G b (add2 P n x1 x2 x3 x4)) := by
    generalize 2995 = w
    rw [a_add154 hb hn (by decide), a_add154 hb hn (by decide), a_add154 hb hn (by decide), a_add154 hb hn (by decide), show nI (0 + 1 + 1 + 1 + 1) = nI 4 from rfl, a_addEnd hb (by exact h0)]
    rfl
  rw [a_add1 hb h0 hn, e2]
  exact e3
theorem add_row (P : PV) (n : Nat) (x1 x2 x3 x4 : Int32) : rowP (add2 P n x1 x2 x3 x4) = setRow (rowP P) n (addR x1 x2 x3 x4) := by
  unfold add2 add1
  rw [rw_S, rw_19, rw_18, rw_17, rw_16, rw_15, rw_14, rw_13, rw_12, rw_11, rw_10, rw_9, rw_7, rw_6, rw_5, rw_4, rw_3, rw_2, rw_1, rw_0]
  simp only [sr_at, sr_sr]
  congr 1
  funext k
  match k with
  | 0 => rfl
  | 1 => rfl
  | 2 => rfl
  | 3 => rfl
  | 4 => rfl
  | 5 => rfl
  | 6 => rfl
  | 7 => rfl
  | 8 => rfl
  | 9 => rfl
  | 10 => rfl
  | 11 => rfl
  | 12 => rfl
  | 13 => rfl
  | 14 => rfl
  | 15 => rfl
  | 16 => rfl
  | 17 => rfl
  | 18 => rfl
  | 19 => rfl
  | j + 20 => simp [upd, addR, rowP]
