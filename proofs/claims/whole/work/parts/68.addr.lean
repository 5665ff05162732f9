/-! a rail is added -/
def addR (x1 x2 x3 x4 : Int32) : Nat → Int32 := fun k => ([x1, x2, x3, 90, 2, 40, 2, x4, 0, 0, 0, 0, 0, 0, 0, -1, 0, 0, 0, 0] : List Int32).getD k 0
variable {G : Nat → MC} {b : Nat}
theorem a_add154 (hb : b ≤ 125) {P : PV} {n k : Nat} (hn : n < 8) (hk : k < 4) (fuel : Nat) : f_X1_add_154 (fuel + 1) (hp G b P) b (nI n) (nI k) = f_X1_add_154 fuel (hp G b (wA P 13 (n * 4 + k) 0)) b (nI n) (nI (k + 1)) := by
  show b_X1_add_154 _ _ _ _ _ = _
  unfold b_X1_add_154
  rw [if_neg (by rw [show (4 : Int32) = nI 4 from rfl]; exact nI_ge (by omega) (by omega))]
  simp (disch := omega) only [obs, p_I0 hb, p_I1 hb, p_I2 hb, p_I3 hb, p_R4 hb, p_R5 hb, p_R6 hb, p_R7 hb, p_R8 hb, p_R9 hb, p_R10 hb, p_R11 hb, p_R12 hb, p_R13 hb, p_R14 hb, p_R15 hb, p_R16 hb, p_R17 hb, p_Rl hb, p_Il hb, p_v1 hb, p_v0 hb, p_a4 hb, p_a5 hb, p_a6 hb, p_a7 hb, p_a8 hb, p_a9 hb, p_a10 hb, p_a11 hb, p_a12 hb, p_a13 hb, p_a14 hb, p_a15 hb, p_a16 hb, p_a17 hb, p_s4 hb, p_s5 hb, p_s6 hb, p_s7 hb, p_s8 hb, p_s9 hb, p_s10 hb, p_s11 hb, p_s12 hb, p_s13 hb, p_s14 hb, p_s15 hb, p_s16 hb, p_s17 hb, p_P0 hb, p_P1 hb, p_P2 hb, p_P3 hb, p_Pl hb, wS_1, wS_2, wA_1, wA_2, wR_1, wR_2, ix4, nI_add, bd_nI, nI_1]
theorem a_addEnd (hb : b ≤ 125) {P : PV} {n : Nat} (hn : P.1 0 = nI n) (fuel : Nat) : f_X1_add_154 (fuel + 1) (hp G b P) b (nI n) (nI 4) = some (hp G b (wS P 0 (nI (n + 1)))) := by
  show b_X1_add_154 _ _ _ _ _ = _
  unfold b_X1_add_154
  rw [if_pos (by decide)]
  simp only [obs, p_I0 hb, p_I1 hb, p_I2 hb, p_I3 hb, p_R4 hb, p_R5 hb, p_R6 hb, p_R7 hb, p_R8 hb, p_R9 hb, p_R10 hb, p_R11 hb, p_R12 hb, p_R13 hb, p_R14 hb, p_R15 hb, p_R16 hb, p_R17 hb, p_Rl hb, p_Il hb, p_v1 hb, p_v0 hb, p_a4 hb, p_a5 hb, p_a6 hb, p_a7 hb, p_a8 hb, p_a9 hb, p_a10 hb, p_a11 hb, p_a12 hb, p_a13 hb, p_a14 hb, p_a15 hb, p_a16 hb, p_a17 hb, p_s4 hb, p_s5 hb, p_s6 hb, p_s7 hb, p_s8 hb, p_s9 hb, p_s10 hb, p_s11 hb, p_s12 hb, p_s13 hb, p_s14 hb, p_s15 hb, p_s16 hb, p_s17 hb, p_P0 hb, p_P1 hb, p_P2 hb, p_P3 hb, p_Pl hb, wS_1, wS_2, wA_1, wA_2, wR_1, wR_2, hn, nI_1]
def add1 (P : PV) (n : Nat) (x1 x2 x3 x4 : Int32) : PV := wA (wA (wA (wA (wA (wA (wA (wA (wA (wA (wA (wA (wA (wA (wA P 4 (n * 7 + 0) x1) 4 (n * 7 + 1) x2) 4 (n * 7 + 2) x3) 4 (n * 7 + 3) 90) 4 (n * 7 + 4) 2) 4 (n * 7 + 5) 40) 4 (n * 7 + 6) 2) 5 n x4) 6 n 0) 7 n 0) 8 n 0) 9 n 0) 10 n 0) 11 n 0) 12 n (-1)
def add2 (P : PV) (n : Nat) (x1 x2 x3 x4 : Int32) : PV := wS (wA (wA (wA (wA (add1 P n x1 x2 x3 x4) 13 (n * 4 + 0) 0) 13 (n * 4 + 1) 0) 13 (n * 4 + 2) 0) 13 (n * 4 + 3) 0) 0 (nI (n + 1))
theorem a_add1 (hb : b ≤ 125) {P : PV} {n : Nat} (h0 : P.1 0 = nI n) (hn : n < 8) (x1 x2 x3 x4 : Int32) : f_X1_add (hp G b P) b x1 x2 x3 x4 = f_X1_add_154 FU (hp G b (add1 P n x1 x2 x3 x4)) b (nI n) 0 := by
  unfold f_X1_add
  generalize FU = F
  simp (disch := omega) only [obs, p_I0 hb, p_I1 hb, p_I2 hb, p_I3 hb, p_R4 hb, p_R5 hb, p_R6 hb, p_R7 hb, p_R8 hb, p_R9 hb, p_R10 hb, p_R11 hb, p_R12 hb, p_R13 hb, p_R14 hb, p_R15 hb, p_R16 hb, p_R17 hb, p_Rl hb, p_Il hb, p_v1 hb, p_v0 hb, p_a4 hb, p_a5 hb, p_a6 hb, p_a7 hb, p_a8 hb, p_a9 hb, p_a10 hb, p_a11 hb, p_a12 hb, p_a13 hb, p_a14 hb, p_a15 hb, p_a16 hb, p_a17 hb, p_s4 hb, p_s5 hb, p_s6 hb, p_s7 hb, p_s8 hb, p_s9 hb, p_s10 hb, p_s11 hb, p_s12 hb, p_s13 hb, p_s14 hb, p_s15 hb, p_s16 hb, p_s17 hb, p_P0 hb, p_P1 hb, p_P2 hb, p_P3 hb, p_Pl hb, wS_1, wS_2, wA_1, wA_2, wR_1, wR_2, h0, ix7, ix4, ix20, ix4l, ix68, ix4p, ixa0, ixa1, ixa2, ixa3, ixa4, ixa5, ixa6, ixa7, ixa8, ixa9, ixa10, ixa11, ixa12, ixa13, ixa14, ixa15, ixa16, ixa17, ixa18, ixa19, ixa20, nI_add, bd_nI]
  rfl
theorem a_add (hb : b ≤ 125) {P : PV} {n : Nat} (h0 : P.1 0 = nI n) (hn : n < 8) (x1 x2 x3 x4 : Int32) : f_X1_add (hp G b P) b x1 x2 x3 x4 = some (hp G b (add2 P n x1 x2 x3 x4)) := by
  have e2 : FU = 2995 + 1 + 1 + 1 + 1 + 1 := FU_eq
  have e3 : f_X1_add_154 (2995 + 1 + 1 + 1 + 1 + 1) (hp G b (add1 P n x1 x2 x3 x4)) b (nI n) (nI 0) = some (hp G b (add2 P n x1 x2 x3 x4)) := by
    generalize 2995 = w
    rw [a_add154 hb hn (by decide), a_add154 hb hn (by decide), a_add154 hb hn (by decide), a_add154 hb hn (by decide), show nI (0 + 1 + 1 + 1 + 1) = nI 4 from rfl, a_addEnd hb (by exact h0)]
    rfl
  rw [a_add1 hb h0 hn, e2]
  exact e3
theorem add_row (P : PV) (n : Nat) (x1 x2 x3 x4 : Int32) : rowP (add2 P n x1 x2 x3 x4) = setRow (rowP P) n (addR x1 x2 x3 x4) := by
  unfold add2 add1
  rw [rw_S, rw_19, rw_18, rw_17, rw_16, rw_15, rw_14, rw_13, rw_12, rw_11, rw_10, rw_9, rw_7, rw_6, rw_5, rw_4, rw_3, rw_2, rw_1, rw_0]
  simp only [sr_at, sr_sr]
  congr 1
  funext k
  match k with
  | 0 => rfl
  | 1 => rfl
  | 2 => rfl
  | 3 => rfl
  | 4 => rfl
  | 5 => rfl
  | 6 => rfl
  | 7 => rfl
  | 8 => rfl
  | 9 => rfl
  | 10 => rfl
  | 11 => rfl
  | 12 => rfl
  | 13 => rfl
  | 14 => rfl
  | 15 => rfl
  | 16 => rfl
  | 17 => rfl
  | 18 => rfl
  | 19 => rfl
  | j + 20 => simp [upd, addR, rowP]
def zeZ (z : Nat → Int32) (n k : Nat) : Nat → Int32 := fun i => if 68 + 20 * n ≤ i ∧ i < 68 + 20 * n + k then 0 else z i
theorem ze_step (z : Nat → Int32) (n k : Nat) : upd (zeZ z n k) (68 + 20 * n + k) 0 = zeZ z n (k + 1) := by
  funext i
  unfold upd zeZ
  by_cases h : i = 68 + 20 * n + k
  · rw [if_pos h, if_pos (by omega)]
  · rw [if_neg h]
    by_cases h2 : 68 + 20 * n ≤ i ∧ i < 68 + 20 * n + k
    · rw [if_pos h2, if_pos (by omega)]
    · rw [if_neg h2, if_neg (by omega)]
def brZ (z : Nat → Int32) (n : Nat) (x1 x2 x3 x4 : Int32) : Nat → Int32 := fun i => if i = 0 then nI (n + 1) else if 68 + 20 * n ≤ i ∧ i < 68 + 20 * n + 20 then addR x1 x2 x3 x4 (i - (68 + 20 * n)) else z i
theorem br_in (z : Nat → Int32) (n : Nat) (x1 x2 x3 x4 : Int32) {k : Nat} (hk : k < 20) : brZ z n x1 x2 x3 x4 (68 + 20 * n + k) = addR x1 x2 x3 x4 k := by
  unfold brZ
  rw [if_neg (by omega), if_pos (by omega)]
  exact congrArg _ (by omega)
theorem ze_in {z : Nat → Int32} {n k i : Nat} (h1 : 68 + 20 * n ≤ i) (h2 : i < 68 + 20 * n + k) : zeZ z n k i = 0 := if_pos ⟨h1, h2⟩
theorem z_bringEnd (hb : b ≤ 134) {M : MV} {z : Nat → Int32} {r : Nat} (hr : r < 8) (hz : z 0 = nI r) (x1 x2 x3 x4 : Int32) (fuel : Nat) : f_X4_bring_11 (fuel + 1) (hm G b (wZ M (zeZ z r 20))) b x1 x2 x3 x4 (nI r) (nI 20) = some (hm G b (wZ M (brZ z r x1 x2 x3 x4))) := by
  show b_X4_bring_11 _ _ _ _ _ _ _ _ _ = _
  unfold b_X4_bring_11
  rw [if_pos (by decide)]
  have hn := hr
  simp only [obs, b228_0, b228_1, b228_2, b228_3, m_v hb, m_R1 hb, m_R8 hb, m_a1 hb, m_a8 hb, m_of0 hb hr, m_of1 hb hr, m_of2 hb hr, m_of3 hb hr, m_of4 hb hr, m_of5 hb hr, m_of6 hb hr, m_of7 hb hr, m_of8 hb hr, m_of9 hb hr, m_of10 hb hr, m_of11 hb hr, m_of12 hb hr, m_of13 hb hr, m_of14 hb hr, m_of15 hb hr, m_of16 hb hr, m_of17 hb hr, m_of18 hb hr, m_of19 hb hr, m_lay0 hb hr, m_lay1 hb hr, m_lay2 hb hr, m_lay3 hb hr, m_lay4 hb hr, m_lay5 hb hr, m_lay6 hb hr, m_lay7 hb hr, m_lay8 hb hr, m_lay9 hb hr, m_lay10 hb hr, m_lay11 hb hr, m_lay12 hb hr, m_lay13 hb hr, m_lay14 hb hr, m_lay15 hb hr, m_lay16 hb hr, m_lay17 hb hr, m_lay18 hb hr, m_lay19 hb hr, m_add13 hb hr, m_add14 hb hr, m_add16 hb hr, m_add17 hb hr, m_add18 hb hr, m_add19 hb hr, wZ_1, wZ_z, wZ_8, wZ_wZ, m_s1 hb, mA_wZ]
  refine congrArg some (congrArg (hm G b) (congrArg (wZ M) (funext fun i => ?_)))
  by_cases h0 : i = 0
  · subst h0
    rw [upd_s, upd_n (by omega), upd_n (by omega), upd_n (by omega), upd_n (by omega), upd_n (by omega), upd_n (by omega), upd_n (by omega), upd_n (by omega), upd_n (by omega)]
    rw [show zeZ z r 20 0 = z 0 from if_neg (by omega), hz, nI_1]
    rfl
  by_cases hi : 68 + 20 * r ≤ i ∧ i < 68 + 20 * r + 20
  · obtain ⟨k, hk, rfl⟩ : ∃ k, k < 20 ∧ i = 68 + 20 * r + k := ⟨i - (68 + 20 * r), by omega, by omega⟩
    match k, hk with
    | 0, _ =>
      rw [show brZ z r x1 x2 x3 x4 (68 + 20 * r + 0) = addR x1 x2 x3 x4 0 from br_in z r x1 x2 x3 x4 (by decide)]
      simp (disch := omega) only [upd_s, upd_n, ze_in]
      rfl
    | 1, _ =>
      rw [show brZ z r x1 x2 x3 x4 (68 + 20 * r + 1) = addR x1 x2 x3 x4 1 from br_in z r x1 x2 x3 x4 (by decide)]
      simp (disch := omega) only [upd_s, upd_n, ze_in]
      rfl
    | 2, _ =>
      rw [show brZ z r x1 x2 x3 x4 (68 + 20 * r + 2) = addR x1 x2 x3 x4 2 from br_in z r x1 x2 x3 x4 (by decide)]
      simp (disch := omega) only [upd_s, upd_n, ze_in]
      rfl
    | 3, _ =>
      rw [show brZ z r x1 x2 x3 x4 (68 + 20 * r + 3) = addR x1 x2 x3 x4 3 from br_in z r x1 x2 x3 x4 (by decide)]
      simp (disch := omega) only [upd_s, upd_n, ze_in]
      rfl
    | 4, _ =>
      rw [show brZ z r x1 x2 x3 x4 (68 + 20 * r + 4) = addR x1 x2 x3 x4 4 from br_in z r x1 x2 x3 x4 (by decide)]
      simp (disch := omega) only [upd_s, upd_n, ze_in]
      rfl
    | 5, _ =>
      rw [show brZ z r x1 x2 x3 x4 (68 + 20 * r + 5) = addR x1 x2 x3 x4 5 from br_in z r x1 x2 x3 x4 (by decide)]
      simp (disch := omega) only [upd_s, upd_n, ze_in]
      rfl
    | 6, _ =>
      rw [show brZ z r x1 x2 x3 x4 (68 + 20 * r + 6) = addR x1 x2 x3 x4 6 from br_in z r x1 x2 x3 x4 (by decide)]
      simp (disch := omega) only [upd_s, upd_n, ze_in]
      rfl
    | 7, _ =>
      rw [show brZ z r x1 x2 x3 x4 (68 + 20 * r + 7) = addR x1 x2 x3 x4 7 from br_in z r x1 x2 x3 x4 (by decide)]
      simp (disch := omega) only [upd_s, upd_n, ze_in]
      rfl
    | 8, _ =>
      rw [show brZ z r x1 x2 x3 x4 (68 + 20 * r + 8) = addR x1 x2 x3 x4 8 from br_in z r x1 x2 x3 x4 (by decide)]
      simp (disch := omega) only [upd_s, upd_n, ze_in]
      rfl
    | 9, _ =>
      rw [show brZ z r x1 x2 x3 x4 (68 + 20 * r + 9) = addR x1 x2 x3 x4 9 from br_in z r x1 x2 x3 x4 (by decide)]
      simp (disch := omega) only [upd_s, upd_n, ze_in]
      rfl
    | 10, _ =>
      rw [show brZ z r x1 x2 x3 x4 (68 + 20 * r + 10) = addR x1 x2 x3 x4 10 from br_in z r x1 x2 x3 x4 (by decide)]
      simp (disch := omega) only [upd_s, upd_n, ze_in]
      rfl
    | 11, _ =>
      rw [show brZ z r x1 x2 x3 x4 (68 + 20 * r + 11) = addR x1 x2 x3 x4 11 from br_in z r x1 x2 x3 x4 (by decide)]
      simp (disch := omega) only [upd_s, upd_n, ze_in]
      rfl
    | 12, _ =>
      rw [show brZ z r x1 x2 x3 x4 (68 + 20 * r + 12) = addR x1 x2 x3 x4 12 from br_in z r x1 x2 x3 x4 (by decide)]
      simp (disch := omega) only [upd_s, upd_n, ze_in]
      rfl
    | 13, _ =>
      rw [show brZ z r x1 x2 x3 x4 (68 + 20 * r + 13) = addR x1 x2 x3 x4 13 from br_in z r x1 x2 x3 x4 (by decide)]
      simp (disch := omega) only [upd_s, upd_n, ze_in]
      rfl
    | 14, _ =>
      rw [show brZ z r x1 x2 x3 x4 (68 + 20 * r + 14) = addR x1 x2 x3 x4 14 from br_in z r x1 x2 x3 x4 (by decide)]
      simp (disch := omega) only [upd_s, upd_n, ze_in]
      rfl
    | 15, _ =>
      rw [show brZ z r x1 x2 x3 x4 (68 + 20 * r + 15) = addR x1 x2 x3 x4 15 from br_in z r x1 x2 x3 x4 (by decide)]
      simp (disch := omega) only [upd_s, upd_n, ze_in]
      rfl
    | 16, _ =>
      rw [show brZ z r x1 x2 x3 x4 (68 + 20 * r + 16) = addR x1 x2 x3 x4 16 from br_in z r x1 x2 x3 x4 (by decide)]
      simp (disch := omega) only [upd_s, upd_n, ze_in]
      rfl
    | 17, _ =>
      rw [show brZ z r x1 x2 x3 x4 (68 + 20 * r + 17) = addR x1 x2 x3 x4 17 from br_in z r x1 x2 x3 x4 (by decide)]
      simp (disch := omega) only [upd_s, upd_n, ze_in]
      rfl
    | 18, _ =>
      rw [show brZ z r x1 x2 x3 x4 (68 + 20 * r + 18) = addR x1 x2 x3 x4 18 from br_in z r x1 x2 x3 x4 (by decide)]
      simp (disch := omega) only [upd_s, upd_n, ze_in]
      rfl
    | 19, _ =>
      rw [show brZ z r x1 x2 x3 x4 (68 + 20 * r + 19) = addR x1 x2 x3 x4 19 from br_in z r x1 x2 x3 x4 (by decide)]
      simp (disch := omega) only [upd_s, upd_n, ze_in]
      rfl
    | q + 20, h => exact absurd h (by omega)
  · rw [upd_n h0, upd_n (by omega), upd_n (by omega), upd_n (by omega), upd_n (by omega), upd_n (by omega), upd_n (by omega), upd_n (by omega), upd_n (by omega), upd_n (by omega)]
    unfold zeZ brZ
    rw [if_neg hi, if_neg h0, if_neg hi]
theorem z_bringLoop (hb : b ≤ 134) {M : MV} {z : Nat → Int32} {r : Nat} (hr : r < 8) (hz : z 0 = nI r) (x1 x2 x3 x4 : Int32) : ∀ (m k fuel : Nat), k + m = 20 → m < fuel → f_X4_bring_11 fuel (hm G b (wZ M (zeZ z r k))) b x1 x2 x3 x4 (nI r) (nI k) = some (hm G b (wZ M (brZ z r x1 x2 x3 x4))) := by
  intro m
  induction m with
  | zero =>
    intro k fuel hk hf
    obtain ⟨fuel, rfl⟩ : ∃ f, fuel = f + 1 := ⟨fuel - 1, by omega⟩
    obtain rfl : k = 20 := by omega
    exact z_bringEnd hb hr hz x1 x2 x3 x4 fuel
  | succ m ih =>
    intro k fuel hk hf
    obtain ⟨fuel, rfl⟩ : ∃ f, fuel = f + 1 := ⟨fuel - 1, by omega⟩
    show b_X4_bring_11 _ _ _ _ _ _ _ _ _ = _
    unfold b_X4_bring_11
    rw [if_neg (by rw [show (20 : Int32) = nI 20 from rfl]; exact nI_ge (by omega) (by omega)), m_v hb, m_layG hb hr (by omega), obs, wZ_wZ, wZ_z, ze_step, nI_1]
    exact ih (k + 1) fuel (by omega) (by omega)
