/-! when all would be off -/
def diF (V : Nat → Nat → Int32) (res : Int32) : Nat → Nat → Bool
  | 0, _ => true
  | m + 1, k => !decide (res < V k 10) && diF V res m (k + 1)
def ofF (V : Nat → Nat → Int32) (res : Int32) : Nat → Nat → Bool
  | 0, _ => true
  | m + 1, k => (decide (V k 9 = 0) && !decide (res < V k 10)) && ofF V res m (k + 1)
def a9F (V : Nat → Nat → Int32) : Nat → Nat → Bool
  | 0, _ => true
  | m + 1, k => decide (V k 9 = 0) && a9F V m (k + 1)
theorem of_split (V : Nat → Nat → Int32) (res : Int32) : ∀ m k, ofF V res m k = (a9F V m k && diF V res m k) := by
  intro m
  induction m with
  | zero => exact fun _ => rfl
  | succ m ih =>
    intro k
    unfold ofF a9F diF
    rw [ih (k + 1)]
    cases decide (V k 9 = 0) <;> cases (!decide (res < V k 10)) <;> cases a9F V m (k + 1) <;> rfl
theorem of_congr {V V' : Nat → Nat → Int32} {res : Int32} {n : Nat} (h : ∀ q, q < n → V q = V' q) : ∀ m k, k + m ≤ n → ofF V res m k = ofF V' res m k := by
  intro m
  induction m with
  | zero => exact fun _ _ => rfl
  | succ m ih =>
    intro k hk
    unfold ofF
    rw [ih (k + 1) (by omega), h k (by omega)]
theorem a9_iff {V : Nat → Nat → Int32} : ∀ m k, a9F V m k = true ↔ ∀ q, k ≤ q → q < k + m → V q 9 = 0 := by
  intro m
  induction m with
  | zero => exact fun k => ⟨fun _ q h1 h2 => by omega, fun _ => rfl⟩
  | succ m ih =>
    intro k
    unfold a9F
    rw [Bool.and_eq_true, decide_eq_true_eq, ih (k + 1)]
    constructor
    · intro ⟨h1, h2⟩ q q1 q2
      by_cases e : q = k
      · subst e
        exact h1
      · exact h2 q (by omega) (by omega)
    · intro h
      exact ⟨h k (by omega) (by omega), fun q q1 q2 => h q (by omega) (by omega)⟩
theorem mk_all {f : Nat → Bool} {n : Nat} : mkN f n = 2 ^ n - 1 ↔ ∀ q, q < n → f q = true := by
  constructor
  · intro h q hq
    have e := congrArg (fun x => x.testBit q) h
    simp only [mk_bit, Nat.testBit_two_pow_sub_one] at e
    rw [decide_eq_true hq, Bool.true_and] at e
    exact e
  · intro h
    apply Nat.eq_of_testBit_eq
    intro i
    rw [mk_bit, Nat.testBit_two_pow_sub_one]
    by_cases hi : i < n
    · rw [decide_eq_true hi, h i hi]
      rfl
    · rw [decide_eq_false hi, Bool.false_and]
theorem all_bits {n : Nat} (hn8 : n ≤ 8) : ((1 : Int32) <<< (nI n &&& 31)) - 1 = nI (2 ^ n - 1) := by
  have h1 : 1 ≤ 2 ^ n := Nat.one_le_two_pow
  rw [nI_bit (by omega), show (1 : Int32) = nI 1 from rfl, pk_sub h1]
theorem ma_all {V : Nat → Nat → Int32} {n : Nat} (hn8 : n ≤ 8) : maS V 0 n = ((1 : Int32) <<< (nI n &&& 31)) - 1 ↔ a9F V n 0 = true := by
  have h2 : 2 ^ n ≤ 2 ^ 8 := Nat.pow_le_pow_right (by decide) hn8
  have h3 := mk_lt (fun q => decide (V q 9 = 0)) n
  rw [all_bits hn8]
  unfold maS
  rw [nI_eq (by omega) (by omega), mk_all, a9_iff]
  constructor
  · intro h q _ hq
    exact of_decide_eq_true (h q (by omega))
  · intro h q hq
    exact decide_eq_true (h q (Nat.zero_le q) (by omega))
variable {G : Nat → MC} {b : Nat}
theorem a_offAll (hb : b ≤ 125) {P : PV} {n : Nat} (hn8 : n ≤ 8) (h0 : P.1 0 = nI n) : ∀ (m k fuel : Nat), k + m = n → m < fuel → f_X1_isAllOff_2 (hp G b P) fuel b (nI k) = some (if ofF (rowP P) (P.1 2) m k = true then 1 else 0) := by
  intro m
  induction m with
  | zero =>
    intro k fuel hk hf
    obtain ⟨fuel, rfl⟩ : ∃ f, fuel = f + 1 := ⟨fuel - 1, by omega⟩
    show b_X1_isAllOff_2 _ _ _ _ = _
    unfold b_X1_isAllOff_2
    rw [p_I0 hb, obs, h0, if_pos (nI_le (by omega) (by omega))]
    rfl
  | succ m ih =>
    intro k fuel hk hf
    obtain ⟨fuel, rfl⟩ : ∃ f, fuel = f + 1 := ⟨fuel - 1, by omega⟩
    show b_X1_isAllOff_2 _ _ _ _ = _
    unfold b_X1_isAllOff_2 b_X1_isAllOff_27 ofF
    rw [p_I0 hb, obs, h0, if_neg (nI_ge (by omega) (by omega)), p_R6 hb, obs, p_a6 hb, bd_nI (by omega) (by decide), obs]
    by_cases h9 : rowP P k 9 = 0
    · rw [if_pos (show P.2 6 k = 0 from h9), p_v1 hb, a_dis hb (by omega), obs, decide_eq_true h9, Bool.true_and]
      by_cases hd : P.1 2 < rowP P k 10
      · rw [if_pos hd, if_pos rfl, decide_eq_true hd]
        rfl
      · rw [if_neg hd, if_neg n10, decide_eq_false hd, nI_1, ih (k + 1) fuel (by omega) (by omega)]
        rfl
    · rw [if_neg (show ¬ P.2 6 k = 0 from h9), decide_eq_false h9]
      rfl
theorem z_offD (hb : b ≤ 134) {M : MV} {n : Nat} (hn8 : n ≤ 8) (h0 : M.2 1 0 = nI n) : ∀ (m k fuel : Nat) (u : Bool), k + m = n → m < fuel → f_X4_isAllOff_22 (hm G b M) fuel b (if u = true then 1 else 0) (nI k) = some (if (u && diF (rowZ (M.2 1)) (M.2 1 1) m k) = true then 1 else 0) := by
  intro m
  induction m with
  | zero =>
    intro k fuel u hk hf
    obtain ⟨fuel, rfl⟩ : ∃ f, fuel = f + 1 := ⟨fuel - 1, by omega⟩
    show b_X4_isAllOff_22 _ _ _ _ _ = _
    unfold b_X4_isAllOff_22
    rw [m_R1 hb, obs, m_a1 hb, b228_0, obs, h0, if_pos (nI_le (by omega) (by omega))]
    cases u <;> rfl
  | succ m ih =>
    intro k fuel u hk hf
    obtain ⟨fuel, rfl⟩ : ∃ f, fuel = f + 1 := ⟨fuel - 1, by omega⟩
    have i0 := ih (k + 1) fuel false (by omega) (by omega)
    have i1 := ih (k + 1) fuel true (by omega) (by omega)
    rw [if_neg (by decide), Bool.false_and, if_neg (by decide)] at i0
    rw [if_pos rfl, Bool.true_and] at i1
    show b_X4_isAllOff_22 _ _ _ _ _ = _
    unfold b_X4_isAllOff_22 b_X4_isAllOff_48 b_X4_isAllOff_49 diF
    rw [m_R1 hb, obs, m_a1 hb, b228_0, obs, h0, if_neg (nI_ge (by omega) (by omega)), nI_1, ite01]
    cases u
    · rw [if_neg (show ¬ false = true by decide), i0]
      rfl
    · rw [if_pos rfl, m_v hb, z_dis hb (by omega), obs, Bool.true_and]
      by_cases hd : M.2 1 1 < rowZ (M.2 1) k 10
      · rw [if_pos hd, if_pos rfl, i0, decide_eq_true hd]
        rfl
      · rw [if_neg hd, if_neg n10, i1, decide_eq_false hd]
        rfl
theorem z_allOff {M : MV} {P : PV} {n : Nat} (h : RZ n P (M.2 1)) : f_X4_isAllOff (hm G 133 M) 133 = some (if ofF (rowP P) (P.1 2) n 0 = true then 1 else 0) := by
  obtain ⟨hn8, h0, z0, z1, z2, hrow, hw, hl, hwn, hok⟩ := h
  have hb : 133 ≤ 134 := by decide
  unfold f_X4_isAllOff b_X4_isAllOff_19 f_X4_allRails
  have e0 := z_offD (G := G) hb (M := M) hn8 z0 n 0 FU false (by omega) (by rw [FU_eq]; omega)
  have e1 := z_offD (G := G) hb (M := M) hn8 z0 n 0 FU true (by omega) (by rw [FU_eq]; omega)
  rw [if_neg (by decide), Bool.false_and, if_neg (by decide), show nI 0 = (0 : Int32) from rfl] at e0
  rw [if_pos rfl, Bool.true_and, show nI 0 = (0 : Int32) from rfl] at e1
  rw [m_v hb, z_maskS hb z0 hn8, obs, m_v hb, m_R1 hb, obs, m_a1 hb, b228_0, obs, z0, obs, of_congr hrow n 0 (by omega), of_split, ← z1]
  by_cases hc : a9F (rowZ (M.2 1)) n 0 = true
  · rw [if_pos ((ma_all hn8).mpr hc), e1, hc, Bool.true_and]
  · rw [if_neg (fun hh => hc ((ma_all hn8).mp hh)), e0]
    cases h : a9F (rowZ (M.2 1)) n 0
    · rfl
    · exact absurd h hc
theorem z_offStep {M : MV} {P : PV} {n k fuel : Nat} (h : RZ n P (M.2 1)) (hk : k ≤ 1000) : f_X4_goesIn_18 (fuel + 1) (hm G 133 M) 133 1 (nI k) = if ofF (rowP P) (P.1 2) n 0 = true then (f_X4_takeBack (hm G 133 M) 133).bind (fun h1 => some (nI k, h1)) else (f_X4_pass (hm G 133 M) 133).bind (fun h2 => f_X4_goesIn_18 fuel h2 133 1 (nI (k + 1))) := by
  have hb : 133 ≤ 134 := by decide
  show b_X4_goesIn_18 _ _ _ _ _ = _
  unfold b_X4_goesIn_18 b_X4_goesIn_46
  rw [if_neg (by rw [I1000 _ (by omega)]; omega), if_neg n10, m_v hb, z_allOff h, obs, ite01, z_goes56, if_pos (show nI k ≤ (1000 : Int32) by rw [I1000' _ (by omega)]; exact hk), m_v hb, nI_1]
variable {T : TS}
theorem f_allOff (T : TS) {Q : PV} {n : Nat} (hn8 : n ≤ 8) (h0 : Q.1 0 = nI n) : f_X1_isAllOff (HT (uP T 1 Q)) 17 = some (if ofF (rowP Q) (Q.1 2) n 0 = true then 1 else 0) := by
  rw [HT1 (uP T 1 Q), uP_at]
  exact a_offAll (by decide) hn8 h0 n 0 FU (by omega) (by rw [FU_eq]; omega)
theorem c_offStep {P : PV} {n k fuel : Nat} (hn8 : n ≤ 8) (h0 : P.1 0 = nI n) (hk : k ≤ 1000) : f_X3_allOffIn_21 (fuel + 1) (HT (uP T 1 P)) 0 (nI k) = if ofF (rowP P) (P.1 2) n 0 = true then some (nI k, HT (uP T 1 P)) else (f_X1_passTick (HT (uP T 1 P)) 17).bind (fun p4 => f_X3_allOffIn_21 fuel p4.2 0 (nI (k + 1))) := by
  show b_X3_allOffIn_21 _ _ _ _ = _
  unfold b_X3_allOffIn_21
  rw [if_neg (by rw [I1000 _ (by omega)]; omega), t_R1, obs, f_v1, f_allOff T hn8 h0, obs, ite01, obs, f_v1, nI_1]
theorem both_offLoop {n : Nat} (hn8 : n ≤ 8) : ∀ (m k fuel : Nat) (P : PV), P.1 0 = nI n → k + m = 1001 → m < fuel → ∃ Q v, f_X3_allOffIn_21 fuel (HT (uP T 1 P)) 0 (nI k) = some (v, HT (uP T 1 Q)) ∧ ∀ (G : Nat → MC) (M : MV) (fu : Nat), m < fu → RZ n P (M.2 1) → ∃ M1, f_X4_goesIn_18 fu (hm G 133 M) 133 1 (nI k) = (f_X4_takeBack (hm G 133 M1) 133).bind (fun h1 => some (v, h1)) ∧ MK M M1 := by
  intro m
  induction m with
  | zero =>
    intro k fuel P h0 hk hf
    obtain ⟨fuel, rfl⟩ : ∃ f, fuel = f + 1 := ⟨fuel - 1, by omega⟩
    refine ⟨P, -1, ?_, fun G M fu hfu hz => ?_⟩
    · show b_X3_allOffIn_21 _ _ _ _ = _
      unfold b_X3_allOffIn_21
      rw [if_pos (by rw [I1000 _ (by omega)]; omega)]
    · obtain ⟨fu, rfl⟩ : ∃ f, fu = f + 1 := ⟨fu - 1, by omega⟩
      exact ⟨M, z_goesEnd 1 (by omega), MK_refl M⟩
  | succ m ih =>
    intro k fuel P h0 hk hf
    obtain ⟨fuel, rfl⟩ : ∃ f, fuel = f + 1 := ⟨fuel - 1, by omega⟩
    have hstep := c_offStep (T := T) (fuel := fuel) (k := k) hn8 h0 (by omega)
    by_cases hg : ofF (rowP P) (P.1 2) n 0 = true
    · rw [if_pos hg] at hstep
      refine ⟨P, nI k, hstep, fun G M fu hfu hz => ?_⟩
      obtain ⟨fu, rfl⟩ : ∃ f, fu = f + 1 := ⟨fu - 1, by omega⟩
      refine ⟨M, ?_, MK_refl M⟩
      rw [z_offStep hz (by omega), if_pos hg]
    · obtain ⟨P', e1, hp⟩ := f_tick T (P := P) hn8 h0
      rw [if_neg hg, e1, obs] at hstep
      obtain ⟨Q, v, i1, i2⟩ := ih (k + 1) fuel P' (hp.2.1.trans h0) (by omega) (by omega)
      refine ⟨Q, v, hstep.trans i1, fun G M fu hfu hz => ?_⟩
      obtain ⟨fu, rfl⟩ : ∃ f, fu = f + 1 := ⟨fu - 1, by omega⟩
      obtain ⟨M', k1, k2, k3, k4, k5, k6, k7⟩ := z_tick (H := G) hz hp
      obtain ⟨M1, r1, r2⟩ := i2 G M' fu (by omega) k2
      refine ⟨M1, ?_, MK_trans ⟨k5, k6, k7⟩ r2⟩
      rw [z_offStep hz (by omega), if_neg hg, k1, obs]
      exact r1
theorem f_P3 (T : TS) (Q : PV) (x : Int32) : hP (HT (uP T 1 Q)) 1 17 3 (.int x) = some (HT (uP T 1 (wS Q 3 x))) := by
  have t := t_pP3 (uP T 1 Q) (j := 1) (by decide) x
  rw [uP_at, uP_uP] at t
  exact t
theorem tb_0 (q : Nat) : tb 0 q = false := Nat.zero_testBit q
theorem tb_all {n q : Nat} (hn8 : n ≤ 8) (hq : q < n) : tb (((1 : Int32) <<< (nI n &&& 31)) - 1) q = true := by
  have h2 : 2 ^ n ≤ 2 ^ 8 := Nat.pow_le_pow_right (by decide) hn8
  rw [all_bits hn8, tb_nI (by omega), Nat.testBit_two_pow_sub_one]
  exact decide_eq_true hq
/-- the forecast of off, on both sides -/
theorem both_off {n s : Nat} (h : INV T n s) : ∃ Q v, f_X3_allOffIn (HT T) 0 = some (v, HT (uP T 1 Q)) ∧ ∀ (G : Nat → MC) (M : MV), RZ n (T.1.2.2 0) (M.2 1) → ∃ M', f_X4_goesIn (hm G 133 M) 133 1 = some (v, hm G 133 M') ∧ MLk M M' := by
  obtain ⟨hs, hS, hM, hσ, hz, ha, hv, hbf⟩ := h
  have hb : 133 ≤ 134 := by decide
  have hn8 := hz.1
  obtain ⟨Q, v, e1, e2⟩ := both_offLoop (T := T) hn8 1001 0 FU (wS (cpP (T.1.2.2 0) (T.1.2.2 1)) 3 0) hz.2.1 (by omega) (by rw [FU_eq]; omega)
  refine ⟨Q, v, ?_, fun G M hz' => ?_⟩
  · unfold f_X3_allOffIn
    rw [t_R1, obs, t_R0, obs, f_v1, f_copy, obs, t_R1, obs, f_P3, obs]
    exact e1
  · have hzc := cp_RZ (T.1.2.2 1) hz'
    have hz0 := hz'.2.2.1
    obtain ⟨z', g1, g2, g3, g4⟩ := z_offLoop (G := G) (b := 133) hb (nd := fun j => M.2 1 (68 + 20 * j + 7)) hn8 (M := w9 M (keF (M.2 1) (M.2 9) 228)) n 0 FU (((1 : Int32) <<< (nI n &&& 31)) - 1) (M.2 1) hz0 (by omega) (by rw [FU_eq]; omega) (fun j hj => rfl)
    have hw' : ∀ q, q < n → z' (68 + 20 * q + 8) = if tb 0 q = true then 1 else 0 := by
      intro q hq
      rw [g3 q (by omega) hq, fo_keep n 0 _ q (tb_all hn8 hq), tb_0]
      rfl
    have hzz : RZ n (wS (cpP (T.1.2.2 0) (T.1.2.2 1)) 3 0) z' := RZ_want hzc (Nat.two_pow_pos n) g2 hw'
    obtain ⟨M1, r1, r2⟩ := e2 G (wZ (w9 M (keF (M.2 1) (M.2 9) 228)) z') FU (by rw [FU_eq]; omega) hzz
    have hmk : MK (w9 M (keF (M.2 1) (M.2 9) 228)) M1 := MK_trans (B := wZ (w9 M (keF (M.2 1) (M.2 9) 228)) z') ⟨fun _ _ _ => rfl, rfl, fun k a c => wZ_n _ _ a⟩ r2
    refine ⟨_, ?_, MK_back hmk⟩
    unfold f_X4_goesIn b_X4_goesIn_16 f_X4_allRails f_X4_unwant
    rw [show wZ (w9 M (keF (M.2 1) (M.2 9) 228)) (M.2 1) = w9 M (keF (M.2 1) (M.2 9) 228) from wZ_self (w9 M (keF (M.2 1) (M.2 9) 228)), show nI 0 = (0 : Int32) from rfl] at g1
    rw [m_v hb, z_keep hb, obs, if_neg n10, m_v hb, m_R1 hb, obs, m_a1 hb, b228_0, obs, show (w9 M (keF (M.2 1) (M.2 9) 228)).2 1 0 = nI n from hz0, obs, m_v hb, g1, obs]
    refine r1.trans ?_
    rw [z_take hb, obs]
theorem op_allOffIn {n s : Nat} (h : INV T n s) : OKv T (f_X3_allOffIn (HT T) 0) (fun h => vcall h 4 133 (f_X4_allOffIn h 133)) := by
  obtain ⟨Q, v, e1, e2⟩ := both_off h
  refine OKv_look h Q e1 (fun G => ?_)
  obtain ⟨M', k1, k2⟩ := e2 G (mS T.2.2.1 0 0) h.2.2.2.2.1
  refine ⟨M', ?_, k2⟩
  unfold f_X4_allOffIn
  rw [m_P0 (show 133 ≤ 134 by decide), obs, m_v (show 133 ≤ 134 by decide), k1, obs]
