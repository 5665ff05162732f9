/-! when all would be good -/
/-- a rail without a short has none behind the tick -/
theorem tk12 {V : Nat → Nat → Int32} {w res : Int32} {n r : Nat} (hr : r < n) (h : V r 12 ≤ 0) : tkV V w res n r 12 ≤ 0 := by
  rw [tkV_in hr, endR_12, lookR_keep _ _ _ _ _ _ _ (by decide), rowsF_in hr, mvR_keep _ (by decide), if_pos h]
  exact h
/-- not all that is wanted is good -/
def gdB (P : PV) (n : Nat) : Bool := decide (P.1 3 &&& (maS (rowP P) 3 n ^^^ (-1 : Int32)) = 0)
variable {T : TS} {G : Nat → MC}
theorem z_allGood {M : MV} {P : PV} {n : Nat} (h : RZ n P (M.2 1)) : f_X4_isAllGood (hm G 133 M) 133 = some (if gdB P n = true then 1 else 0) := by
  obtain ⟨hn8, h0, z0, z1, z2, hrow, hw, hl, hwn, hok⟩ := h
  have hb : 133 ≤ 134 := by decide
  unfold f_X4_isAllGood b_X4_isAllGood_25 gdB
  rw [m_v hb, z_wants hb z0 hn8 hw hwn, obs, m_v hb, z_maskS hb z0 hn8, obs, ma_congr (A := rowZ (M.2 1)) (A' := rowP P) (n := n) 3 (fun q hq => by rw [← hrow q hq])]
  by_cases hc : P.1 3 &&& (maS (rowP P) 3 n ^^^ (-1 : Int32)) = 0
  · rw [if_pos hc, decide_eq_true hc]
    rfl
  · rw [if_neg hc, decide_eq_false hc]
    rfl
theorem z_goes56 {M : MV} (x : Int32) : b_X4_goesIn_56 (hm G 133 M) 133 x = (f_X4_takeBack (hm G 133 M) 133).bind (fun h1 => some (if x ≤ 1000 then x else -1, h1)) := by
  have hb : 133 ≤ 134 := by decide
  unfold b_X4_goesIn_56 b_X4_goesIn_72
  rw [m_v hb, z_take hb, obs, obs]
  by_cases hx : x ≤ 1000
  · rw [if_pos hx, if_pos hx]
  · rw [if_neg hx, if_neg hx]
theorem I1000 (k : Nat) (hk : k < 2 ^ 31) : (1000 : Int32) < nI k ↔ 1000 < k := by
  rw [show (1000 : Int32) = nI 1000 from rfl, nI_ltI (by decide) hk]
theorem I1000' (k : Nat) (hk : k < 2 ^ 31) : nI k ≤ (1000 : Int32) ↔ k ≤ 1000 := by
  rw [show (1000 : Int32) = nI 1000 from rfl, nI_leI hk (by decide)]
/-- one round of the model's search -/
theorem z_goesEnd {M : MV} (x : Int32) {k fuel : Nat} (hk : k = 1001) : f_X4_goesIn_18 (fuel + 1) (hm G 133 M) 133 x (nI k) = (f_X4_takeBack (hm G 133 M) 133).bind (fun h1 => some (-1, h1)) := by
  subst hk
  show b_X4_goesIn_18 _ _ _ _ _ = _
  unfold b_X4_goesIn_18
  rw [if_pos (by rw [I1000 _ (by decide)]; decide), z_goes56, if_neg (by rw [I1000' _ (by decide)]; decide)]
theorem z_goodStep {M : MV} {P : PV} {n k fuel : Nat} (h : RZ n P (M.2 1)) (hk : k ≤ 1000) : f_X4_goesIn_18 (fuel + 1) (hm G 133 M) 133 0 (nI k) = if gdB P n = true then (f_X4_takeBack (hm G 133 M) 133).bind (fun h1 => some (nI k, h1)) else (f_X4_pass (hm G 133 M) 133).bind (fun h2 => f_X4_goesIn_18 fuel h2 133 0 (nI (k + 1))) := by
  have hb : 133 ≤ 134 := by decide
  show b_X4_goesIn_18 _ _ _ _ _ = _
  unfold b_X4_goesIn_18 b_X4_goesIn_46
  rw [if_neg (by rw [I1000 _ (by omega)]; omega), if_pos rfl, m_v hb, z_allGood h, obs, ite01, z_goes56, if_pos (show nI k ≤ (1000 : Int32) by rw [I1000' _ (by omega)]; exact hk), m_v hb, nI_1]
theorem z_goodNever {n : Nat} : ∀ (m k fuel : Nat) (P : PV) (M : MV), JJ (P.1 3) (P.1 2) n (rowP P) → gdB P n = false → RZ n P (M.2 1) → k + m = 1001 → m < fuel → ∃ M1, f_X4_goesIn_18 fuel (hm G 133 M) 133 0 (nI k) = (f_X4_takeBack (hm G 133 M1) 133).bind (fun h1 => some (-1, h1)) ∧ MK M M1 := by
  intro m
  induction m with
  | zero =>
    intro k fuel P M hj hg hz hk hf
    obtain ⟨fuel, rfl⟩ : ∃ f, fuel = f + 1 := ⟨fuel - 1, by omega⟩
    exact ⟨M, z_goesEnd 0 (by omega), MK_refl M⟩
  | succ m ih =>
    intro k fuel P M hj hg hz hk hf
    obtain ⟨fuel, rfl⟩ : ∃ f, fuel = f + 1 := ⟨fuel - 1, by omega⟩
    obtain ⟨P', -, hp⟩ := p_tick (G := G) (b := 1) (P := P) (by decide) hz.1 hz.2.1
    obtain ⟨M', k1, k2, k3, k4, k5, k6, k7⟩ := z_tick (H := G) hz hp
    obtain ⟨j1, j2⟩ := JJ_tick hj hp.1
    have e2 : P'.1 2 = P.1 2 := hp.2.2.2.1
    have e3 : P'.1 3 = P.1 3 := hp.2.2.2.2.1
    have hg' : gdB P' n = false := by
      unfold gdB at hg ⊢
      rw [ma_congr (A := rowP P') (A' := rowP P) (n := n) 3 (fun q hq => j2 q hq), e3]
      exact hg
    obtain ⟨M1, r1, r2⟩ := ih (k + 1) fuel P' M' (by rw [e2, e3]; exact j1) hg' k2 (by omega) (by omega)
    refine ⟨M1, ?_, MK_trans ⟨k5, k6, k7⟩ r2⟩
    rw [z_goodStep hz (by omega), hg, if_neg (by decide), k1, obs]
    exact r1
theorem c_goodStep {P : PV} {n k fuel : Nat} (hn8 : n ≤ 8) (h0 : P.1 0 = nI n) (hk : k ≤ 1000) {P' : PV} (e1 : f_X1_passTick (HT (uP T 1 P)) 17 = some (eN n P, HT (uP T 1 P'))) (hp : PT n P P') : f_X3_allGoodIn_13 (fuel + 1) (HT (uP T 1 P)) 0 (nI k) = if gdB P n = true then some (nI k, HT (uP T 1 P)) else if (shF (rowP P) n 0 && stF (rowP P') (rowP P) n 0) = true then some (-1, HT (uP T 1 P')) else f_X3_allGoodIn_13 fuel (HT (uP T 1 P')) 0 (nI (k + 1)) := by
  have hq0 : P'.1 0 = nI n := hp.2.1.trans h0
  show b_X3_allGoodIn_13 _ _ _ _ = _
  unfold b_X3_allGoodIn_13 gdB
  rw [if_neg (by rw [I1000 _ (by omega)]; omega), t_R1, obs, f_I3, obs, obs, f_v1, f_mask T hn8 h0, obs]
  by_cases hc : P.1 3 &&& (maS (rowP P) 3 n ^^^ (-1 : Int32)) = 0
  · rw [if_pos hc, decide_eq_true hc, if_pos rfl]
  · rw [if_neg hc, decide_eq_false hc, if_neg (show ¬ false = true by decide), obs, f_v1, f_any T hn8 h0, obs]
    unfold b_X3_allGoodIn_58 b_X3_allGoodIn_83
    by_cases hsh : shF (rowP P) n 0 = true
    · rw [if_pos hsh, if_pos rfl, hsh, Bool.true_and, t_R1, obs, f_v1, e1, obs, if_neg (show ¬ (1 : Int32) = 0 by decide), t_R1, obs, f_v1, f_still T hn8 hq0, obs, ite01, bf_PT hp hn8 n 0 (by omega), nI_1]
    · rw [if_neg hsh, if_neg (show ¬ (1 : Int32) = 0 by decide), Bool.eq_false_iff.mpr hsh, Bool.false_and, if_neg (show ¬ false = true by decide), t_R1, obs, f_v1, e1, obs, if_pos rfl, nI_1]
theorem both_goodLoop {n : Nat} (hn8 : n ≤ 8) : ∀ (m k fuel : Nat) (P : PV), P.1 0 = nI n → (∀ q, q < n → RowOK q (rowP P q)) → k + m = 1001 → m < fuel → ∃ Q v, f_X3_allGoodIn_13 fuel (HT (uP T 1 P)) 0 (nI k) = some (v, HT (uP T 1 Q)) ∧ ∀ (G : Nat → MC) (M : MV) (fu : Nat), m < fu → RZ n P (M.2 1) → ∃ M1, f_X4_goesIn_18 fu (hm G 133 M) 133 0 (nI k) = (f_X4_takeBack (hm G 133 M1) 133).bind (fun h1 => some (v, h1)) ∧ MK M M1 := by
  intro m
  induction m with
  | zero =>
    intro k fuel P h0 hok hk hf
    obtain ⟨fuel, rfl⟩ : ∃ f, fuel = f + 1 := ⟨fuel - 1, by omega⟩
    refine ⟨P, -1, ?_, fun G M fu hfu hz => ?_⟩
    · show b_X3_allGoodIn_13 _ _ _ _ = _
      unfold b_X3_allGoodIn_13
      rw [if_pos (by rw [I1000 _ (by omega)]; omega)]
    · obtain ⟨fu, rfl⟩ : ∃ f, fu = f + 1 := ⟨fu - 1, by omega⟩
      exact ⟨M, z_goesEnd 0 (by omega), MK_refl M⟩
  | succ m ih =>
    intro k fuel P h0 hok hk hf
    obtain ⟨fuel, rfl⟩ : ∃ f, fuel = f + 1 := ⟨fuel - 1, by omega⟩
    obtain ⟨P', e1, hp⟩ := f_tick T (P := P) hn8 h0
    have hq0 : P'.1 0 = nI n := hp.2.1.trans h0
    have hstep := c_goodStep (T := T) (fuel := fuel) (k := k) hn8 h0 (by omega) e1 hp
    by_cases hg : gdB P n = true
    · rw [if_pos hg] at hstep
      refine ⟨P, nI k, hstep, fun G M fu hfu hz => ?_⟩
      obtain ⟨fu, rfl⟩ : ∃ f, fu = f + 1 := ⟨fu - 1, by omega⟩
      refine ⟨M, ?_, MK_refl M⟩
      rw [z_goodStep hz (by omega), if_pos hg]
    · rw [if_neg hg] at hstep
      have hok' : ∀ q, q < n → RowOK q (rowP P' q) := fun q hq => by rw [hp.1 q hq]; exact tkV_ok hq (hok q hq)
      by_cases hs : (shF (rowP P) n 0 && stF (rowP P') (rowP P) n 0) = true
      · rw [if_pos hs] at hstep
        refine ⟨P', -1, hstep, fun G M fu hfu hz => ?_⟩
        obtain ⟨fu, rfl⟩ : ∃ f, fu = f + 1 := ⟨fu - 1, by omega⟩
        obtain ⟨M', k1, k2, k3, k4, k5, k6, k7⟩ := z_tick (H := G) hz hp
        rw [Bool.and_eq_true] at hs
        have s1 : ∀ q, q < n → rowP P' q 12 ≤ 0 := fun q hq => by rw [hp.1 q hq]; exact tk12 hq (sh_at n 0 hs.1 q (Nat.zero_le q) (by omega))
        have s2 := fun q (hq : q < n) => st_at n 0 hs.2 q (Nat.zero_le q) (by omega)
        have hj : JJ (P.1 3) (P.1 2) n (rowP P') := JJ_first hok hp.1 (fun r hr => s1 r hr) (fun r hr => s2 r hr)
        have e2 : P'.1 2 = P.1 2 := hp.2.2.2.1
        have e3 : P'.1 3 = P.1 3 := hp.2.2.2.2.1
        have hg' : gdB P' n = false := by
          have hg1 : gdB P n = false := by
            cases h : gdB P n
            · rfl
            · exact absurd h hg
          unfold gdB at hg1 ⊢
          rw [ma_congr (A := rowP P') (A' := rowP P) (n := n) 3 (fun q hq => (s2 q hq).1), e3]
          exact hg1
        obtain ⟨M1, r1, r2⟩ := z_goodNever (G := G) m (k + 1) fu P' M' (by rw [e2, e3]; exact hj) hg' k2 (by omega) (by omega)
        refine ⟨M1, ?_, MK_trans ⟨k5, k6, k7⟩ r2⟩
        rw [z_goodStep hz (by omega), if_neg hg, k1, obs]
        exact r1
      · rw [if_neg hs] at hstep
        obtain ⟨Q, v, i1, i2⟩ := ih (k + 1) fuel P' hq0 hok' (by omega) (by omega)
        refine ⟨Q, v, hstep.trans i1, fun G M fu hfu hz => ?_⟩
        obtain ⟨fu, rfl⟩ : ∃ f, fu = f + 1 := ⟨fu - 1, by omega⟩
        obtain ⟨M', k1, k2, k3, k4, k5, k6, k7⟩ := z_tick (H := G) hz hp
        obtain ⟨M1, r1, r2⟩ := i2 G M' fu (by omega) k2
        refine ⟨M1, ?_, MK_trans ⟨k5, k6, k7⟩ r2⟩
        rw [z_goodStep hz (by omega), if_neg hg, k1, obs]
        exact r1
/-- the forecast of good, on both sides -/
theorem both_good {n s : Nat} (h : INV T n s) : ∃ Q v, f_X3_allGoodIn (HT T) 0 = some (v, HT (uP T 1 Q)) ∧ ∀ (G : Nat → MC) (M : MV), RZ n (T.1.2.2 0) (M.2 1) → ∃ M', f_X4_goesIn (hm G 133 M) 133 0 = some (v, hm G 133 M') ∧ MLk M M' := by
  obtain ⟨hs, hS, hM, hσ, hz, ha, hv, hbf⟩ := h
  have hb : 133 ≤ 134 := by decide
  have hzc := cp_RZ (T.1.2.2 1) hz
  obtain ⟨Q, v, e1, e2⟩ := both_goodLoop (T := T) hz.1 1001 0 FU (cpP (T.1.2.2 0) (T.1.2.2 1)) hz.2.1 hzc.2.2.2.2.2.2.2.2.2 (by omega) (by rw [FU_eq]; omega)
  refine ⟨Q, v, ?_, fun G M hz' => ?_⟩
  · unfold f_X3_allGoodIn
    rw [t_R1, obs, t_R0, obs, f_v1, f_copy, obs]
    exact e1
  · obtain ⟨M1, r1, r2⟩ := e2 G (w9 M (keF (M.2 1) (M.2 9) 228)) FU (by rw [FU_eq]; omega) (cp_RZ _ hz')
    refine ⟨_, ?_, MK_back r2⟩
    unfold f_X4_goesIn b_X4_goesIn_16
    rw [m_v hb, z_keep hb, obs, if_pos rfl]
    refine r1.trans ?_
    rw [z_take hb, obs]
theorem op_allGoodIn {n s : Nat} (h : INV T n s) : OKv T (f_X3_allGoodIn (HT T) 0) (fun h => vcall h 4 133 (f_X4_allGoodIn h 133)) := by
  obtain ⟨Q, v, e1, e2⟩ := both_good h
  refine OKv_look h Q e1 (fun G => ?_)
  obtain ⟨M', k1, k2⟩ := e2 G (mS T.2.2.1 0 0) h.2.2.2.2.1
  refine ⟨M', ?_, k2⟩
  unfold f_X4_allGoodIn
  rw [m_P0 (show 133 ≤ 134 by decide), obs, m_v (show 133 ≤ 134 by decide), k1, obs]
