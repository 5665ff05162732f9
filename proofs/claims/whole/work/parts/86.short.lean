/-! what a short would do -/
/-- the rails that have just become falling or failed -/
def jdF (A B : Nat → Nat → Int32) : Nat → Nat → Int32 → Int32
  | 0, _, x => x
  | m + 1, k, x => jdF A B m (k + 1) (if (A k 9 = 4 ∨ A k 9 = 5) ∧ ¬ A k 9 = B k 9 then x ||| ((1 : Int32) <<< (nI k &&& 31)) else x)
theorem jd_or {A B : Nat → Nat → Int32} : ∀ (m k : Nat) (x y : Int32), jdF A B m k (x ||| y) = x ||| jdF A B m k y := by
  intro m
  induction m with
  | zero => exact fun _ _ _ => rfl
  | succ m ih =>
    intro k x y
    unfold jdF
    by_cases h : (A k 9 = 4 ∨ A k 9 = 5) ∧ ¬ A k 9 = B k 9
    · rw [if_pos h, if_pos h, Int32.or_assoc, ih]
    · rw [if_neg h, if_neg h, ih]
theorem jd_congr {A A' B B' : Nat → Nat → Int32} {n : Nat} (hA : ∀ q, q < n → A q 9 = A' q 9) (hB : ∀ q, q < n → B q 9 = B' q 9) : ∀ (m k : Nat) (x : Int32), k + m ≤ n → jdF A B m k x = jdF A' B' m k x := by
  intro m
  induction m with
  | zero => exact fun _ _ _ => rfl
  | succ m ih =>
    intro k x hk
    unfold jdF
    rw [hA k (by omega), hB k (by omega)]
    exact ih (k + 1) _ (by omega)
theorem I32_or0 (x : Int32) : x ||| (0 : Int32) = x := by
  apply Int32.toBitVec_inj.1
  show x.toBitVec ||| 0#32 = x.toBitVec
  simp
theorem st6_45 {x : Int32} (h : st6 x) : (¬ x < 4) ↔ (x = 4 ∨ x = 5) := by
  rcases h with h | h | h | h | h | h <;> rw [h] <;> decide
/-- the entries of a tick tell the same -/
theorem fal_jd {S : Nat → Int32} {V V' : Nat → Nat → Int32} {w res : Int32} {n : Nat} (hs : ∀ q, q < n → st6 (stepT S V w res n q).1 ∧ V' q 9 = (stepT S V w res n q).1) : ∀ (m k : Nat) (x : Int32), k + m ≤ n → (entF S V w res n k m).foldl falE x = jdF V' V m k x := by
  intro m
  induction m with
  | zero => exact fun _ _ _ => rfl
  | succ m ih =>
    intro k x hk
    obtain ⟨h1, h2⟩ := hs k (by omega)
    show (entR S V w res n k ++ entF S V w res n (k + 1) m).foldl falE x = _
    unfold entR jdF
    rw [h2]
    by_cases hc : (stepT S V w res n k).1 = V k 9
    · rw [if_pos hc, if_neg (fun hh => hh.2 hc)]
      exact ih (k + 1) x (by omega)
    · rw [if_neg hc]
      show (entF S V w res n (k + 1) m).foldl falE (falE x (nI k, (stepT S V w res n k).1, (stepT S V w res n k).2 15)) = _
      rw [ih (k + 1) _ (by omega)]
      unfold falE
      by_cases h4 : (stepT S V w res n k).1 < 4
      · rw [if_pos h4, if_neg (fun hh => ((st6_45 h1).mpr hh.1) h4), I32_or0]
      · rw [if_neg h4, if_pos ⟨(st6_45 h1).mp h4, hc⟩]
theorem step_ok {S : Nat → Int32} {V : Nat → Nat → Int32} {w res : Int32} {n r : Nat} (h : RowOK r (V r)) : st6 (stepT S V w res n r).1 := by
  have hb : badR S V r = -1 ∨ ∃ k, k ≤ r ∧ badR S V r = nI k := by
    rcases badF_ok S V (V r 7) r 0 with h | ⟨j, h1, h2⟩
    · exact Or.inl h
    · exact Or.inr ⟨j, by omega, h2⟩
  exact (nsR_ok (tb w r) (!decide (res < V r 10)) (flgR (V r)) (restF S V res r (r + 1) (n - (r + 1))) h hb).1
/-- what the model notes in a tick is what the class sees behind it -/
theorem fal_tick {n : Nat} {P P' : PV} (hok : ∀ q, q < n → RowOK q (rowP P q)) (hp : PT n P P') (x : Int32) : (tkE (rowP P) (P.1 3) (P.1 2) n).foldl falE x = jdF (rowP P') (rowP P) n 0 x := by
  have h := fal_jd (S := fun q => rowP P q 9) (V := rowsF (fun _ => mvR) (rowP P) 0 n) (V' := rowP P') (w := P.1 3) (res := P.1 2) (n := n) (fun q hq => ⟨step_ok (by rw [rowsF_in hq]; exact mvR_ok (hok q hq)), by rw [hp.1 q hq, tk9 hq]⟩) n 0 x (by omega)
  refine Eq.trans h (jd_congr (n := n) (fun _ _ => rfl) (fun q hq => ?_) n 0 x (by omega))
  rw [rowsF_in hq, mvR_keep _ (by decide)]
variable {G : Nat → MC} {b : Nat}
theorem a_justLoop (hb : b ≤ 125) {P : PV} {n : Nat} (hn8 : n ≤ 8) (h0 : P.1 0 = nI n) : ∀ (m k fuel : Nat) (x : Int32), k + m = n → m < fuel → f_X1_justDropped_4 (hp G b P) fuel b x (nI k) = some (jdF (rowP P) (bfR P) m k x) := by
  intro m
  induction m with
  | zero =>
    intro k fuel x hk hf
    obtain ⟨fuel, rfl⟩ : ∃ f, fuel = f + 1 := ⟨fuel - 1, by omega⟩
    show b_X1_justDropped_4 _ _ _ _ _ = _
    unfold b_X1_justDropped_4
    rw [p_I0 hb, obs, h0, if_pos (nI_le (by omega) (by omega))]
    rfl
  | succ m ih =>
    intro k fuel x hk hf
    obtain ⟨fuel, rfl⟩ : ∃ f, fuel = f + 1 := ⟨fuel - 1, by omega⟩
    have e37 : b_X1_justDropped_37 (hp G b P) (f_X1_justDropped_4 (hp G b P) fuel) b x (nI k) 1 = some (jdF (rowP P) (bfR P) m (k + 1) (if ¬ P.2 6 k = P.2 15 k then x ||| ((1 : Int32) <<< (nI k &&& 31)) else x)) := by
      unfold b_X1_justDropped_37 b_X1_justDropped_63
      rw [if_neg n10, p_R6 hb, obs, p_a6 hb, bd_nI (by omega) (by decide), obs, p_R15 hb, obs, p_a15 hb, bd_nI (by omega) (by decide), obs, nI_1]
      by_cases hc : P.2 6 k = P.2 15 k
      · rw [if_pos hc, if_neg (fun hh => hh hc)]
        exact ih (k + 1) fuel x (by omega) (by omega)
      · rw [if_neg hc, if_pos hc, obs]
        exact ih (k + 1) fuel _ (by omega) (by omega)
    show b_X1_justDropped_4 _ _ _ _ _ = _
    unfold b_X1_justDropped_4 b_X1_justDropped_32 jdF
    rw [p_I0 hb, obs, h0, if_neg (nI_ge (by omega) (by omega)), p_R6 hb, obs, p_a6 hb, bd_nI (by omega) (by decide), obs]
    by_cases h4 : P.2 6 k = 4
    · rw [if_pos h4, e37]
      by_cases hc : P.2 6 k = P.2 15 k
      · rw [if_neg (fun hh => hh hc), if_neg (fun hh => hh.2 hc)]
      · rw [if_pos hc, if_pos ⟨Or.inl h4, hc⟩]
    · rw [if_neg h4, obs, p_a6 hb, bd_nI (by omega) (by decide), obs]
      by_cases h5 : P.2 6 k = 5
      · rw [if_pos h5, e37]
        by_cases hc : P.2 6 k = P.2 15 k
        · rw [if_neg (fun hh => hh hc), if_neg (fun hh => hh.2 hc)]
        · rw [if_pos hc, if_pos ⟨Or.inr h5, hc⟩]
      · rw [if_neg h5, if_neg (fun hh => hh.1.elim h4 h5)]
        unfold b_X1_justDropped_37 b_X1_justDropped_63
        rw [if_pos rfl, nI_1]
        exact ih (k + 1) fuel x (by omega) (by omega)
variable {T : TS}
theorem f_just (T : TS) {P Q : PV} {n : Nat} (hn8 : n ≤ 8) (h0 : P.1 0 = nI n) (hp : PT n P Q) : f_X1_justDropped (HT (uP T 1 Q)) 17 = some (jdF (rowP Q) (rowP P) n 0 0) := by
  rw [HT1 (uP T 1 Q), uP_at]
  have e := a_justLoop (G := gT (uP T 1 Q)) (b := 17) (by decide) (P := Q) hn8 (hp.2.1.trans h0) n 0 FU 0 (by omega) (by rw [FU_eq]; omega)
  rw [jd_congr (A := rowP Q) (A' := rowP Q) (B := bfR Q) (B' := rowP P) (n := n) (fun _ _ => rfl) (fun q hq => (hp.2.2.2.2.2.2 q (by omega)).1) n 0 0 (by omega)] at e
  exact e
def shA (P : PV) (n : Nat) (d what : Int32) : Int32 := if what = 0 then d else if what = 1 then maS (rowP P) 3 n else maS (rowP P) 5 n
theorem both_shortLoop {n : Nat} (hn8 : n ≤ 8) (what : Int32) : ∀ (m k fuel : Nat) (P : PV) (d : Int32), P.1 0 = nI n → (∀ q, q < n → RowOK q (rowP P q)) → k + m = 100 → m < fuel → ∃ Q v, f_X3_ifShort_76 fuel (HT (uP T 1 P)) 0 what d (nI k) = some (.inr (v, HT (uP T 1 Q))) ∧ ∀ (G : Nat → MC) (M : MV) (fu : Nat), m < fu → RZ n P (M.2 1) → M.1.1 7 = d → ∃ M1, f_X4_shortAnswer_20 fu (hm G 133 M) 133 what (nI k) = (f_X4_takeBack (hm G 133 M1) 133).bind (fun h1 => some (v, h1)) ∧ MK M M1 := by
  intro m
  induction m with
  | zero =>
    intro k fuel P d h0 hok hk hf
    obtain ⟨fuel, rfl⟩ : ∃ f, fuel = f + 1 := ⟨fuel - 1, by omega⟩
    refine ⟨P, shA P n d what, ?_, fun G M fu hfu hz hd => ?_⟩
    · show b_X3_ifShort_76 _ _ _ _ _ _ = _
      unfold b_X3_ifShort_76 b_X3_ifShort_130 shA
      rw [if_pos (by rw [show (100 : Int32) = nI 100 from rfl, nI_leI (by omega) (by omega)]; omega)]
      by_cases h : what = 0
      · rw [if_pos h, if_pos h]
      · rw [if_neg h, if_neg h, t_R1, obs]
        by_cases h2 : what = 1
        · rw [if_pos h2, if_pos h2, f_v1, f_mask T hn8 h0, obs]
        · rw [if_neg h2, if_neg h2, f_v1, f_mask T hn8 h0, obs]
    · obtain ⟨fu, rfl⟩ : ∃ f, fu = f + 1 := ⟨fu - 1, by omega⟩
      obtain ⟨-, -, z0, z1, z2, hrow, hw, hl, hwn, hok⟩ := hz
      have hb : 133 ≤ 134 := by decide
      refine ⟨M, ?_, MK_refl M⟩
      show b_X4_shortAnswer_20 _ _ _ _ _ = _
      unfold b_X4_shortAnswer_20 b_X4_shortAnswer_61 b_X4_shortAnswer_64 shA
      rw [if_pos (by rw [show (100 : Int32) = nI 100 from rfl, nI_leI (by omega) (by omega)]; omega)]
      by_cases h : what = 0
      · rw [if_pos h, if_pos h, m_I7 hb, obs, m_v hb, hd]
      · rw [if_neg h, if_neg h]
        by_cases h2 : what = 1
        · rw [if_pos h2, if_pos h2, m_v hb, z_maskS hb z0 hn8, obs, m_v hb, ma_congr (A := rowZ (M.2 1)) (A' := rowP P) (n := n) 3 (fun q hq => by rw [← hrow q hq])]
        · rw [if_neg h2, if_neg h2, m_v hb, z_maskS hb z0 hn8, obs, m_v hb, ma_congr (A := rowZ (M.2 1)) (A' := rowP P) (n := n) 5 (fun q hq => by rw [← hrow q hq])]
  | succ m ih =>
    intro k fuel P d h0 hok hk hf
    obtain ⟨fuel, rfl⟩ : ∃ f, fuel = f + 1 := ⟨fuel - 1, by omega⟩
    obtain ⟨P', e1, hp⟩ := f_tick T (P := P) hn8 h0
    have hok' : ∀ q, q < n → RowOK q (rowP P' q) := fun q hq => by rw [hp.1 q hq]; exact tkV_ok hq (hok q hq)
    obtain ⟨Q, v, i1, i2⟩ := ih (k + 1) fuel P' (d ||| jdF (rowP P') (rowP P) n 0 0) (hp.2.1.trans h0) hok' (by omega) (by omega)
    have hk100 : ¬ (100 : Int32) ≤ nI k := by
      rw [show (100 : Int32) = nI 100 from rfl, nI_leI (by omega) (by omega)]
      omega
    refine ⟨Q, v, ?_, fun G M fu hfu hz hd => ?_⟩
    · show b_X3_ifShort_76 _ _ _ _ _ _ = _
      unfold b_X3_ifShort_76
      rw [if_neg hk100, t_R1, obs, f_v1, e1, obs, t_R1, obs, f_v1, f_just T hn8 h0 hp, obs, obs, nI_1]
      exact i1
    · obtain ⟨fu, rfl⟩ : ∃ f, fu = f + 1 := ⟨fu - 1, by omega⟩
      obtain ⟨M', k1, k2, k3, k4, k5, k6, k7⟩ := z_tick (H := G) hz hp
      have hd' : M'.1.1 7 = d ||| jdF (rowP P') (rowP P) n 0 0 := by
        rw [k4, hd, fal_tick hok hp, ← jd_or, I32_or0]
      obtain ⟨M1, r1, r2⟩ := i2 G M' fu (by omega) k2 hd'
      refine ⟨M1, ?_, MK_trans ⟨k5, k6, k7⟩ r2⟩
      show b_X4_shortAnswer_20 _ _ _ _ _ = _
      unfold b_X4_shortAnswer_20
      rw [if_neg hk100, m_v (show 133 ≤ 134 by decide), k1, obs, nI_1]
      exact r1
theorem f_R9 (T : TS) : hR (HT T) 1 17 9 = some 23 := t_pR9 T (j := 1) (by decide)
theorem f_s9 (T : TS) (Q : PV) {r : Nat} (hr : r < 8) (x : Int32) : sI (HT (uP T 1 Q)) 23 (nI r) x = some (HT (uP T 1 (wA Q 9 r x))) := by
  rw [HT1 (uP T 1 Q), uP_at, p_s9 (b := 17) (by decide), bd_nI (by omega) (by decide), hp1, uP_uP]
theorem z_short38 {M : MV} (x y k c : Int32) : b_X4_ifShort_38 (hm G 133 M) 133 x y k 133 c = if c ≤ 0 then (f_X4_shortAnswer (hm G 133 (mS M 0 c)) 133 x y k).bind (fun p => some (p.1, p.2)) else some (0, hm G 133 (mS M 0 c)) := by
  unfold b_X4_ifShort_38 b_X4_ifShort_59
  simp only [m_P0 (show 133 ≤ 134 by decide), m_I0 (show 133 ≤ 134 by decide), m_v (show 133 ≤ 134 by decide), obs, mS_0]
theorem op_ifShort {n s : Nat} (h : INV T n s) (x y k : Int32) : OKc T (f_L_ifShort (HT T) 0 x y k 140) (fun h => vcall h 4 133 (f_X4_ifShort h 133 x y k)) := by
  have h' := h
  obtain ⟨hs, hS, hM, hσ, hz, ha, hv, hbf⟩ := h'
  have hz' := hz
  obtain ⟨hn8, h0, z0, z1, z2, hrow, hw, hl, hwn, hok⟩ := hz'
  have hb : 133 ≤ 134 := by decide
  unfold f_L_ifShort
  rw [t_v3]
  rcases rail_cases hn8 x with ⟨r, hr, rfl⟩ | hx
  · have hR := rail_not hn8 hr
    have hr8 : r < 8 := by omega
    by_cases hy : y < 1 ∨ 500 < y
    · have e1 : f_X3_ifShort (HT T) 0 (nI r) y k = some (.inl (0, HT T)) := by
        unfold f_X3_ifShort b_X3_ifShort_39
        rw [t_v3, c_isRail h0, obs, if_neg hR, if_neg n10]
        by_cases hy1 : y < 1
        · rw [if_pos hy1]
        · rw [if_neg hy1, if_pos (hy.resolve_left hy1)]
      rw [e1]
      refine OK_no h (c := 2) (by decide) rfl (fun G => ?_)
      unfold f_X4_ifShort b_X4_ifShort_37
      rw [m_v hb, z_isRail hb z0 hn8, obs, if_neg hR, if_neg n10, z_within, obs, if_pos hy, if_pos rfl, z_short38, if_neg (by decide)]
    · have hy1 : ¬ y < 1 := fun hh => hy (Or.inl hh)
      have hy2 : ¬ 500 < y := fun hh => hy (Or.inr hh)
      by_cases hk : k < 0 ∨ 2 < k
      · have e1 : f_X3_ifShort (HT T) 0 (nI r) y k = some (.inl (0, HT T)) := by
          unfold f_X3_ifShort b_X3_ifShort_39
          rw [t_v3, c_isRail h0, obs, if_neg hR, if_neg n10, if_neg hy1, if_neg hy2]
          by_cases hk0 : k < 0
          · rw [if_pos hk0]
          · rw [if_neg hk0, if_neg (by rw [Int32.not_le]; exact hk.resolve_left hk0)]
        rw [e1]
        refine OK_no h (c := 2) (by decide) rfl (fun G => ?_)
        unfold f_X4_ifShort b_X4_ifShort_37
        rw [m_v hb, z_isRail hb z0 hn8, obs, if_neg hR, if_neg n10, z_within, obs, if_neg hy, if_neg n10, z_within, obs, if_pos hk, if_pos rfl, z_short38, if_neg (by decide)]
      · have hk0 : ¬ k < 0 := fun hh => hk (Or.inl hh)
        have hk2 : k ≤ 2 := by rw [← Int32.not_lt]; exact fun hh => hk (Or.inr hh)
        have hy0 : 0 ≤ y.toInt := by
          rw [Int32.lt_iff_toInt_lt] at hy1
          have e1 : (1 : Int32).toInt = 1 := rfl
          omega
        have hzc : ∀ z : Nat → Int32, RZ n (T.1.2.2 0) z → RZ n (wA (cpP (T.1.2.2 0) (T.1.2.2 1)) 9 r y) (upd z (68 + 20 * r + 12) y) := fun z hz1 =>
          RZ_row (cp_RZ _ hz1) hr (by decide) (by decide) (rw_12 _ _ _) rfl rfl (RowOK_12 ((cp_RZ (T.1.2.2 1) hz1).2.2.2.2.2.2.2.2.2 r hr) hy0)
        have hzT := hzc _ hz
        obtain ⟨Q, v, e1, e2⟩ := both_shortLoop (T := T) hn8 k 100 0 FU (wA (cpP (T.1.2.2 0) (T.1.2.2 1)) 9 r y) 0 h0 hzT.2.2.2.2.2.2.2.2.2 (by omega) (by rw [FU_eq]; omega)
        have e3 : f_X3_ifShort (HT T) 0 (nI r) y k = some (.inr (v, HT (uP T 1 Q))) := by
          unfold f_X3_ifShort
          rw [t_v3, c_isRail h0, obs, if_neg hR, if_neg n10, if_neg hy1, if_neg hy2, if_neg hk0, if_pos hk2, t_R1, obs, t_R0, obs, f_v1, f_copy, obs, t_R1, obs, f_R9, obs, f_s9 T _ hr8, obs]
          exact e1
        rw [e3]
        refine OK_look h (a := v) Q ?_ (fun G => ?_)
        · rw [obs, Sum.elim_inr, t_sL, obs]
          rfl
        · obtain ⟨M1, r1, r2⟩ := e2 G (mS (wZ (w9 (mS T.2.2.1 0 0) (keF (T.2.2.1.2 1) (T.2.2.1.2 9) 228)) (upd (T.2.2.1.2 1) (68 + 20 * r + 12) y)) 7 0) FU (by rw [FU_eq]; omega) hzT rfl
          have hmk : MK (w9 (mS T.2.2.1 0 0) (keF (T.2.2.1.2 1) (T.2.2.1.2 9) 228)) M1 := by
            refine MK_trans (B := mS (wZ (w9 (mS T.2.2.1 0 0) (keF (T.2.2.1.2 1) (T.2.2.1.2 9) 228)) (upd (T.2.2.1.2 1) (68 + 20 * r + 12) y)) 7 0) ⟨fun j _ h7 => ?_, rfl, fun j a c => wZ_n _ _ a⟩ r2
            exact if_neg h7
          refine ⟨_, ?_, MK_back (M := mS T.2.2.1 0 0) hmk⟩
          unfold f_X4_ifShort
          rw [m_v hb, z_isRail hb z0 hn8, obs, if_neg hR, if_neg n10, z_within, obs, if_neg hy, if_neg n10, z_within, obs, if_neg hk, if_neg n10, z_short38, if_pos (by decide)]
          unfold f_X4_shortAnswer
          rw [m_v hb, z_keep hb, obs, m_v hb, m_lay12 hb hr8, obs, m_P7 hb, obs]
          refine (congrArg (fun o => Option.bind o (fun p => some (p.1, p.2))) r1).trans ?_
          rw [z_take hb, obs, obs]
  · have e1 : f_X3_ifShort (HT T) 0 x y k = some (.inl (2, HT T)) := by
      unfold f_X3_ifShort
      rw [t_v3, c_isRail h0, obs, if_pos hx, if_pos rfl]
    rw [e1]
    refine OK_no h (c := 1) (by decide) rfl (fun G => ?_)
    unfold f_X4_ifShort
    rw [m_v hb, z_isRail hb z0 hn8, obs, if_pos hx, if_pos rfl, z_short38, if_neg (by decide)]
