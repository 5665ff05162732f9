/-! the law's tick: its three loops -/
variable {G : GB} {c : Nat} {X : LX}
theorem law_mv {v g s : Int32} (hv : sm v) (hg : sm g) (hs : sm s) : (if g - v ≤ s then (if -s ≤ g - v then g else v - s) else v + s) = mvV g s v := by
  unfold mvV mmax mmin sm at *
  have e1 : (g - v).toInt = g.toInt - v.toInt := i_sub (by omega) (by omega)
  have e2 : (-s).toInt = -s.toInt := i_neg (by omega) (by omega)
  have e3 : (v - s).toInt = v.toInt - s.toInt := i_sub (by omega) (by omega)
  have e4 : (v + s).toInt = v.toInt + s.toInt := i_add (by omega) (by omega)
  simp only [Int32.le_iff_toInt_le, Int32.lt_iff_toInt_lt, e1, e2, e3, e4]
  split <;> (try split) <;> (try split) <;> (try split) <;> refine Int32.toInt_inj.1 ?_ <;> omega
def smR (row : Nat → Int32) : Prop := sm (row 10) ∧ sm (row 0) ∧ sm (row 1) ∧ sm (row 2)
theorem l_mvStep (hc : CK G c) {n r : Nat} (hn : X 4 0 = nI n) (hn6 : n ≤ 6) {s : Nat → Nat} (hs : ∀ k, s k < 8) (hr : r < n) (h9 : nI (s r) = rowX X r 9) (hm : smR (rowX X r)) (rec6 : MH → Nat → Nat → Nat → Nat → Nat → Int32 → Int32 → Option MH) : b_L_tick_6 rec6 (hl G c X) 133 c (c + 1) (c + 2) (c + 3) (nI (okN s r)) (nI r) = rec6 (hl G c (ux X 1 (9 * r + 3) (mvX (rowX X r)))) 133 c (c + 1) (c + 2) (c + 3) (nI (okN s (r + 1))) (nI (r + 1)) := by
  have e9 : X 1 (9 * r + 2) = rowX X r 9 := rfl
  have e10 : X 1 (9 * r + 3) = rowX X r 10 := rfl
  have e12 : X 1 (9 * r + 5) = rowX X r 12 := rfl
  have e0 : X 0 (7 * r) = rowX X r 0 := rfl
  have e1 : X 0 (7 * r + 1) = rowX X r 1 := rfl
  have e2 : X 0 (7 * r + 2) = rowX X r 2 := rfl
  have e161 : ∀ v : Int32, b_L_tick_161 rec6 (hl G c X) 133 c (c + 1) (c + 2) (c + 3) (nI (okN s r)) (nI r) (nI (9 * r)) c (nI (9 * r + 3)) v = rec6 (hl G c (ux X 1 (9 * r + 3) v)) 133 c (c + 1) (c + 2) (c + 3) (nI (okN s (r + 1))) (nI (r + 1)) := by
    intro v
    unfold b_L_tick_161
    rw [l_s1 hc, bd_nI (by omega) (by decide), obs, ixa2, l_a1 hc, bd_nI (by omega) (by decide), obs, ux_11, upd_n (by omega), e9, ← h9, jx3, old_or hs (by omega), obs, nI_1]
  have e102 : ∀ goal most : Int32, sm goal → sm most → b_L_tick_102 rec6 (hl G c X) 133 c (c + 1) (c + 2) (c + 3) (nI (okN s r)) (nI r) (nI (9 * r)) goal most = rec6 (hl G c (ux X 1 (9 * r + 3) (mvV goal most (rowX X r 10)))) 133 c (c + 1) (c + 2) (c + 3) (nI (okN s (r + 1))) (nI (r + 1)) := by
    intro goal most hg hmo
    rw [← law_mv hm.1 hg hmo]
    unfold b_L_tick_102
    rw [ixa3, l_a1 hc, bd_nI (by omega) (by decide), obs, obs, obs, obs, e10, e161, e161, e161]
    split
    · split <;> rfl
    · rfl
  have e56 : ∀ fed : Bool, b_L_tick_56 rec6 (hl G c X) 133 c (c + 1) (c + 2) (c + 3) (nI (okN s r)) (nI r) (nI (9 * r)) (if fed = true then 1 else 0) = rec6 (hl G c (ux X 1 (9 * r + 3) (if fed = true then mvV (rowX X r 0) (rowX X r 1) (rowX X r 10) else mvV 0 (rowX X r 2) (rowX X r 10)))) 133 c (c + 1) (c + 2) (c + 3) (nI (okN s (r + 1))) (nI (r + 1)) := by
    intro fed
    unfold b_L_tick_56 b_L_tick_74
    cases fed with
    | true =>
      rw [if_pos (c := true = true) rfl, if_pos (c := true = true) rfl, if_neg n10, jx7, l_a0 hc, bd_nI (by omega) (by decide), obs, if_neg n10, e0, ixa1, l_a0 hc, bd_nI (by omega) (by decide), obs, e1]
      exact e102 _ _ hm.2.1 hm.2.2.1
    | false =>
      rw [if_neg (show ¬ false = true by decide), if_neg (show ¬ false = true by decide), if_pos rfl, if_pos rfl, jx7, ixa2, l_a0 hc, bd_nI (by omega) (by decide), obs, e2]
      exact e102 _ _ (by unfold sm; decide) hm.2.2.2
  have f1 : b_L_tick_56 rec6 (hl G c X) 133 c (c + 1) (c + 2) (c + 3) (nI (okN s r)) (nI r) (nI (9 * r)) 1 = _ := e56 true
  have f0 : b_L_tick_56 rec6 (hl G c X) 133 c (c + 1) (c + 2) (c + 3) (nI (okN s r)) (nI r) (nI (9 * r)) 0 = _ := e56 false
  rw [if_pos rfl] at f1
  rw [if_neg (by decide)] at f0
  have e42 : b_L_tick_42 rec6 (hl G c X) 133 c (c + 1) (c + 2) (c + 3) (nI (okN s r)) (nI r) (nI (9 * r)) = rec6 (hl G c (ux X 1 (9 * r + 3) (if rowX X r 12 = 0 then mvV (rowX X r 0) (rowX X r 1) (rowX X r 10) else mvV 0 (rowX X r 2) (rowX X r 10)))) 133 c (c + 1) (c + 2) (c + 3) (nI (okN s (r + 1))) (nI (r + 1)) := by
    unfold b_L_tick_42 b_L_tick_55
    rw [ixa5, l_a1 hc, bd_nI (by omega) (by decide), obs, e12, f1, f0]
    split <;> rfl
  have hX : mvX (rowX X r) = if (rowX X r 9 = 2 ∨ rowX X r 9 = 3) ∧ rowX X r 12 = 0 then mvV (rowX X r 0) (rowX X r 1) (rowX X r 10) else mvV 0 (rowX X r 2) (rowX X r 10) := by
    unfold mvX fedR
    simp only [Bool.and_eq_true, Bool.or_eq_true, decide_eq_true_eq]
  unfold b_L_tick_6 b_L_tick_55
  rw [l_a4 hc, l6_0, obs, hn, if_neg (nI_ge (by omega) (by omega)), jx9, obs, ixa2, l_a1 hc, bd_nI (by omega) (by decide), obs, e9, e42, f0, obs, hX]
  by_cases c2 : rowX X r 9 = 2
  · rw [if_pos c2]
    by_cases c5 : rowX X r 12 = 0
    · rw [if_pos c5, if_pos ⟨Or.inl c2, c5⟩]
    · rw [if_neg c5, if_neg (fun h => c5 h.2)]
  · rw [if_neg c2]
    by_cases c3 : rowX X r 9 = 3
    · rw [if_pos c3]
      by_cases c5 : rowX X r 12 = 0
      · rw [if_pos c5, if_pos ⟨Or.inr c3, c5⟩]
      · rw [if_neg c5, if_neg (fun h => c5 h.2)]
    · rw [if_neg c3, if_neg (fun h => h.1.elim c2 c3)]
theorem l_mvLoop (hc : CK G c) {n : Nat} (hn6 : n ≤ 6) {s : Nat → Nat} (hs : ∀ k, s k < 8) : ∀ (m r fuel : Nat) (X : LX), X 4 0 = nI n → (∀ q, r ≤ q → q < n → nI (s q) = rowX X q 9 ∧ smR (rowX X q)) → r + m = n → m < fuel → ∃ X', f_L_tick_6 fuel (hl G c X) 133 c (c + 1) (c + 2) (c + 3) (nI (okN s r)) (nI r) = f_L_tick_187 FU (hl G c X') 133 c (c + 1) (c + 2) (c + 3) (nI (okN s n)) 0 ∧ rowX X' = rowsF (fun _ => mvR) (rowX X) r m ∧ X' 0 = X 0 ∧ X' 3 = X 3 ∧ X' 4 = X 4 ∧ ∀ w k, wnX X w k → wnX X' w k := by
  intro m
  induction m with
  | zero =>
    intro r fuel X hn hq hk hf
    obtain ⟨fuel, rfl⟩ : ∃ f, fuel = f + 1 := ⟨fuel - 1, by omega⟩
    obtain rfl : r = n := by omega
    refine ⟨X, ?_, (rowsF_0 _ _ _).symm, rfl, rfl, rfl, fun _ _ h => h⟩
    show b_L_tick_6 _ _ _ _ _ _ _ _ _ = _
    unfold b_L_tick_6
    rw [l_a4 hc, l6_0, obs, hn, if_pos (nI_le (by omega) (by omega))]
  | succ m ih =>
    intro r fuel X hn hq hk hf
    obtain ⟨fuel, rfl⟩ : ∃ f, fuel = f + 1 := ⟨fuel - 1, by omega⟩
    obtain ⟨h9, hm⟩ := hq r (Nat.le_refl _) (by omega)
    have hrow : rowX (ux X 1 (9 * r + 3) (mvX (rowX X r))) = setRow (rowX X) r (mvR (rowX X r)) := by
      rw [qx_10]
      rfl
    obtain ⟨X', g1, g2, g3, g4, g5, g6⟩ := ih (r + 1) fuel (ux X 1 (9 * r + 3) (mvX (rowX X r))) hn (fun q h1 h2 => by rw [hrow, sr_ne _ _ (by omega)]; exact hq q (by omega) h2) (by omega) (by omega)
    refine ⟨X', ?_, ?_, g3, g4, g5, fun w k h => g6 w k (wn_ux h (Or.inr (by omega)) _)⟩
    · show b_L_tick_6 _ _ _ _ _ _ _ _ _ = _
      rw [l_mvStep hc hn hn6 hs (by omega) h9 hm, g1]
    · rw [g2, hrow, ← rowsF_s]
theorem l_endLoop (hc : CK G c) {n : Nat} (hn6 : n ≤ 6) : ∀ (m r fuel : Nat) (X : LX), X 4 0 = nI n → r + m = n → m < fuel → ∃ X', f_L_tick_540 fuel (hl G c X) c (c + 1) (c + 3) (nI r) = some (hl G c X') ∧ rowX X' = rowsF (fun _ => endR) (rowX X) r m ∧ X' 0 = X 0 ∧ X' 3 = X 3 ∧ X' 4 = upd (X 4) 2 (X 4 2 + 1) ∧ ∀ w k, wnX X w k → wnX X' w k := by
  intro m
  induction m with
  | zero =>
    intro r fuel X hn hk hf
    obtain ⟨fuel, rfl⟩ : ∃ f, fuel = f + 1 := ⟨fuel - 1, by omega⟩
    refine ⟨ux X 4 2 (X 4 2 + 1), ?_, ?_, rfl, rfl, rfl, fun w k h => wn_ux h (Or.inl (by decide)) _⟩
    · show b_L_tick_540 _ _ _ _ _ _ = _
      unfold b_L_tick_540
      rw [l_a4 hc, l6_0, obs, hn, if_pos (nI_le (by omega) (by omega)), l_a4 hc, l6_2, obs, l_s4 hc, l6_2, obs]
    · rw [qx_o _ (by decide), rowsF_0]
  | succ m ih =>
    intro r fuel X hn hk hf
    obtain ⟨fuel, rfl⟩ : ∃ f, fuel = f + 1 := ⟨fuel - 1, by omega⟩
    have hr6 : r < 6 := by omega
    have e574 : ∀ Y : LX, b_L_tick_574 (f_L_tick_540 fuel) (hl G c Y) c (c + 1) (c + 3) (nI r) = f_L_tick_540 fuel (hl G c (ux Y 2 (4 * r + 3) (Y 2 (4 * r + 3) + (if rowX Y r 9 = 3 then 1 else 0)))) c (c + 1) (c + 3) (nI (r + 1)) := by
      intro Y
      have e9 : Y 1 (9 * r + 2) = rowX Y r 9 := rfl
      unfold b_L_tick_574 b_L_tick_601
      rw [ix4l, ixa3, l_a2 hc, bd_nI (by omega) (by decide), obs, jx9, ixa2, l_a1 hc, bd_nI (by omega) (by decide), obs, e9]
      simp (disch := omega) only [l_s2 hc, bd_nI, obs, nI_1]
      split <;> rfl
    have hend : ∀ Y : LX, rowX (ux Y 2 (4 * r + 3) (Y 2 (4 * r + 3) + (if rowX Y r 9 = 3 then 1 else 0))) = setRow (rowX Y) r (if rowX Y r 9 = 3 then upd (rowX Y r) 19 (rowX Y r 19 + 1) else rowX Y r) := by
      intro Y
      rw [qx_19]
      have e19 : Y 2 (4 * r + 3) = rowX Y r 19 := rfl
      rw [e19]
      split
      · rfl
      · rw [Int32.add_zero]
        congr 1
        funext q
        unfold upd
        by_cases hq : q = 19
        · rw [if_pos hq, hq]
        · rw [if_neg hq]
    have e12 : X 1 (9 * r + 5) = rowX X r 12 := rfl
    have key : ∃ Y, b_L_tick_540 (f_L_tick_540 fuel) (hl G c X) c (c + 1) (c + 3) (nI r) = f_L_tick_540 fuel (hl G c Y) c (c + 1) (c + 3) (nI (r + 1)) ∧ rowX Y = setRow (rowX X) r (endR (rowX X r)) ∧ Y 0 = X 0 ∧ Y 3 = X 3 ∧ Y 4 = X 4 ∧ ∀ w k, wnX X w k → wnX Y w k := by
      unfold b_L_tick_540
      rw [l_a4 hc, l6_0, obs, hn, if_neg (nI_ge (by omega) (by omega)), jx9, ixa5, l_a1 hc, bd_nI (by omega) (by decide), obs, obs, e12]
      unfold endR
      by_cases h : rowX X r 12 ≤ 0
      · rw [if_pos h, if_pos h, e574]
        refine ⟨_, rfl, hend X, rfl, rfl, rfl, fun w k hh => wn_ux hh (Or.inl (by decide)) _⟩
      · rw [if_neg h, if_neg h, l_s1 hc, bd_nI (by omega) (by decide), obs, e574]
        refine ⟨_, rfl, ?_, rfl, rfl, rfl, fun w k hh => wn_ux (wn_ux hh (Or.inr (by omega)) _) (Or.inl (by decide)) _⟩
        rw [hend, qx_12, sr_at, sr_sr]
        congr 1
    obtain ⟨Y, k1, k2, k3, k4, k5, k6⟩ := key
    obtain ⟨X', g1, g2, g3, g4, g5, g6⟩ := ih (r + 1) fuel Y (by rw [k5]; exact hn) (by omega) (by omega)
    refine ⟨X', ?_, ?_, g3.trans k3, g4.trans k4, by rw [g5, k5], fun w k h => g6 w k (k6 w k h)⟩
    · show b_L_tick_540 _ _ _ _ _ _ = _
      rw [k1, g1]
    · rw [g2, k2, ← rowsF_s]
theorem l_lookLoop (hc : CK G c) {n : Nat} (hn6 : n ≤ 6) {s : Nat → Nat} (hs : ∀ k, s k < 8) {V : Nat → Nat → Int32} {w res : Int32} (hV : ∀ q, q < n → nI (s q) = V q 9 ∧ st6 (V q 9) ∧ 0 ≤ (V q 13).toInt ∧ (V q 13).toInt < 2147483647) : ∀ (m r fuel : Nat) (X : LX), X 4 0 = nI n → X 4 1 = res → wnX X w n → rowX X = rowsT (lookR (fun q => nI (s q)) V w res n) V r → r + m = n → m < fuel → ∃ X', f_L_tick_187 fuel (hl G c X) 133 c (c + 1) (c + 2) (c + 3) (nI (okN s n)) (nI r) = f_L_tick_540 FU (hl G c X') c (c + 1) (c + 3) 0 ∧ rowX X' = rowsT (lookR (fun q => nI (s q)) V w res n) V n ∧ X' 0 = X 0 ∧ wnX X' w n ∧ LE X X' (entF (fun q => nI (s q)) V w res n r m) := by
  intro m
  induction m with
  | zero =>
    intro r fuel X hn hres hw hrow hk hf
    obtain ⟨fuel, rfl⟩ : ∃ f, fuel = f + 1 := ⟨fuel - 1, by omega⟩
    obtain rfl : r = n := by omega
    refine ⟨X, ?_, hrow, rfl, hw, LE_nil rfl rfl⟩
    show b_L_tick_187 _ _ _ _ _ _ _ _ _ = _
    unfold b_L_tick_187
    rw [l_a4 hc, l6_0, obs, hn, if_pos (nI_le (by omega) (by omega))]
  | succ m ih =>
    intro r fuel X hn hres hw hrow hk hf
    obtain ⟨fuel, rfl⟩ : ∃ f, fuel = f + 1 := ⟨fuel - 1, by omega⟩
    have hrn : r < n := by omega
    obtain ⟨v9, vst, vt1, vt2⟩ := hV r hrn
    have hrr : rowX X r = V r := by rw [hrow, rowsT_at]
    obtain ⟨Y, k1, k2, k3, k4, k5⟩ := l_step (rec := f_L_tick_187 fuel) (X := X) hc hn hn6 hs hrn hw (by rw [hrr]; exact v9) (by rw [hrr]; exact vst) (by rw [hrr]; exact ⟨vt1, vt2⟩)
    have hx : nsR (tb w r) (!decide (X 4 1 < rowX X r 10)) (flgR (rowX X r)) (restF (fun q => nI (s q)) (rowX X) (X 4 1) r (r + 1) (n - (r + 1))) (badR (fun q => nI (s q)) (rowX X) r) r (rowX X r) = stepT (fun q => nI (s q)) V w res n r := by
      have e := stepT_mid (fun q => nI (s q)) V w res n r (lookR (fun q => nI (s q)) V w res n) (fun q k h => lookR_keep _ _ _ _ _ q k h)
      rw [← hrow] at e
      rw [hres]
      exact e
    rw [hx, hrr] at k4 k5
    have hrow' : rowX Y = rowsT (lookR (fun q => nI (s q)) V w res n) V (r + 1) := by
      rw [k4, ← rowsT_s, hrow]
      rfl
    have d0 : Y 4 0 = X 4 0 := k5.1
    have d1 : Y 4 1 = X 4 1 := k5.2.1
    obtain ⟨X', g1, g2, g3, g4, g5⟩ := ih (r + 1) fuel Y (d0.trans hn) (d1.trans hres) (k3 w n hw) hrow' (by omega) (by omega)
    refine ⟨X', ?_, g2, g3.trans k2, g4, LE_trans k5 g5⟩
    show b_L_tick_187 _ _ _ _ _ _ _ _ _ = _
    rw [k1, g1]
/-- what the law's tick does -/
def TK (n : Nat) (w : Int32) (X X' : LX) : Prop := X' 0 = X 0 ∧ wnX X' w n ∧ (∀ q, q < n → rowX X' q = tkV (rowX X) w (X 4 1) n q) ∧ X' 4 0 = X 4 0 ∧ X' 4 1 = X 4 1 ∧ X' 4 2 = X 4 2 + 1 ∧ X' 4 4 = X 4 4 + nI (tkE (rowX X) w (X 4 1) n).length ∧ X' 4 5 = (tkE (rowX X) w (X 4 1) n).foldl falE (X 4 5) ∧ (∀ l, LGx l X → LGx ((tkE (rowX X) w (X 4 1) n).foldl (pushL (X 4 2)) l) X') ∧ ∀ q, n ≤ q → rowX X' q = rowX X q
theorem st6_8 {x : Int32} (h : st6 x) : x.toBitVec.toNat < 8 := by
  rcases h with rfl | rfl | rfl | rfl | rfl | rfl <;> decide
theorem l_tick (hc : CK G c) {n : Nat} (hn : X 4 0 = nI n) (hn6 : n ≤ 6) {w : Int32} (hw : wnX X w n) (hq : ∀ q, q < n → st6 (rowX X q 9) ∧ smR (rowX X q) ∧ 0 ≤ (rowX X q 13).toInt ∧ (rowX X q 13).toInt < 2147483647) : ∃ X', f_L_tick (hl G c X) 133 c (c + 1) (c + 2) (c + 3) = some (hl G c X') ∧ TK n w X X' := by
  obtain ⟨s, hs, hsn⟩ : ∃ s : Nat → Nat, (∀ k, s k < 8) ∧ ∀ q, q < n → nI (s q) = rowX X q 9 := by
    refine ⟨fun q => if q < n then (rowX X q 9).toBitVec.toNat else 0, fun k => ?_, fun q h => ?_⟩
    · show (if k < n then _ else _) < 8
      split
      · next h => exact st6_8 (hq k h).1
      · decide
    · show nI (if q < n then _ else _) = _
      rw [if_pos h, nI_nat]
  obtain ⟨X1, a1, a2, a3, a4, a5, a6⟩ := l_mvLoop (G := G) hc hn6 hs n 0 FU X hn (fun q _ h => ⟨hsn q h, (hq q h).2.1⟩) (by omega) (by rw [FU_eq]; omega)
  have hmv : ∀ q, q < n → rowX X1 q = mvR (rowX X q) := fun q h => by rw [a2, rowsF_in h]
  have hV : ∀ q, q < n → nI (s q) = rowX X1 q 9 ∧ st6 (rowX X1 q 9) ∧ 0 ≤ (rowX X1 q 13).toInt ∧ (rowX X1 q 13).toInt < 2147483647 := by
    intro q h
    have e9 : rowX X1 q 9 = rowX X q 9 := by rw [hmv q h]; exact mvR_keep _ (by decide)
    have e13 : rowX X1 q 13 = rowX X q 13 := by rw [hmv q h]; exact mvR_keep _ (by decide)
    rw [e9, e13]
    exact ⟨hsn q h, (hq q h).1, (hq q h).2.2⟩
  obtain ⟨X2, b1, b2, b3, b4, b5⟩ := l_lookLoop (G := G) hc hn6 hs (w := w) (res := X 4 1) hV n 0 FU X1 (by rw [a5]; exact hn) (by rw [a5]) (a6 w n hw) (rowsT_0 _ _).symm (by omega) (by rw [FU_eq]; omega)
  obtain ⟨d0, d1, d2, d4, d5, d6⟩ := b5
  obtain ⟨X3, c1, c2, c3, c4, c5, c6⟩ := l_endLoop (G := G) hc hn6 n 0 FU X2 (by rw [d0, a5]; exact hn) (by omega) (by rw [FU_eq]; omega)
  have hcong : ∀ q, q < n → (fun q => nI (s q)) q = (fun q => rowX X q 9) q ∧ rowX X1 q = rowsF (fun _ => mvR) (rowX X) 0 n q := fun q h => ⟨hsn q h, by rw [a2]⟩
  have hent : entF (fun q => nI (s q)) (rowX X1) w (X 4 1) n 0 n = tkE (rowX X) w (X 4 1) n := entF_congr hcong (fun _ _ => rfl) n 0 (by omega)
  rw [hent] at d4 d5 d6
  rw [a5] at d0 d1 d2 d4 d5 d6
  refine ⟨X3, ?_, c3.trans (b3.trans a3), c6 w n b4, fun q h => ?_, ?_, ?_, ?_, ?_, ?_, fun l hl => ?_, fun q h => ?_⟩
  · unfold f_L_tick
    have e0 : (0 : Int32) = nI (okN s 0) := rfl
    rw [show nI 0 = (0 : Int32) from rfl] at a1 b1 c1
    rw [show nI (okN s 0) = (0 : Int32) from rfl] at a1
    rw [a1, b1, c1]
  · rw [c2, rowsF_in h, tkV_in h, b2]
    congr 1
    exact (if_pos h).trans (lookR_congr h hcong rfl)
  · rw [c5, upd_n (by decide), d0]
  · rw [c5, upd_n (by decide), d1]
  · rw [c5, upd_s, d2]
  · rw [c5, upd_n (by decide), d4]
  · rw [c5, upd_n (by decide), d5]
  · have hl1 : LGx l X1 := ⟨hl.1, by rw [a5]; exact hl.2.1, fun i hi => by rw [a4]; exact hl.2.2 i hi⟩
    obtain ⟨e1, e2, e3⟩ := d6 l hl1
    exact ⟨e1, by rw [c5, upd_n (by decide)]; exact e2, fun i hi => by rw [c4]; exact e3 i hi⟩
  · rw [c2]
    refine (if_neg (by omega)).trans ?_
    rw [b2]
    refine (if_neg (by omega)).trans ?_
    rw [a2]
    exact if_neg (by omega)
