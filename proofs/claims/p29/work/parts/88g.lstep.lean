/-! the law's tick: one rail, all roads -/
variable {G : GB} {c : Nat} {X : LX}
variable {rec : MH → Nat → Nat → Nat → Nat → Nat → Int32 → Int32 → Option MH} {old : Int32}
theorem fin_enter (hc : CK G c) {r : Nat} (hr : r < 6) {Y : LX} {s : Int32} {row : Nat → Int32} {lhs : Option MH} (hs6 : st6 s) (hk : lhs = (f_L_enter (hl G c Y) (nI r) s c (c + 1) (c + 2) (c + 3)).bind fun h12 => rec h12 133 c (c + 1) (c + 2) (c + 3) old (nI (r + 1))) (hrow : rowX Y = setRow (rowX X) r row) (h0 : Y 0 = X 0) (hw : ∀ w n, wnX X w n → wnX Y w n) (h3 : Y 3 = X 3) (h4 : Y 4 = X 4) (hne : ¬ s = rowX X r 9) : ∃ X', lhs = rec (hl G c X') 133 c (c + 1) (c + 2) (c + 3) old (nI (r + 1)) ∧ ST X X' r (s, row) := by
  obtain ⟨X', e1, e2⟩ := l_enter (X := Y) hc hr hs6
  refine ⟨X', ?_, ST_enter hrow h0 hw h3 h4 hne e2⟩
  rw [hk, e1, obs]
theorem s6_0 : st6 0 := Or.inl rfl
theorem s6_1 : st6 1 := Or.inr (Or.inl rfl)
theorem s6_2 : st6 2 := Or.inr (Or.inr (Or.inl rfl))
theorem s6_3 : st6 3 := Or.inr (Or.inr (Or.inr (Or.inl rfl)))
theorem s6_4 : st6 4 := Or.inr (Or.inr (Or.inr (Or.inr (Or.inl rfl))))
theorem s6_5 : st6 5 := Or.inr (Or.inr (Or.inr (Or.inr (Or.inr rfl))))
theorem ne_of {x a b : Int32} (h : x = a) (hab : ¬ a = b) : ¬ x = b := by rw [h]; exact hab
/-- a blame: 24, 23, or 4 and twenty times more -/
theorem fin_b (hc : CK G c) {r m : Nat} (hr : r < 6) {now : Int32} (h9 : now = rowX X r 9) (h0 : ¬ now = 0) (hm : 20 ≤ m) (hm2 : m < 1000) (h6 : m % 20 ≠ 6) {s bl : Int32} (hs6 : st6 s) (es : nI (m % 20) = s) (eb : nI (m / 20) - 2 = bl) (hne : ¬ s = now) : ∃ X', b_L_tick_344 rec (hl G c X) 133 c (c + 1) (c + 2) (c + 3) old (nI r) (nI (9 * r)) now (nI m) = rec (hl G c X') 133 c (c + 1) (c + 2) (c + 3) old (nI (r + 1)) ∧ ST X X' r (s, upd (rowX X r) 15 bl) := by
  refine fin_enter hc hr (Y := ux X 1 (9 * r + 8) bl) hs6 ?_ (qx_15 _ _ _) rfl (fun w n h => wn_ux h (Or.inr (by omega)) _) rfl rfl (by rw [← h9]; exact hne)
  rw [k_b hc hr h0 hm hm2 h6, es, eb]
theorem fin_f (hc : CK G c) {r m : Nat} (hr : r < 6) {now : Int32} (h9 : now = rowX X r 9) (h0 : ¬ now = 0) (h4 : ¬ now = 4) (h5 : ¬ now = 5) (hm : m = 6 + 20 * (r + 2)) {row : Nat → Int32} (hrow : row = if now = 2 then upd (rowX X r) 13 (rowX X r 13 + 1) else rowX X r) : ∃ X', b_L_tick_344 rec (hl G c X) 133 c (c + 1) (c + 2) (c + 3) old (nI r) (nI (9 * r)) now (nI m) = rec (hl G c X') 133 c (c + 1) (c + 2) (c + 3) old (nI (r + 1)) ∧ ST X X' r (failR r row) := by
  have e14 : row 14 = rowX X r 14 := by rw [hrow]; split <;> rfl
  have e6 : row 6 = rowX X r 6 := by rw [hrow]; split <;> rfl
  have e18 : row 18 = rowX X r 18 := by rw [hrow]; split <;> rfl
  have eb : nI (m / 20) - 2 = nI r := by
    rw [show m / 20 = r + 2 by omega]
    exact jm (a := r + 2) (c := 2) (by omega)
  have hu0 : up6 now X r 0 = X 0 := by unfold up6; split <;> rfl
  have hu2 : up6 now X r 2 = X 2 := by unfold up6; split <;> rfl
  have hu3 : up6 now X r 3 = X 3 := by unfold up6; split <;> rfl
  have hu4 : up6 now X r 4 = X 4 := by unfold up6; split <;> rfl
  have hur : rowX (up6 now X r) = setRow (rowX X) r row := by
    unfold up6
    rw [hrow]
    split
    · rw [qx_13]; rfl
    · rw [sr_self]
  have hu7 : up6 now X r 1 (9 * r + 7) = X 1 (9 * r + 7) := by
    unfold up6
    split
    · rw [ux_11, upd_n (by omega)]
    · rfl
  have huw : ∀ w n, wnX X w n → wnX (up6 now X r) w n := by
    intro w n h
    unfold up6
    split
    · exact wn_ux h (Or.inr (by omega)) _
    · exact h
  unfold failR
  rw [e14, e6, e18]
  refine fin_enter hc hr (Y := faX (up6 now X r) r (nI r)) (s := if rowX X r 14 + 1 < rowX X r 6 then 4 else 5) ?_ ?_ ?_ ?_ ?_ ?_ ?_ ?_
  · split
    · exact s6_4
    · exact s6_5
  · rw [k_f hc hr h0 (by omega) (by omega) (by omega), eb]
    rfl
  · unfold faX
    rw [qx_18, qx_14, qx_15, hur]
    have t14 : up6 now X r 1 (9 * r + 7) = rowX X r 14 := hu7
    have t18 : up6 now X r 2 (4 * r + 2) = rowX X r 18 := by rw [hu2]; rfl
    simp only [sr_at, sr_sr, t14, t18]
  · exact hu0
  · intro w n h
    unfold faX
    exact wn_ux (wn_ux (wn_ux (huw w n h) (Or.inr (by omega)) _) (Or.inr (by omega)) _) (Or.inl (by decide)) _
  · exact hu3
  · exact hu4
  · rw [← h9]
    split
    · exact fun h => h4 h.symm
    · exact fun h => h5 h.symm
theorem succ_lt {x y : Int32} (hx : 0 ≤ x.toInt ∧ x.toInt < 2147483647) : (y < x + 1) ↔ ¬ x < y := by
  have e1 : (1 : Int32).toInt = 1 := rfl
  rw [Int32.lt_iff_toInt_lt, Int32.lt_iff_toInt_lt, i_add (by omega) (by omega), e1]
  omega
theorem c4 (k : Nat) : (4 : Int32) + 20 * (nI k + 2) = nI (4 + 20 * (k + 2)) := by
  rw [ixa2, ix20, ix4p]
theorem c6 (k : Nat) : (6 : Int32) + 20 * (nI k + 2) = nI (6 + 20 * (k + 2)) := by
  rw [ixa2, ix20, jx6]
theorem fin_D (hc : CK G c) {n r : Nat} (hn6 : n ≤ 6) (hr : r < n) {now : Int32} (h9 : now = rowX X r 9) {wn flag rest dis : Bool} {bad : Int32} (h23 : (now = 2 ∧ wn = true) ∨ now = 3) (hb : bad = -1 ∨ ∃ k, k < r ∧ bad = nI k) (hwn : now = 2 → wn = true) : ∃ X', b_L_tick_344 rec (hl G c X) 133 c (c + 1) (c + 2) (c + 3) old (nI r) (nI (9 * r)) now (toD wn flag rest bad r (rowX X r)) = rec (hl G c X') 133 c (c + 1) (c + 2) (c + 3) old (nI (r + 1)) ∧ ST X X' r (nsR wn dis flag rest bad r (rowX X r)) := by
  have h0 : ¬ now = 0 := by rcases h23 with h | h
                            · exact ne_of h.1 (by decide)
                            · exact ne_of h (by decide)
  have h1 : ¬ now = 1 := by rcases h23 with h | h
                            · exact ne_of h.1 (by decide)
                            · exact ne_of h (by decide)
  have h4 : ¬ now = 4 := by rcases h23 with h | h
                            · exact ne_of h.1 (by decide)
                            · exact ne_of h (by decide)
  have h5 : ¬ now = 5 := by rcases h23 with h | h
                            · exact ne_of h.1 (by decide)
                            · exact ne_of h (by decide)
  have hr6 : r < 6 := by omega
  have r0 : ¬ rowX X r 9 = 0 := by rw [← h9]; exact h0
  have r1 : ¬ rowX X r 9 = 1 := by rw [← h9]; exact h1
  unfold toD nsR
  rw [if_neg r0, if_neg r1]
  rcases hb with rfl | ⟨k, hk, rfl⟩
  · rw [if_pos rfl, if_pos rfl]
    by_cases h2 : rowX X r 9 = 2
    · have hw1 : wn = true := hwn (h9.trans h2)
      subst hw1
      rw [if_pos h2, if_pos h2, if_pos rfl]
      cases flag with
      | true =>
        rw [if_pos rfl, if_pos rfl]
        exact fin_b hc hr6 (m := 23) h9 h0 (by decide) (by decide) (by decide) s6_3 rfl (by decide) (by rw [h9, h2]; decide)
      | false =>
        rw [if_neg (show ¬ false = true by decide), if_neg (show ¬ false = true by decide)]
        by_cases h : rowX X r 13 + 1 < rowX X r 5
        · rw [if_pos h, if_pos h, h9, h2]
          exact ⟨_, k_rise hc hr6, ST_13 X r h2.symm⟩
        · rw [if_neg h, if_neg h, c6]
          exact fin_f hc hr6 h9 h0 h4 h5 rfl (by rw [if_pos (h9.trans h2)])
    · have h3 : rowX X r 9 = 3 := by
        rcases h23 with h | h
        · exact absurd (h9.symm.trans h.1) h2
        · exact h9.symm.trans h
      have h2' : ¬ now = 2 := by rw [h9]; exact h2
      rw [if_neg h2, if_neg h2, if_pos h3, if_pos rfl]
      cases flag with
      | false =>
        rw [if_neg (show ¬ false = true by decide), if_neg (show ¬ false = true by decide), c6]
        exact fin_f hc hr6 h9 h0 h4 h5 rfl (by rw [if_neg h2'])
      | true =>
        rw [if_pos rfl, if_pos rfl]
        cases wn with
        | true =>
          rw [if_pos rfl, if_pos rfl]
          exact ⟨X, k_stay h2', ST_id X r h3.symm⟩
        | false =>
          rw [if_neg (show ¬ false = true by decide), if_neg (show ¬ false = true by decide)]
          cases rest with
          | true =>
            rw [if_pos rfl, if_pos rfl]
            exact fin_b hc hr6 (m := 24) h9 h0 (by decide) (by decide) (by decide) s6_4 rfl (by decide) (by rw [h9, h3]; decide)
          | false =>
            rw [if_neg (show ¬ false = true by decide), if_neg (show ¬ false = true by decide)]
            exact ⟨X, k_stay h2', ST_id X r h3.symm⟩
  · rw [if_neg (nI_m1 (show k < 2 ^ 31 by omega)), c4]
    have fb := fin_b (rec := rec) (old := old) hc hr6 (m := 4 + 20 * (k + 2)) h9 h0 (by omega) (by omega) (by omega) (s := 4) (bl := nI k) s6_4 (by rw [show (4 + 20 * (k + 2)) % 20 = 4 by omega]; rfl) (by rw [show (4 + 20 * (k + 2)) / 20 = k + 2 by omega]; exact jm (a := k + 2) (c := 2) (by omega)) (fun h => h4 h.symm)
    by_cases h2 : rowX X r 9 = 2
    · have hw1 : wn = true := hwn (h9.trans h2)
      subst hw1
      rw [if_pos h2, if_pos rfl, if_neg (nI_m1 (show k < 2 ^ 31 by omega))]
      exact fb
    · have h3 : rowX X r 9 = 3 := by
        rcases h23 with h | h
        · exact absurd (h9.symm.trans h.1) h2
        · exact h9.symm.trans h
      rw [if_neg h2, if_pos h3, if_neg (nI_m1 (show k < 2 ^ 31 by omega))]
      exact fb
theorem l_step (hc : CK G c) {n r : Nat} (hn : X 4 0 = nI n) (hn6 : n ≤ 6) {s : Nat → Nat} (hs : ∀ k, s k < 8) (hr : r < n) {w : Int32} (hw : wnX X w n) (h9 : nI (s r) = rowX X r 9) (hst : st6 (rowX X r 9)) (ht : 0 ≤ (rowX X r 13).toInt ∧ (rowX X r 13).toInt < 2147483647) : ∃ X', b_L_tick_187 rec (hl G c X) 133 c (c + 1) (c + 2) (c + 3) (nI (okN s n)) (nI r) = rec (hl G c X') 133 c (c + 1) (c + 2) (c + 3) (nI (okN s n)) (nI (r + 1)) ∧ ST X X' r (nsR (tb w r) (!decide (X 4 1 < rowX X r 10)) (flgR (rowX X r)) (restF (fun q => nI (s q)) (rowX X) (X 4 1) r (r + 1) (n - (r + 1))) (badR (fun q => nI (s q)) (rowX X) r) r (rowX X r)) := by
  have hr6 : r < 6 := by omega
  have hb : badR (fun q => nI (s q)) (rowX X) r = -1 ∨ ∃ k, k < r ∧ badR (fun q => nI (s q)) (rowX X) r = nI k := by
    rcases badF_ok (fun q => nI (s q)) (rowX X) (rowX X r 7) r 0 with h | ⟨j, h1, h2⟩
    · exact Or.inl h
    · exact Or.inr ⟨j, by omega, h2⟩
  have e9 : X 1 (9 * r + 2) = rowX X r 9 := rfl
  unfold b_L_tick_187
  rw [l_a4 hc, l6_0, obs, hn, if_neg (nI_ge (by omega) (by omega)), jx9, obs, ixa2, l_a1 hc, bd_nI (by omega) (by decide), obs, l_next hc hn hn6 hs hr hw h9, obs, e9]
  generalize hgf : flgR (rowX X r) = flag
  generalize hgr : restF (fun q => nI (s q)) (rowX X) (X 4 1) r (r + 1) (n - (r + 1)) = rest
  rcases hst with h | h | h | h | h | h
  · -- off
    rw [if_neg (ne_of h (by decide))]
    unfold toC nsR
    rw [if_pos h, if_pos h]
    cases tb w r with
    | true =>
      rw [if_pos rfl, if_pos rfl]
      refine fin_enter hc hr6 s6_1 (k_1 hc hr6 (ne_of h (by decide))) ?_ ?_ ?_ ?_ ?_ (by rw [h]; decide)
      · unfold un7
        rw [if_pos h, qx_14, qx_13, sr_sr, sr_at]
      · unfold un7; rw [if_pos h]; rfl
      · intro w n hh
        unfold un7
        rw [if_pos h]
        exact wn_ux (wn_ux hh (Or.inr (by omega)) _) (Or.inr (by omega)) _
      · unfold un7; rw [if_pos h]; rfl
      · unfold un7; rw [if_pos h]; rfl
    | false =>
      rw [if_neg (show ¬ false = true by decide), if_neg (show ¬ false = true by decide)]
      exact ⟨X, k_stay (ne_of h (by decide)), ST_id X r h.symm⟩
  · -- waiting
    rw [if_pos h]
    unfold toC nsR
    rw [if_neg (ne_of h (by decide)), if_pos h, if_neg (ne_of h (by decide)), if_pos h]
    have e253 : ∀ b : Bool, b_L_tick_253 rec (hl G c X) 133 c (c + 1) (c + 2) (c + 3) (nI (okN s n)) (nI r) (nI (9 * r)) (rowX X r 9) (-1) (if b = true then 1 else 0) = rec (hl G c (ux X 1 (9 * r + 6) (if b = true ∧ badR (fun q => nI (s q)) (rowX X) r = -1 then X 1 (9 * r + 6) + 1 else 0))) 133 c (c + 1) (c + 2) (c + 3) (nI (okN s n)) (nI (r + 1)) := by
      intro b
      unfold b_L_tick_253
      have e := k_can (rec := rec) (X := X) hc hn6 hs hr (now := rowX X r 9) (to := -1) r 0 FU b (by omega) (by rw [FU_eq]; omega)
      rw [show nI 0 = (0 : Int32) from rfl] at e
      rw [e, k_stay (ne_of h (by decide))]
      rfl
    have f1 : b_L_tick_253 rec (hl G c X) 133 c (c + 1) (c + 2) (c + 3) (nI (okN s n)) (nI r) (nI (9 * r)) (rowX X r 9) (-1) 1 = _ := e253 true
    have f0 : b_L_tick_253 rec (hl G c X) 133 c (c + 1) (c + 2) (c + 3) (nI (okN s n)) (nI r) (nI (9 * r)) (rowX X r 9) (-1) 0 = _ := e253 false
    have e10 : X 1 (9 * r + 3) = rowX X r 10 := rfl
    have e13 : X 1 (9 * r + 6) = rowX X r 13 := rfl
    cases tb w r with
    | false =>
      rw [if_neg (show ¬ false = true by decide), if_neg (show ¬ false = true by decide), if_pos (by decide)]
      refine fin_enter hc hr6 (Y := X) s6_0 (k_0 hc (ne_of h (by decide))) (sr_self _ _).symm rfl (fun _ _ h => h) rfl rfl (by rw [h]; decide)
    | true =>
      rw [if_pos rfl, if_pos rfl]
      by_cases hd : X 4 1 < rowX X r 10
      · rw [decide_eq_true hd]
        rw [if_neg (show ¬ (!true) = true by decide), if_neg (show ¬ (!true) = true by decide), if_neg m1_le, ixa3, l_a1 hc, bd_nI (by omega) (by decide), obs, l_a4 hc, l6_1, obs, e10, if_pos hd, f0, if_neg (fun hh => absurd hh.1 (by decide))]
        exact ⟨_, rfl, ST_13 X r h.symm⟩
      · rw [decide_eq_false hd]
        rw [if_pos (show (!false) = true by decide), if_pos (show (!false) = true by decide)]
        rcases hb with hb | ⟨k, hk, hb⟩
        · rw [if_pos hb, if_pos hb]
          by_cases h134 : rowX X r 13 < rowX X r 4
          · rw [if_pos h134, if_neg (show ¬ rowX X r 4 < rowX X r 13 + 1 from fun hh => (succ_lt ht).1 hh h134), if_neg m1_le, ixa3, l_a1 hc, bd_nI (by omega) (by decide), obs, l_a4 hc, l6_1, obs, e10, if_neg hd, f1, if_pos ⟨rfl, hb⟩, e13]
            exact ⟨_, rfl, ST_13 X r h.symm⟩
          · rw [if_neg h134, if_pos ((succ_lt ht).2 h134), if_pos (by decide)]
            refine fin_enter hc hr6 s6_2 (k_2 hc hr6 (ne_of h (by decide)) (ne_of h (by decide))) ?_ rfl (fun w n hh => wn_ux hh (Or.inr (by omega)) _) rfl rfl (by rw [h]; decide)
            rw [qx_13]
            congr 1
            funext q
            unfold upd
            by_cases hq : q = 13
            · rw [if_pos hq, if_pos hq]
            · rw [if_neg hq, if_neg hq, if_neg hq]
        · have hb1 : ¬ badR (fun q => nI (s q)) (rowX X) r = -1 := by rw [hb]; exact nI_m1 (by omega)
          rw [if_neg hb1, if_neg hb1, if_neg m1_le, ixa3, l_a1 hc, bd_nI (by omega) (by decide), obs, l_a4 hc, l6_1, obs, e10, if_neg hd, f1, if_neg (fun hh => hb1 hh.2)]
          exact ⟨_, rfl, ST_13 X r h.symm⟩
  · -- rising
    rw [if_neg (ne_of h (by decide))]
    cases hwn : tb w r with
    | true =>
      have e : toC true (!decide (X 4 1 < rowX X r 10)) flag rest (badR (fun q => nI (s q)) (rowX X) r) r (rowX X r) = toD true flag rest (badR (fun q => nI (s q)) (rowX X) r) r (rowX X r) := by
        unfold toC
        rw [if_neg (ne_of h (by decide)), if_neg (ne_of h (by decide)), if_neg (ne_of h (by decide)), if_neg (ne_of h (by decide)), if_pos h, if_pos rfl]
      rw [e]
      exact fin_D (wn := true) hc hn6 hr rfl (Or.inl ⟨h, rfl⟩) hb (fun _ => rfl)
    | false =>
      have e : toC false (!decide (X 4 1 < rowX X r 10)) flag rest (badR (fun q => nI (s q)) (rowX X) r) r (rowX X r) = nI 24 := by
        unfold toC
        rw [if_neg (ne_of h (by decide)), if_neg (ne_of h (by decide)), if_neg (ne_of h (by decide)), if_neg (ne_of h (by decide)), if_pos h]
        rfl
      rw [e]
      unfold nsR
      rw [if_neg (ne_of h (by decide)), if_neg (ne_of h (by decide)), if_pos h, if_neg (show ¬ false = true by decide)]
      exact fin_b hc hr6 (m := 24) rfl (ne_of h (by decide)) (by decide) (by decide) (by decide) s6_4 rfl (by decide) (by rw [h]; decide)
  · -- good
    rw [if_neg (ne_of h (by decide))]
    have e : toC (tb w r) (!decide (X 4 1 < rowX X r 10)) flag rest (badR (fun q => nI (s q)) (rowX X) r) r (rowX X r) = toD (tb w r) flag rest (badR (fun q => nI (s q)) (rowX X) r) r (rowX X r) := by
      unfold toC
      rw [if_neg (ne_of h (by decide)), if_neg (ne_of h (by decide)), if_neg (ne_of h (by decide)), if_neg (ne_of h (by decide)), if_neg (ne_of h (by decide))]
    rw [e]
    exact fin_D hc hn6 hr rfl (Or.inr h) hb (fun hh => absurd (h.symm.trans hh) (by decide))
  · -- falling
    rw [if_neg (ne_of h (by decide))]
    unfold toC nsR
    rw [if_neg (ne_of h (by decide)), if_neg (ne_of h (by decide)), if_pos h, if_neg (ne_of h (by decide)), if_neg (ne_of h (by decide)), if_neg (ne_of h (by decide)), if_neg (ne_of h (by decide)), if_pos h]
    cases (!decide (X 4 1 < rowX X r 10)) with
    | false =>
      rw [if_neg (show ¬ false = true by decide), if_neg (show ¬ false = true by decide)]
      exact ⟨X, k_stay (ne_of h (by decide)), ST_id X r h.symm⟩
    | true =>
      rw [if_pos rfl, if_pos rfl]
      cases tb w r with
      | true =>
        rw [if_pos rfl, if_pos rfl]
        refine fin_enter hc hr6 s6_1 (k_1 hc hr6 (ne_of h (by decide))) ?_ ?_ ?_ ?_ ?_ (by rw [h]; decide)
        · unfold un7
          rw [if_neg (ne_of h (by decide)), qx_13]
        · unfold un7; rw [if_neg (ne_of h (by decide))]; rfl
        · intro w n hh
          unfold un7
          rw [if_neg (ne_of h (by decide))]
          exact wn_ux hh (Or.inr (by omega)) _
        · unfold un7; rw [if_neg (ne_of h (by decide))]; rfl
        · unfold un7; rw [if_neg (ne_of h (by decide))]; rfl
      | false =>
        rw [if_neg (show ¬ false = true by decide), if_neg (show ¬ false = true by decide)]
        exact fin_enter hc hr6 (Y := X) s6_0 (k_0 hc (ne_of h (by decide))) (sr_self _ _).symm rfl (fun _ _ h => h) rfl rfl (by rw [h]; decide)
  · -- failed
    rw [if_neg (ne_of h (by decide))]
    unfold toC nsR
    rw [if_neg (ne_of h (by decide)), if_neg (ne_of h (by decide)), if_neg (ne_of h (by decide)), if_pos h, if_neg (ne_of h (by decide)), if_neg (ne_of h (by decide)), if_neg (ne_of h (by decide)), if_neg (ne_of h (by decide)), if_neg (ne_of h (by decide))]
    cases tb w r with
    | true =>
      rw [if_pos rfl, if_pos rfl]
      exact ⟨X, k_stay (ne_of h (by decide)), ST_id X r h.symm⟩
    | false =>
      rw [if_neg (show ¬ false = true by decide), if_neg (show ¬ false = true by decide)]
      cases (!decide (X 4 1 < rowX X r 10)) with
      | true =>
        rw [if_pos rfl, if_pos rfl]
        exact fin_enter hc hr6 (Y := X) s6_0 (k_0 hc (ne_of h (by decide))) (sr_self _ _).symm rfl (fun _ _ h => h) rfl rfl (by rw [h]; decide)
      | false =>
        rw [if_neg (show ¬ false = true by decide), if_neg (show ¬ false = true by decide)]
        exact ⟨X, k_stay (ne_of h (by decide)), ST_id X r h.symm⟩
