/-! the class tells what the law holds: the loops -/
variable {T : TS} {X : LX} {n s : Nat}
def okT (T : TS) (X : LX) : Option (Int32 × MH) := some (1, HT (uL T 134 X))
theorem nu7 (P : PV) (n r : Nat) : nuF P n r 7 = rowP P r 7 := by
  unfold nuF
  rw [if_neg (by decide), if_neg (by decide), if_neg (by decide), if_neg (by decide), if_pos (by decide)]
theorem nu8 (P : PV) (n r : Nat) : nuF P n r 8 = foF (P.2 5) n 0 (bitI r) &&& (bitI r ^^^ (-1 : Int32)) := by
  unfold nuF
  rw [if_pos rfl]
theorem nu9 (P : PV) (n r : Nat) : nuF P n r 9 = if tb (P.1 3) r = true then 1 else 0 := by
  unfold nuF
  rw [if_neg (by decide), if_pos rfl]
theorem nu10 (P : PV) (n r : Nat) : nuF P n r 10 = rowP P r 9 := by
  unfold nuF
  rw [if_neg (by decide), if_neg (by decide), if_neg (by decide), if_neg (by decide), if_neg (by decide), if_pos (by decide)]
theorem nu11 (P : PV) (n r : Nat) : nuF P n r 11 = rowP P r 10 := by
  unfold nuF
  rw [if_neg (by decide), if_neg (by decide), if_neg (by decide), if_neg (by decide), if_neg (by decide), if_pos (by decide)]
theorem nu12 (P : PV) (n r : Nat) : nuF P n r 12 = if flgR (rowP P r) = true then 1 else 0 := by
  unfold nuF
  rw [if_neg (by decide), if_neg (by decide), if_pos rfl]
theorem l6c {k : Nat} (hk : k < 6) {α : Type} {f : Nat → α} : bd 6 (nI k) f = some (f k) := bd_nI hk (by decide)
theorem told_end (h : RLT T X n s) (fuel : Nat) : f_L_told_385 (fuel + 1) (HT (uL T 134 X)) 0 134 136 137 (suF (rowP (T.1.2.2 0)) 10 n 0 0) (suF (rowP (T.1.2.2 0)) 19 n 0 0) 64 = okT T X := by
  have h' := h
  obtain ⟨⟨hn6, h0, x0, x1, x2, hrow, hw, hlg, hwn, hok, htb⟩, hi, ha⟩ := h'
  have hn8 : n ≤ 8 := Nat.le_trans hn6 (by decide)
  obtain ⟨x, y1, y2, y3, y4⟩ := share_told h
  have cnt : ∀ w, w < 9 → f_X3_count (HT (uL T 134 X)) 0 (nI w) = some (coF (T.1.2.2 0) n s w, HT (uL T 134 X)) := fun w hw => v_count (T := uL T 134 X) hi.2.1 hn8 h0 hw
  have c0 : f_X3_count (HT (uL T 134 X)) 0 0 = some ((T.1.2.2 0).1 0, HT (uL T 134 X)) := cnt 0 (by decide)
  have c1 : f_X3_count (HT (uL T 134 X)) 0 1 = some ((T.1.2.2 0).1 1, HT (uL T 134 X)) := cnt 1 (by decide)
  have c2 : f_X3_count (HT (uL T 134 X)) 0 2 = some ((T.1.2.2 0).1 2, HT (uL T 134 X)) := cnt 2 (by decide)
  have c3 : f_X3_count (HT (uL T 134 X)) 0 3 = some ((T.1.2.2 0).1 3, HT (uL T 134 X)) := cnt 3 (by decide)
  have c4 : f_X3_count (HT (uL T 134 X)) 0 4 = some (maS (rowP (T.1.2.2 0)) 3 n, HT (uL T 134 X)) := cnt 4 (by decide)
  have c5 : f_X3_count (HT (uL T 134 X)) 0 5 = some (maS (rowP (T.1.2.2 0)) 5 n, HT (uL T 134 X)) := cnt 5 (by decide)
  have c6 : f_X3_count (HT (uL T 134 X)) 0 6 = some ((T.1.2.2 0).1 4, HT (uL T 134 X)) := cnt 6 (by decide)
  have c7 : f_X3_count (HT (uL T 134 X)) 0 7 = some (suF (rowP (T.1.2.2 0)) 10 n 0 0, HT (uL T 134 X)) := cnt 7 (by decide)
  have m1 : f_L_mask (HT (uL T 134 X)) 1 1 134 137 = some ((T.1.2.2 0).1 3) := by
    have e := y_mask (T := T) x0 hn6 (p := 1) (by decide) 1
    refine e.trans (congrArg some ?_)
    rw [mk_congr (g := fun q => tb ((T.1.2.2 0).1 3) q) (fun q hq => by
      rw [hw q hq]
      cases tb ((T.1.2.2 0).1 3) q <;> decide)]
    exact mk_tb hwn
  have mS : ∀ v : Int32, f_L_mask (HT (uL T 134 X)) 2 v 134 137 = some (maS (rowP (T.1.2.2 0)) v n) := by
    intro v
    have e := y_mask (T := T) x0 hn6 (p := 2) (by decide) v
    refine e.trans (congrArg some ?_)
    unfold maS
    rw [mk_congr (g := fun q => decide (rowP (T.1.2.2 0) q 9 = v)) (fun q hq => by rw [hrow q hq]; rfl)]
  have e3 : X 4 3 = (T.1.2.2 0).1 4 := hlg.2.1
  show b_L_told_385 _ _ _ _ _ _ _ _ _ = _
  unfold b_L_told_385 b_L_told_584 b_L_told_585 b_L_told_576
  rw [if_pos (by decide)]
  simp only [obs, t_v3, c0, c1, c2, c3, c4, c5, c6, c7, m1, mS, y_a4, l6_0, l6_1, l6_2, l6_3, x0, x1, x2, e3, h0, if_true]
  rw [show f_X3_goodShare (HT (uL T 134 X)) 0 = some x from share_told_eq h y1, obs]
  by_cases hz : (T.1.2.2 0).1 1 * nI n = 0
  · rw [if_pos hz, y2 hz, if_pos cmp_00]
    rfl
  · obtain ⟨y, z1, z2⟩ := y3 hz
    rw [if_neg hz, z1, obs, z2, obs, if_pos y4]
    rfl
theorem told_entries (h : RLT T X n s) : ∀ (m k fuel : Nat), k + m = 64 → m < fuel → f_L_told_385 fuel (HT (uL T 134 X)) 0 134 136 137 (suF (rowP (T.1.2.2 0)) 10 n 0 0) (suF (rowP (T.1.2.2 0)) 19 n 0 0) (nI k) = okT T X := by
  have h' := h
  obtain ⟨⟨hn6, h0, x0, x1, x2, hrow, hw, ⟨⟨l, hl, l1⟩, hl3, hl4⟩, hwn, hok, htb⟩, hi, ha⟩ := h'
  have l1' : (T.1.2.2 0).1 4 = nI l := l1
  intro m
  induction m with
  | zero =>
    intro k fuel hk hf
    obtain ⟨fuel, rfl⟩ : ∃ f, fuel = f + 1 := ⟨fuel - 1, by omega⟩
    obtain rfl : k = 64 := by omega
    exact told_end h fuel
  | succ m ih =>
    intro k fuel hk hf
    obtain ⟨fuel, rfl⟩ : ∃ f, fuel = f + 1 := ⟨fuel - 1, by omega⟩
    have ih := ih (k + 1) fuel (by omega) (by omega)
    have ed : fidiv (nI k) 4 = some (nI (k / 4)) := i_div (c := 4) (by omega) (by decide) (by decide)
    have er : firem (nI k) 4 = some (nI (k % 4)) := i_mod (c := 4) (by omega) (by decide) (by decide)
    have ee : f_X3_entry (HT (uL T 134 X)) 0 (nI (k / 4)) (nI (k % 4)) = some (if l ≤ k / 4 then -1 else (T.1.2.2 0).2 14 (4 * (k / 4) + k % 4), HT (uL T 134 X)) := v_entry (T := uL T 134 X) hl l1' (by omega) (by omega)
    have e3 : X 4 3 = nI l := hl3.trans l1
    have ek : 4 * (k / 4) + k % 4 = k := Nat.div_add_mod k 4
    have e4 : X 3 k = (T.1.2.2 0).2 14 k := hl4 k (by omega)
    rw [ek] at ee
    show b_L_told_385 _ _ _ _ _ _ _ _ _ = _
    unfold b_L_told_385 b_L_told_424
    rw [if_neg (show ¬ (64 : Int32) ≤ nI k from nI_ge (a := k) (b := 64) (by omega) (by decide)), ed, obs, er, obs, t_v3, ee, obs, obs]
    simp only [y_a4, l6_3, obs, y_a3, e3]
    rw [bd_nI (show k < 64 by omega) (by decide), obs, nI_1]
    by_cases hlk : l ≤ k / 4
    · rw [if_pos (nI_le hlk (by omega)), if_pos hlk, if_pos rfl]
      exact ih
    · rw [if_neg (nI_ge (by omega) (by omega)), if_neg hlk, if_pos e4.symm]
      exact ih
variable {rec9 : MH → Nat → Nat → Nat → Nat → Nat → Nat → Int32 → Int32 → Int32 → Option (Int32 × MH)} {v g : Int32}
theorem told_342 (h : RLT T X n s) {r : Nat} (hr : r < n) : ∀ (m k fuel : Nat), k + m = 4 → m < fuel → f_L_told_342 rec9 fuel (HT (uL T 134 X)) 0 133 134 135 136 137 v g (nI r) (nI k) = rec9 (HT (uL T 134 X)) 0 133 134 135 136 137 v g (nI (r + 1)) := by
  obtain ⟨⟨hn6, h0, x0, x1, x2, hrow, hw, hlg, hwn, hok, htb⟩, hi, ha⟩ := h
  have hn8 : n ≤ 8 := Nat.le_trans hn6 (by decide)
  intro m
  induction m with
  | zero =>
    intro k fuel hk hf
    obtain ⟨fuel, rfl⟩ : ∃ f, fuel = f + 1 := ⟨fuel - 1, by omega⟩
    obtain rfl : k = 4 := by omega
    show b_L_told_342 _ _ _ _ _ _ _ _ _ _ _ _ _ = _
    unfold b_L_told_342
    rw [if_pos (by decide), nI_1]
  | succ m ih =>
    intro k fuel hk hf
    obtain ⟨fuel, rfl⟩ : ∃ f, fuel = f + 1 := ⟨fuel - 1, by omega⟩
    have ih := ih (k + 1) fuel (by omega) (by omega)
    have e : X 2 (4 * r + k) = (T.1.2.2 0).2 13 (r * 4 + k) := by
      rw [rx_a X r (by omega), ← hrow r hr, rd_a (T.1.2.2 0) r (by omega)]
    show b_L_told_342 _ _ _ _ _ _ _ _ _ _ _ _ _ = _
    unfold b_L_told_342
    have ea : f_X3_account (HT (uL T 134 X)) 0 (nI r) (nI k) = some ((T.1.2.2 0).2 13 (r * 4 + k), HT (uL T 134 X)) := v_account (T := uL T 134 X) hn8 h0 hr (by omega)
    rw [if_neg (show ¬ (4 : Int32) ≤ nI k from nI_ge (a := k) (b := 4) (by omega) (by decide)), t_v3, ea, obs, ix4l, nI_add, nI_1]
    simp only [y_a2]
    rw [bd_nI (by omega) (by decide), obs, if_pos e.symm]
    exact ih
theorem told_303 (h : RLT T X n s) {r : Nat} (hr : r < n) : ∀ (m k fuel : Nat), 13 ≤ k → k + m = 18 → m < fuel → f_L_told_303 rec9 fuel (HT (uL T 134 X)) 0 133 134 135 136 137 v g (nI r) (nI (9 * r)) (nI k) = rec9 (HT (uL T 134 X)) 0 133 134 135 136 137 v g (nI (r + 1)) := by
  have h' := h
  obtain ⟨⟨hn6, h0, x0, x1, x2, hrow, hw, hlg, hwn, hok, htb⟩, hi, ha⟩ := h'
  have hn8 : n ≤ 8 := Nat.le_trans hn6 (by decide)
  intro m
  induction m with
  | zero =>
    intro k fuel hk13 hk hf
    obtain ⟨fuel, rfl⟩ : ∃ f, fuel = f + 1 := ⟨fuel - 1, by omega⟩
    obtain rfl : k = 18 := by omega
    show b_L_told_303 _ _ _ _ _ _ _ _ _ _ _ _ _ _ = _
    unfold b_L_told_303
    rw [if_pos (by decide)]
    exact told_342 h hr 4 0 FU (by omega) (by rw [FU_eq]; omega)
  | succ m ih =>
    intro k fuel hk13 hk hf
    obtain ⟨fuel, rfl⟩ : ∃ f, fuel = f + 1 := ⟨fuel - 1, by omega⟩
    have ih := ih (k + 1) fuel (by omega) (by omega) (by omega)
    obtain ⟨j, rfl⟩ : ∃ j, k = j + 13 := ⟨k - 13, by omega⟩
    have e : X 1 (9 * r + (j + 4)) = nuF (T.1.2.2 0) n r (j + 13) := by
      rw [rx_s X r (by omega), ← hrow r hr]
      unfold nuF
      rw [if_neg (by omega), if_neg (by omega), if_neg (by omega), if_neg (by omega), if_neg (by omega), if_neg (by omega)]
      rfl
    have er : f_X3_rail (HT (uL T 134 X)) 0 (nI r) (nI (j + 13)) = some (nuF (T.1.2.2 0) n r (j + 13), HT (uL T 134 X)) := v_rail (T := uL T 134 X) hn8 h0 hok hr (by omega)
    show b_L_told_303 _ _ _ _ _ _ _ _ _ _ _ _ _ _ = _
    unfold b_L_told_303
    rw [if_neg (show ¬ (18 : Int32) ≤ nI (j + 13) from nI_ge (a := j + 13) (b := 18) (by omega) (by decide)), t_v3, er, obs, nI_add, nI_1, show (9 : Int32) = nI 9 from rfl, jm (show 9 ≤ 9 * r + (j + 13) by omega), show 9 * r + (j + 13) - 9 = 9 * r + (j + 4) by omega]
    simp only [y_a1]
    rw [bd_nI (by omega) (by decide), obs, if_pos e.symm]
    exact ih
theorem told_213 (h : RLT T X n s) {r : Nat} (hr : r < n) (z : Int32) : b_L_told_213 rec9 (HT (uL T 134 X)) 0 133 134 135 136 137 v g (nI r) (nI (9 * r)) (fbO ((T.1.2.2 0).2 12) r) z z = rec9 (HT (uL T 134 X)) 0 133 134 135 136 137 v g (nI (r + 1)) := by
  have h' := h
  obtain ⟨⟨hn6, h0, x0, x1, x2, hrow, hw, hlg, hwn, hok, htb⟩, hi, ha⟩ := h'
  have hn8 : n ≤ 8 := Nat.le_trans hn6 (by decide)
  have rl : ∀ p, p < 19 → f_X3_rail (HT (uL T 134 X)) 0 (nI r) (nI p) = some (nuF (T.1.2.2 0) n r p, HT (uL T 134 X)) := fun p hp => v_rail (T := uL T 134 X) hn8 h0 hok hr hp
  have r18 : f_X3_rail (HT (uL T 134 X)) 0 (nI r) 18 = some (fbO ((T.1.2.2 0).2 12) r, HT (uL T 134 X)) := (rl 18 (by decide)).trans (congrArg some (Prod.ext (nu18 (T.1.2.2 0) n r) rfl))
  have r9 : f_X3_rail (HT (uL T 134 X)) 0 (nI r) 9 = some (if tb ((T.1.2.2 0).1 3) r = true then 1 else 0, HT (uL T 134 X)) := (rl 9 (by decide)).trans (congrArg some (Prod.ext (nu9 (T.1.2.2 0) n r) rfl))
  have r10 : f_X3_rail (HT (uL T 134 X)) 0 (nI r) 10 = some (rowP (T.1.2.2 0) r 9, HT (uL T 134 X)) := (rl 10 (by decide)).trans (congrArg some (Prod.ext (nu10 (T.1.2.2 0) n r) rfl))
  have r11 : f_X3_rail (HT (uL T 134 X)) 0 (nI r) 11 = some (rowP (T.1.2.2 0) r 10, HT (uL T 134 X)) := (rl 11 (by decide)).trans (congrArg some (Prod.ext (nu11 (T.1.2.2 0) n r) rfl))
  obtain ⟨b0, b1, b2, b3, b7, b9, b10, b12, b15⟩ := hok r hr
  obtain ⟨a, a1, a2, a3⟩ := nat_of (by decide) b0
  obtain ⟨u, u1, u2, u3⟩ := nat_of (by decide) b1
  obtain ⟨d, d1, d2, d3⟩ := nat_of (by decide) b3
  have ep := y_patience (T := T) (X := X) (r := r) (a := a) (u := u) (d := d) (by omega) (by omega) (by omega) (by omega) (by rw [← hrow r hr]; exact a3) (by rw [← hrow r hr]; exact u3) (by rw [← hrow r hr]; exact d3)
  have el := v_least (T := uL T 134 X) hn8 h0 hr (a := a) (c := u) (d := d) (by omega) (by omega) (by omega) a3 u3 d3
  generalize lpF a u d 200 1 = L at ep el
  have e9 : X 1 (9 * r + 2) = rowP (T.1.2.2 0) r 9 := by rw [hrow r hr]; rfl
  have e10 : X 1 (9 * r + 3) = rowP (T.1.2.2 0) r 10 := by rw [hrow r hr]; rfl
  have e303 := told_303 (rec9 := rec9) (v := v) (g := g) h hr 5 13 FU (by omega) (by omega) (by rw [FU_eq]; omega)
  rw [show nI 13 = (13 : Int32) from rfl] at e303
  unfold b_L_told_213
  generalize f_L_told_303 rec9 FU = F at e303 ⊢
  rw [if_pos rfl, t_v3, r18, obs, if_pos rfl, t_v3, el, obs, ep, obs, if_pos rfl, t_v3, r9, obs, ixa1]
  simp only [y_a1]
  rw [bd_nI (by omega) (by decide), obs, if_pos (hw r hr).symm, t_v3, r10, obs, ixa2]
  simp only [y_a1]
  rw [bd_nI (by omega) (by decide), obs, if_pos e9.symm, t_v3, r11, obs, ixa3]
  simp only [y_a1]
  rw [bd_nI (by omega) (by decide), obs, if_pos e10.symm]
  exact e303
theorem told_148 (h : RLT T X n s) {r : Nat} (hr : r < n) : b_L_told_148 rec9 (HT (uL T 134 X)) 0 133 134 135 136 137 v g (nI r) (nI (9 * r)) (fbO ((T.1.2.2 0).2 12) r) = rec9 (HT (uL T 134 X)) 0 133 134 135 136 137 v g (nI (r + 1)) := by
  have h' := h
  obtain ⟨⟨hn6, h0, x0, x1, x2, hrow, hw, hlg, hwn, hok, htb⟩, hi, ha⟩ := h'
  have hn8 : n ≤ 8 := Nat.le_trans hn6 (by decide)
  have rl : ∀ p, p < 19 → f_X3_rail (HT (uL T 134 X)) 0 (nI r) (nI p) = some (nuF (T.1.2.2 0) n r p, HT (uL T 134 X)) := fun p hp => v_rail (T := uL T 134 X) hn8 h0 hok hr hp
  have r7 : f_X3_rail (HT (uL T 134 X)) 0 (nI r) 7 = some (rowP (T.1.2.2 0) r 7, HT (uL T 134 X)) := (rl 7 (by decide)).trans (congrArg some (Prod.ext (nu7 (T.1.2.2 0) n r) rfl))
  have r8 : f_X3_rail (HT (uL T 134 X)) 0 (nI r) 8 = some (foF ((T.1.2.2 0).2 5) n 0 (bitI r) &&& (bitI r ^^^ (-1 : Int32)), HT (uL T 134 X)) := (rl 8 (by decide)).trans (congrArg some (Prod.ext (nu8 (T.1.2.2 0) n r) rfl))
  have r12 : f_X3_rail (HT (uL T 134 X)) 0 (nI r) 12 = some (if flgR (rowP (T.1.2.2 0) r) = true then 1 else 0, HT (uL T 134 X)) := (rl 12 (by decide)).trans (congrArg some (Prod.ext (nu12 (T.1.2.2 0) n r) rfl))
  have e7 : X 1 (9 * r) = rowP (T.1.2.2 0) r 7 := by rw [hrow r hr]; rfl
  have hnd : ∀ q, q < n → (fun q => X 1 (9 * q)) q = (T.1.2.2 0).2 5 q := fun q hq => (congrFun (hrow q hq) 7).symm
  have eu := y_up (T := T) (X := X) x0 hn6 (fun i hi' => by
    have e : X 1 (9 * i) = rowP (T.1.2.2 0) i 7 := by rw [hrow i hi']; rfl
    rw [e]
    exact (hok i hi').2.2.2.2.1) (bitI r)
  rw [fo_congr hnd n 0 _ (by omega)] at eu
  obtain ⟨f1, f2⟩ := fo_bit (nd := (T.1.2.2 0).2 5) hr hn8
  have es : foF ((T.1.2.2 0).2 5) n 0 (bitI r) - bitI r = foF ((T.1.2.2 0).2 5) n 0 (bitI r) &&& (bitI r ^^^ (-1 : Int32)) := sub_bit f1 (by omega) f2
  have ef := y_flag (T := T) (X := X) (r := r) (by omega)
  rw [← hrow r hr] at ef
  unfold bitI at r8 eu es
  unfold b_L_told_148
  rw [t_v3, r7, obs]
  simp only [y_a1]
  rw [bd_nI (by omega) (by decide), obs, if_pos e7.symm, t_v3, r8, obs, eu, obs, if_pos es.symm, t_v3, r12, obs, ef, obs]
  cases flgR (rowP (T.1.2.2 0) r) with
  | true =>
    rw [if_pos (c := true = true) rfl, if_neg n10]
    exact told_213 h hr 1
  | false =>
    rw [if_neg (show ¬ false = true by decide), if_pos rfl]
    exact told_213 h hr 0
