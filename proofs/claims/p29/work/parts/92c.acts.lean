/-! the law's actions: restart, forget -/
variable {T : TS} {X : LX} {n s : Nat}
theorem dr_lo (w g c : Int32) (m : Nat) : ∀ (j k : Nat) (V : Nat → Nat → Int32), (∀ q, k ≤ q → q < k + j → tb g q = false) → drV w g c (j + m) k V = drV w g c m (k + j) V ∧ drE w g c (j + m) k V = drE w g c m (k + j) V := by
  intro j
  induction j with
  | zero => intro k V _; rw [Nat.zero_add]; exact ⟨rfl, rfl⟩
  | succ j ih =>
    intro k V h
    have hk : (tb g k && tdR (tb w k) (V k)) = false := by rw [h k (Nat.le_refl _) (by omega)]; rfl
    obtain ⟨i1, i2⟩ := ih (k + 1) V (fun q h1 h2 => h q (by omega) (by omega))
    rw [show j + 1 + m = (j + m) + 1 by omega, show k + (j + 1) = k + 1 + j by omega, ← i1, ← i2]
    constructor
    · show drV w g c (j + m) (k + 1) (if (tb g k && tdR (tb w k) (V k)) = true then _ else V) = _
      rw [hk, if_neg (by decide)]
    · show (if (tb g k && tdR (tb w k) (V k)) = true then _ else drE w g c (j + m) (k + 1) V) = _
      rw [hk, if_neg (by decide)]
theorem dr_13 {w g c : Int32} : ∀ (m k : Nat) (V : Nat → Nat → Int32) (q : Nat), drV w g c m k V q 13 = V q 13 := by
  intro m
  induction m with
  | zero => exact fun k V q => rfl
  | succ m ih =>
    intro k V q
    unfold drV
    rw [ih]
    split
    · unfold setRow
      split
      · next e =>
        subst e
        unfold drR
        rw [upd_n (by decide), upd_n (by decide), upd_n (by decide)]
      · rfl
    · rfl
theorem dr_hi (w g c : Int32) : ∀ (m k : Nat) (V : Nat → Nat → Int32) (q : Nat), k + m ≤ q → drV w g c m k V q = V q := by
  intro m
  induction m with
  | zero => exact fun _ _ _ _ => rfl
  | succ m ih =>
    intro k V q hq
    unfold drV
    rw [ih (k + 1) _ q (by omega)]
    split
    · exact sr_ne _ _ (by omega)
    · rfl
def finD (h : MH) (c : Int32) : Option (Int32 × MH) := (f_X3_restart h 0 c).bind fun p => (aI p.2 137 4).bind fun v => if p.1 = v then b_L_act_664 p.2 1 else b_L_act_664 p.2 0
theorem l_drLoop {c w F : Int32} (hn6 : n ≤ 6) : ∀ (m k fuel : Nat) (X : LX), X 4 0 = nI n → wnX X w n → k + m = n → m < fuel → ∃ X', f_L_act_535 fuel (HT (uL T 134 X)) 0 134 135 136 137 c F (nI k) = finD (HT (uL T 134 X')) c ∧ X' 0 = X 0 ∧ wnX X' w n ∧ rowX X' = drV w F c m k (rowX X) ∧ LE X X' (drE w F c m k (rowX X)) := by
  intro m
  induction m with
  | zero =>
    intro k fuel X hn hw hk hf
    obtain ⟨fuel, rfl⟩ : ∃ f, fuel = f + 1 := ⟨fuel - 1, by omega⟩
    refine ⟨X, ?_, rfl, hw, rfl, LE_nil rfl rfl⟩
    show b_L_act_535 _ _ _ _ _ _ _ _ _ _ = _
    unfold b_L_act_535 finD
    rw [y_a4, l6_0, obs, hn, if_pos (nI_le (by omega) (by omega)), t_v3]
  | succ m ih =>
    intro k fuel X hn hw hk hf
    obtain ⟨fuel, rfl⟩ : ∃ f, fuel = f + 1 := ⟨fuel - 1, by omega⟩
    have hk6 : k < 6 := by omega
    have e1 : f_L_act_535 (fuel + 1) (HT (uL T 134 X)) 0 134 135 136 137 c F (nI k) = if (tb F k && tdR (tb w k) (rowX X k)) = true then b_L_act_607 (f_L_act_535 fuel) (HT (uL T 134 X)) 0 134 135 136 137 c F (nI k) (nI (9 * k)) else f_L_act_535 fuel (HT (uL T 134 X)) 0 134 135 136 137 c F (nI (k + 1)) := by
      show b_L_act_535 _ _ _ _ _ _ _ _ _ _ = _
      unfold b_L_act_535 b_L_act_640
      rw [y_a4, l6_0, obs, hn, if_neg (nI_ge (by omega) (by omega)), jx9, obs, nI_1, ixa2, y_a1, bd_nI (by omega) (by decide), ixa1, y_a1, bd_nI (by omega) (by decide), hw k (by omega)]
      simp only [obs]
      unfold tdR
      rw [show rowX X k 9 = X 1 (9 * k + 2) from rfl]
      rcases Bool.eq_false_or_eq_true (tb F k) with hb | hb
      · rw [if_neg (fun h => by rw [(tb_hasnt F (by omega)).1 h] at hb; exact absurd hb (by decide)), hb, Bool.true_and]
        by_cases s2 : X 1 (9 * k + 2) = 2
        · rw [if_pos s2, if_pos (by rw [s2]; rfl)]
        · rw [if_neg s2]
          by_cases s3 : X 1 (9 * k + 2) = 3
          · rw [if_pos s3, if_pos (by rw [s3]; rfl)]
          · rw [if_neg s3]
            by_cases s5 : X 1 (9 * k + 2) = 5
            · rw [if_pos s5, s5]
              cases tb w k <;> rfl
            · rw [if_neg s5, decide_eq_false s2, decide_eq_false s3, decide_eq_false s5, if_neg (by cases tb w k <;> decide)]
      · rw [if_pos ((tb_hasnt F (by omega)).2 hb), hb, Bool.false_and, if_neg (by decide)]
    rw [e1]
    by_cases hc : (tb F k && tdR (tb w k) (rowX X k)) = true
    · have hne : ¬ (4 : Int32) = rowX X k 9 := by
        intro h
        rw [Bool.and_eq_true] at hc
        have h2 := hc.2
        unfold tdR at h2
        rw [← h] at h2
        revert h2
        cases tb w k <;> decide
      have hc0 : CK (gT T) 134 := ck0 T
      obtain ⟨X1, k1, k2⟩ := l_enter (X := ux (ux X 1 (9 * k + 7) 0) 1 (9 * k + 8) c) hc0 hk6 s6_4
      have hst := ST_enter (X := X) (Y := ux (ux X 1 (9 * k + 7) 0) 1 (9 * k + 8) c) (row := upd (upd (rowX X k) 14 0) 15 c) (by rw [qx_15, qx_14, sr_at, sr_sr]) rfl (fun w n h => wn_ux (wn_ux h (Or.inr (by omega)) _) (Or.inr (by omega)) _) rfl rfl hne k2
      obtain ⟨t0, t1, t2, t3⟩ := hst
      rw [if_neg hne] at t2 t3
      have hb4 : becR 4 (upd (upd (rowX X k) 14 0) 15 c) = drR c (rowX X k) := by
        unfold becR drR
        rw [if_neg (by decide), if_neg (by decide)]
      rw [hb4] at t2
      obtain ⟨X', g1, g2, g3, g4, g5⟩ := ih (k + 1) fuel X1 (t3.1.trans hn) (t1 w n hw) (by omega) (by omega)
      rw [if_pos hc]
      unfold drV drE
      rw [if_pos hc, if_pos hc, ← t2]
      refine ⟨X', ?_, g2.trans t0, g3, g4, ?_⟩
      · rw [← g1]
        unfold b_L_act_607 b_L_act_640
        rw [ixa7, y_s1, bd_nI (by omega) (by decide), obs, ixa8, y_s1, bd_nI (by omega) (by decide), obs, HT_uL T (Nat.le_refl _), show f_L_enter (hl (gT T) 134 (ux (ux X 1 (9 * k + 7) 0) 1 (9 * k + 8) c)) (nI k) 4 134 135 136 137 = some (hl (gT T) 134 X1) from k1, obs, nI_1, HT_uL T (Nat.le_refl _)]
      · have t3 : LE X X1 [(nI k, 4, c)] := t3
        exact LE_trans t3 g5
    · rw [if_neg hc]
      unfold drV drE
      rw [if_neg hc, if_neg hc]
      obtain ⟨X', g1, g2, g3, g4, g5⟩ := ih (k + 1) fuel X hn hw (by omega) (by omega)
      exact ⟨X', g1, g2, g3, g4, g5⟩
theorem v_restart (hn8 : n ≤ 8) (hi : IC T s) (h0 : (T.1.2.2 0).1 0 = nI n) {r : Nat} (hr : r < n) (ht : tb ((T.1.2.2 0).1 3) r = true) : ∃ P', f_X3_restart (HT T) 0 (nI r) = some (nI (drE ((T.1.2.2 0).1 3) (foF ((T.1.2.2 0).2 5) n 0 ((1 : Int32) <<< (nI r &&& 31))) (nI r) (n - r) r (rowP (T.1.2.2 0))).length, HT (uP (svT T s) 0 P')) ∧ rowP P' = drV ((T.1.2.2 0).1 3) (foF ((T.1.2.2 0).2 5) n 0 ((1 : Int32) <<< (nI r &&& 31))) (nI r) (n - r) r (rowP (T.1.2.2 0)) ∧ P'.1 0 = (T.1.2.2 0).1 0 ∧ P'.1 1 = (T.1.2.2 0).1 1 ∧ P'.1 2 = (T.1.2.2 0).1 2 ∧ P'.1 3 = (T.1.2.2 0).1 3 ∧ lgP P' = (drE ((T.1.2.2 0).1 3) (foF ((T.1.2.2 0).2 5) n 0 ((1 : Int32) <<< (nI r &&& 31))) (nI r) (n - r) r (rowP (T.1.2.2 0))).foldl (pushL ((T.1.2.2 0).1 1)) (lgP (T.1.2.2 0)) := by
  obtain ⟨hs, hS, hσ⟩ := hi
  have hR := rail_not hn8 hr
  have hr8 : r < 8 := by omega
  obtain ⟨P', c1, c2, c3, c4, c5, c6, c7⟩ := a_dropLoop (G := gT (svT T s)) (b := 1) (by decide) hn8 (foF ((T.1.2.2 0).2 5) n 0 ((1 : Int32) <<< (nI r &&& 31))) (nI r) (n - r) r FU (T.1.2.2 0) 0 h0 (by omega) (by rw [FU_eq]; omega)
  refine ⟨P', ?_, c2, c3, c4, c5, c6, c7⟩
  unfold f_X3_restart
  rw [t_v3, c_isRail h0, obs, if_neg hR, if_neg n10, t_R0, obs, q_v1, HT0 T, a_wanted (by decide) hr8, if_pos ht, obs, if_neg n10, ← HT0 T, t_v3, t_save T hs hS hσ, obs, t_R0, obs, q_v1]
  unfold f_X1_dropForRestart
  rw [q_v1, q_foll hn8 (by rw [sv_pl T hσ]; exact h0), obs, sv_pl T hσ, HT0 (svT T s), sv_pl T hσ, c1, obs, Int32.zero_add, hp0]
theorem act_10 (h : RLT T X n s) (hn1 : 1 ≤ n) {x y : Nat} (hx : x < 2 ^ 31) : AR T X n s (f_L_act (HT (uL T 134 X)) 0 10 (nI x) (nI y) 133 134 135 136 137) := by
  have h' := h
  obtain ⟨hrx, hi, ha⟩ := h'
  have hrx' := hrx
  obtain ⟨hn6, h0, x0, x1, x2, hrow, hw, hlg, hwn, hok, htb⟩ := hrx'
  have hn8 : n ≤ 8 := Nat.le_trans hn6 (by decide)
  have hr : x / 2 % n < n := Nat.mod_lt _ (by omega)
  unfold f_L_act
  rw [if_pos (by decide), if_pos (by decide), if_pos (by decide), y_a4, l6_0, obs, x0, l_at _ hx (by omega) (by omega), obs, jx9, obs, if_pos rfl]
  generalize x / 2 % n = r at hr
  rw [ixa1, y_a1, bd_nI (by omega) (by decide), obs, hw r hr]
  by_cases ht : tb ((T.1.2.2 0).1 3) r = true
  · rw [if_pos ht, if_neg n10]
    have hnd : ∀ q, q < n → X 1 (9 * q) = (T.1.2.2 0).2 5 q := fun q hq => (congrFun (hrow q hq) 7).symm
    have hnx : ∀ q, q < n → (X 1 (9 * q)).toBitVec.toNat < 2 ^ q := fun q hq => by rw [hnd q hq]; exact (hok q hq).2.2.2.2.1
    rw [y_up x0 hn6 hnx, obs, fo_congr hnd n 0 _ (by omega), y_s4, l6_4, obs]
    generalize hF : foF ((T.1.2.2 0).2 5) n 0 ((1 : Int32) <<< (nI r &&& 31)) = F
    have hlo : ∀ q, 0 ≤ q → q < 0 + r → tb F q = false := by
      intro q _ hq
      rw [← hF]
      by_cases hq0 : q = 0 ∧ False
      · exact absurd hq0.2 id
      · have e := fo_skip (nd := (T.1.2.2 0).2 5) (r := r) (by omega) (r + 1) (n - (r + 1)) 0 (by omega) (fun i hi => (hok i (by omega)).2.2.2.2.1)
        rw [show r + 1 + (n - (r + 1)) = n by omega] at e
        rw [e, fo_lo _ _ _ _ (by omega) (by omega), tb_bit (by omega)]
        exact decide_eq_false (by omega)
    have hw4 : wnX (ux X 4 4 0) ((T.1.2.2 0).1 3) n := wn_ux hw (Or.inl (by decide)) _
    obtain ⟨X', g1, g2, g3, g4, g5⟩ := l_drLoop (T := T) (c := nI r) (w := (T.1.2.2 0).1 3) (F := F) hn6 n 0 FU (ux X 4 4 0) x0 hw4 (by omega) (by rw [FU_eq]; omega)
    obtain ⟨P', c1, c2, c3, c4, c5, c6, c7⟩ := v_restart (T := uL T 134 X') (s := s) hn8 hi h0 hr ht
    rw [uL_sv] at c1
    have hF' : foF (((uL T 134 X').1.2.2 0).2 5) n 0 ((1 : Int32) <<< (nI r &&& 31)) = F := hF
    rw [hF'] at c1 c2 c7
    have c1 : f_X3_restart (HT (uL T 134 X')) 0 (nI r) = some (nI (drE ((T.1.2.2 0).1 3) F (nI r) (n - r) r (rowP (T.1.2.2 0))).length, HT (uL (uP (svT T s) 0 P') 134 X')) := c1
    have c2 : rowP P' = drV ((T.1.2.2 0).1 3) F (nI r) (n - r) r (rowP (T.1.2.2 0)) := c2
    have c7 : lgP P' = (drE ((T.1.2.2 0).1 3) F (nI r) (n - r) r (rowP (T.1.2.2 0))).foldl (pushL ((T.1.2.2 0).1 1)) (lgP (T.1.2.2 0)) := c7
    have c3 : P'.1 0 = (T.1.2.2 0).1 0 := c3
    have c4 : P'.1 1 = (T.1.2.2 0).1 1 := c4
    have c5 : P'.1 2 = (T.1.2.2 0).1 2 := c5
    have c6 : P'.1 3 = (T.1.2.2 0).1 3 := c6
    obtain ⟨d1, d2⟩ := dr_congr ((T.1.2.2 0).1 3) F (nI r) (n := n) (n - r) r (rowP (T.1.2.2 0)) (rowX X) (by omega) hrow
    obtain ⟨f1, f2⟩ := dr_lo ((T.1.2.2 0).1 3) F (nI r) (n - r) r 0 (rowX X) hlo
    rw [show r + (n - r) = n by omega, Nat.zero_add] at f1 f2
    rw [qx_o X (by decide : 3 ≤ 4) 4 0] at g4 g5
    rw [f1] at g4
    rw [f2, ← d2] at g5
    obtain ⟨b0, b1, b2, b4, b5, b6⟩ := g5
    have hlg4 : LGx (lgP (T.1.2.2 0)) (ux X 4 4 0) := ⟨hlg.1, hlg.2.1, hlg.2.2⟩
    refine AR_do (P' := P') (X' := X') (n' := n) h (Eq.trans g1 ?_) ⟨hn6, c3.trans h0, b0.trans x0, (b1.trans x1).trans c5.symm, (b2.trans x2).trans c4.symm, fun q hq => ?_, by rw [c6]; exact g3, ?_, by rw [c6]; exact hwn, fun q hq => ?_, by rw [c4]; exact htb.1, fun q hq => ?_⟩ ⟨by rw [c4]; exact ha.1, fun q hq => by rw [c2, dr_19, c4]; exact ha.2 q hq⟩ (Nat.le_refl _) (by rw [c4]; omega) (fun q hq => by rw [g4, dr_hi _ _ _ _ _ _ _ (by omega)])
    · unfold finD b_L_act_664
      rw [c1, obs, y_a4, l6_4, obs, if_pos (b4.trans (Int32.zero_add _)).symm, i1]
    · rw [c2, g4]
      exact d1 q hq
    · rw [c7, ← x2]
      exact b6 _ hlg4
    · rw [c2]
      exact dr_ok (n - r) r _ (Nat.le_refl _) hok q hq
    · rw [c2, dr_13, c4]
      exact htb.2 q hq
  · rw [if_neg ht, if_pos rfl]
    exact AR_same h rfl
/-! forget -/
def rmF (x : Int32) : Nat → Nat → Nat → (Nat → Int32) → (Nat → Int32) × Nat
  | 0, kept, _, f => (f, kept)
  | m + 1, kept, back, f => if f (4 * back + 1) = x then rmF x m kept (back + 1) f else rmF x m (kept + 1) (back + 1) (va_cpy f f (4 * back) (4 * kept) 4)
theorem rm_le (x : Int32) : ∀ (m kept back : Nat) (f : Nat → Int32), (rmF x m kept back f).2 ≤ kept + m := by
  intro m
  induction m with
  | zero => exact fun _ _ _ => Nat.le_refl _
  | succ m ih =>
    intro kept back f
    unfold rmF
    split
    · have := ih kept (back + 1) f; omega
    · have := ih (kept + 1) (back + 1) (va_cpy f f (4 * back) (4 * kept) 4); omega
theorem rm_congr (x : Int32) : ∀ (m kept back : Nat) (f g : Nat → Int32), back + m ≤ 16 → kept ≤ back → (∀ i, i < 64 → f i = g i) → (rmF x m kept back f).2 = (rmF x m kept back g).2 ∧ ∀ i, i < 64 → (rmF x m kept back f).1 i = (rmF x m kept back g).1 i := by
  intro m
  induction m with
  | zero => exact fun _ _ _ _ _ _ h => ⟨rfl, h⟩
  | succ m ih =>
    intro kept back f g hb hk h
    unfold rmF
    rw [h (4 * back + 1) (by omega)]
    split
    · exact ih kept (back + 1) f g (by omega) (by omega) h
    · refine ih (kept + 1) (back + 1) _ _ (by omega) (by omega) (fun i hi => ?_)
      unfold va_cpy
      split
      · exact h _ (by omega)
      · exact h i hi
variable {G : GB} {b : Nat}
theorem a_remF (hb : b ≤ 122) {l : Nat} (hl : l ≤ 16) (x : Int32) : ∀ (m kept back fuel : Nat) (P : PV), kept ≤ back → back + m = l → P.1 4 = nI l → m < fuel → f_X0_removeRail_4 fuel (hp G b P) (b + 11) x (nI kept) (nI back) = some (nI l - nI (rmF x m kept back (P.2 14)).2, hp G b (wS (wR P 14 (rmF x m kept back (P.2 14)).1) 4 (nI (rmF x m kept back (P.2 14)).2))) := by
  intro m
  induction m with
  | zero =>
    intro kept back fuel P hkb hbn h4 hf
    obtain ⟨fuel, rfl⟩ : ∃ f, fuel = f + 1 := ⟨fuel - 1, by omega⟩
    show b_X0_removeRail_4 _ _ _ _ _ _ = some (nI l - nI kept, hp G b (wS (wR P 14 (P.2 14)) 4 (nI kept)))
    unfold b_X0_removeRail_4
    rw [p_Il hb, obs, h4, if_pos (nI_le (by omega) (by omega)), obs, obs, p_Pl hb, obs, wR_self]
  | succ m ih =>
    intro kept back fuel P hkb hbn h4 hf
    obtain ⟨fuel, rfl⟩ : ∃ f, fuel = f + 1 := ⟨fuel - 1, by omega⟩
    have en : f_X0_numberAt (hp G b P) (b + 11) (nI back) 1 = some (P.2 14 (4 * back + 1)) := by
      unfold f_X0_numberAt
      rw [p_Rl hb, obs, p_a14 hb, ix4, ixa1, bd_nI (by omega) (by decide), obs, Nat.mul_comm]
    have hwhole : f_X0_removeRail_4 (fuel + 1) (hp G b P) (b + 11) x (nI kept) (nI back) = if P.2 14 (4 * back + 1) = x then f_X0_removeRail_4 fuel (hp G b P) (b + 11) x (nI kept) (nI (back + 1)) else f_X0_removeRail_4 fuel (hp G b (wR P 14 (va_cpy (P.2 14) (P.2 14) (4 * back) (4 * kept) 4))) (b + 11) x (nI (kept + 1)) (nI (back + 1)) := by
      show b_X0_removeRail_4 _ _ _ _ _ _ = _
      unfold b_X0_removeRail_4 b_X0_removeRail_43
      rw [p_Il hb, obs, h4, if_neg (nI_ge (by omega) (by omega)), p_v0 hb, en, obs, p_Rl hb, obs, obs, p_c14_14 hb (n := (4 : Int32)) (a := 4 * back) (c := 4 * kept) (m := 4) ((ix4 _).trans (congrArg nI (Nat.mul_comm _ _))) ((ix4 _).trans (congrArg nI (Nat.mul_comm _ _))) rfl (by omega) (by omega), obs, nI_1, nI_1]
    rw [hwhole]
    unfold rmF
    by_cases hc : P.2 14 (4 * back + 1) = x
    · rw [if_pos hc, if_pos hc]
      exact ih kept (back + 1) fuel P (by omega) (by omega) h4 (by omega)
    · rw [if_neg hc, if_neg hc]
      have := ih (kept + 1) (back + 1) fuel (wR P 14 (va_cpy (P.2 14) (P.2 14) (4 * back) (4 * kept) 4)) (by omega) (by omega) h4 (by omega)
      rw [wR_wR] at this
      exact this
theorem v_forget (hn8 : n ≤ 8) (hi : IC T s) (h0 : (T.1.2.2 0).1 0 = nI n) {l : Nat} (hl : l ≤ 16) (h4 : (T.1.2.2 0).1 4 = nI l) {r : Nat} (hr : r < n) : f_X3_forget (HT T) 0 (nI r) = some (nI l - nI (rmF (nI r) l 0 0 ((T.1.2.2 0).2 14)).2, HT (uP (svT T s) 0 (wS (wR (T.1.2.2 0) 14 (rmF (nI r) l 0 0 ((T.1.2.2 0).2 14)).1) 4 (nI (rmF (nI r) l 0 0 ((T.1.2.2 0).2 14)).2)))) := by
  obtain ⟨hs, hS, hσ⟩ := hi
  have hR := rail_not hn8 hr
  have c1 := a_remF (G := gT (svT T s)) (b := 1) (by decide) hl (nI r) l 0 0 FU (T.1.2.2 0) (Nat.le_refl _) (by omega) h4 (by rw [FU_eq]; omega)
  rw [show nI 0 = (0 : Int32) from rfl] at c1
  unfold f_X3_forget f_X0_removeRail
  rw [t_v3, c_isRail h0, obs, if_neg hR, if_neg n10, t_v3, t_save T hs hS hσ, obs, t_R0, obs, q_R14, obs, q_v0, HT0 (svT T s), sv_pl T hσ, c1, obs, hp0]
def u3 (X : LX) (f : Nat → Int32) : LX := fun q => if q = 3 then f else X q
theorem u3_ux (X : LX) (f : Nat → Int32) (i : Nat) (x : Int32) : ux (u3 X f) 3 i x = u3 X (upd f i x) := by
  funext q
  unfold ux u3
  by_cases h : q = 3 <;> simp [h]
theorem u3_self (X : LX) : u3 X (X 3) = X := by
  funext q
  unfold u3
  by_cases h : q = 3 <;> simp [h]
theorem cpy_s (f : Nat → Int32) {a c j : Nat} (h : c ≤ a) : upd (va_cpy f f a c j) (c + j) (va_cpy f f a c j (a + j)) = va_cpy f f a c (j + 1) := by
  funext i
  have e : va_cpy f f a c j (a + j) = f (a + j) := by
    unfold va_cpy
    rw [if_neg (by omega)]
  rw [e]
  unfold upd va_cpy
  by_cases hi : i = c + j
  · rw [if_pos hi, if_pos (by omega), hi, show a + (c + j - c) = a + j by omega]
  · rw [if_neg hi]
    by_cases h2 : c ≤ i ∧ i < c + j
    · rw [if_pos h2, if_pos (by omega)]
    · rw [if_neg h2, if_neg (by omega)]
theorem cpy_0 (f : Nat → Int32) (a c : Nat) : va_cpy f f a c 0 = f := by
  funext i
  unfold va_cpy
  rw [if_neg (by omega)]
theorem l_cpy4 {f : Nat → Int32} {kept back : Nat} (hk : kept ≤ back) (hb : back < 16) (x l : Int32) (rec976 : MH → Nat → Nat → Nat → Int32 → Int32 → Int32 → Int32 → Option (Int32 × MH)) : ∀ (m j fuel : Nat), j + m = 4 → m < fuel → f_L_act_1003 rec976 fuel (HT (uL T 134 (u3 X (va_cpy f f (4 * back) (4 * kept) j)))) 0 136 137 x (nI kept) l (nI back) (nI j) = rec976 (HT (uL T 134 (u3 X (va_cpy f f (4 * back) (4 * kept) 4)))) 0 136 137 x (nI (kept + 1)) l (nI (back + 1)) := by
  intro m
  induction m with
  | zero =>
    intro j fuel hj hf
    obtain ⟨fuel, rfl⟩ : ∃ f, fuel = f + 1 := ⟨fuel - 1, by omega⟩
    obtain rfl : j = 4 := by omega
    show b_L_act_1003 _ _ _ _ _ _ _ _ _ _ _ = _
    unfold b_L_act_1003 b_L_act_1038
    rw [if_pos (by decide), nI_1, nI_1]
  | succ m ih =>
    intro j fuel hj hf
    obtain ⟨fuel, rfl⟩ : ∃ f, fuel = f + 1 := ⟨fuel - 1, by omega⟩
    show b_L_act_1003 _ _ _ _ _ _ _ _ _ _ _ = _
    unfold b_L_act_1003
    rw [if_neg (by rw [show (4 : Int32) = nI 4 from rfl]; exact nI_ge (by omega) (by omega)), ix4l, nI_add, y_a3, bd_nI (by omega) (by decide), obs, ix4l, nI_add, y_s3, bd_nI (by omega) (by decide), obs, u3_ux, nI_1, show u3 X (va_cpy f f (4 * back) (4 * kept) j) 3 = va_cpy f f (4 * back) (4 * kept) j from rfl, cpy_s f (by omega)]
    exact ih (j + 1) fuel (by omega) (by omega)
def finF (h : MH) (x l k : Int32) : Option (Int32 × MH) := (f_X3_forget h 0 x).bind fun p => if p.1 = l - k then b_L_act_1069 p.2 1 else b_L_act_1069 p.2 0
theorem l_remF {l : Nat} (hl : l ≤ 16) (x : Int32) : ∀ (m kept back fuel : Nat) (f : Nat → Int32), kept ≤ back → back + m = l → m < fuel → f_L_act_976 fuel (HT (uL T 134 (u3 X f))) 0 136 137 x (nI kept) (nI l) (nI back) = finF (HT (uL T 134 (ux (u3 X (rmF x m kept back f).1) 4 3 (nI (rmF x m kept back f).2)))) x (nI l) (nI (rmF x m kept back f).2) := by
  intro m
  induction m with
  | zero =>
    intro kept back fuel f hkb hbn hf
    obtain ⟨fuel, rfl⟩ : ∃ f, fuel = f + 1 := ⟨fuel - 1, by omega⟩
    show b_L_act_976 _ _ _ _ _ _ _ _ _ = finF (HT (uL T 134 (ux (u3 X f) 4 3 (nI kept)))) x (nI l) (nI kept)
    unfold b_L_act_976 finF
    rw [if_pos (nI_le (by omega) (by omega)), y_s4, l6_3, obs, t_v3]
  | succ m ih =>
    intro kept back fuel f hkb hbn hf
    obtain ⟨fuel, rfl⟩ : ∃ f, fuel = f + 1 := ⟨fuel - 1, by omega⟩
    have c4 := l_cpy4 (T := T) (X := X) (f := f) hkb (show back < 16 by omega) x (nI l) (f_L_act_976 fuel) 4 0 FU (by omega) (by rw [FU_eq]; omega)
    rw [cpy_0, show nI 0 = (0 : Int32) from rfl] at c4
    show b_L_act_976 _ _ _ _ _ _ _ _ _ = _
    unfold b_L_act_976 b_L_act_1038
    rw [if_neg (nI_ge (by omega) (by omega)), ix4l, ixa1, y_a3, bd_nI (by omega) (by decide), obs, c4, nI_1, show u3 X f 3 = f from rfl]
    unfold rmF
    by_cases hc : f (4 * back + 1) = x
    · rw [if_pos hc, if_pos hc]
      exact ih kept (back + 1) fuel f (by omega) (by omega) (by omega)
    · rw [if_neg hc, if_neg hc]
      exact ih (kept + 1) (back + 1) fuel _ (by omega) (by omega) (by omega)
theorem act_17 (h : RLT T X n s) (hn1 : 1 ≤ n) {x y : Nat} (hx : x < 2 ^ 31) : AR T X n s (f_L_act (HT (uL T 134 X)) 0 17 (nI x) (nI y) 133 134 135 136 137) := by
  have h' := h
  obtain ⟨hrx, hi, ha⟩ := h'
  have hrx' := hrx
  obtain ⟨hn6, h0, x0, x1, x2, hrow, hw, hlg, hwn, hok, htb⟩ := hrx'
  obtain ⟨⟨l, hl16, hl⟩, g2, g3⟩ := hlg
  have hn8 : n ≤ 8 := Nat.le_trans hn6 (by decide)
  have hr : x / 2 % n < n := Nat.mod_lt _ (by omega)
  unfold f_L_act
  rw [if_pos (by decide), if_pos (by decide), if_pos (by decide), y_a4, l6_0, obs, x0, l_at _ hx (by omega) (by omega), obs, jx9, obs, if_neg (by decide), if_neg (by decide), if_neg (by decide), if_pos (by decide), if_neg (by decide), if_neg (by decide)]
  generalize x / 2 % n = r at hr
  unfold b_L_act_956
  have x3 : X 4 3 = nI l := g2.trans hl
  have h4 : (T.1.2.2 0).1 4 = nI l := hl
  obtain ⟨m1, m2⟩ := rm_congr (nI r) l 0 0 (X 3) ((T.1.2.2 0).2 14) (by omega) (Nat.le_refl _) g3
  have e1 := l_remF (T := T) (X := X) hl16 (nI r) l 0 0 FU (X 3) (Nat.le_refl _) (by omega) (by rw [FU_eq]; omega)
  rw [u3_self, show nI 0 = (0 : Int32) from rfl, m1] at e1
  have hle := rm_le (nI r) l 0 0 ((T.1.2.2 0).2 14)
  rw [if_pos (by decide), y_a4, l6_3, obs, x3, e1]
  generalize hX : ux (u3 X (rmF (nI r) l 0 0 (X 3)).1) 4 3 (nI (rmF (nI r) l 0 0 ((T.1.2.2 0).2 14)).2) = X'
  have es := v_forget (T := uL T 134 X') (s := s) hn8 hi h0 hl16 h4 hr
  rw [uL_sv] at es
  have es : f_X3_forget (HT (uL T 134 X')) 0 (nI r) = some (nI l - nI (rmF (nI r) l 0 0 ((T.1.2.2 0).2 14)).2, HT (uL (uP (svT T s) 0 (wS (wR (T.1.2.2 0) 14 (rmF (nI r) l 0 0 ((T.1.2.2 0).2 14)).1) 4 (nI (rmF (nI r) l 0 0 ((T.1.2.2 0).2 14)).2))) 134 X')) := es
  have erow : rowP (wS (wR (T.1.2.2 0) 14 (rmF (nI r) l 0 0 ((T.1.2.2 0).2 14)).1) 4 (nI (rmF (nI r) l 0 0 ((T.1.2.2 0).2 14)).2)) = rowP (T.1.2.2 0) := by rw [rw_S, rw_R _ _ _ (by decide)]
  refine AR_do (P' := wS (wR (T.1.2.2 0) 14 (rmF (nI r) l 0 0 ((T.1.2.2 0).2 14)).1) 4 (nI (rmF (nI r) l 0 0 ((T.1.2.2 0).2 14)).2)) (X' := X') (n' := n) h ?_ ⟨hn6, h0, by rw [← hX]; exact x0, by rw [← hX]; exact x1, by rw [← hX]; exact x2, fun q hq => ?_, ?_, ?_, hwn, fun q hq => by rw [erow]; exact hok q hq, htb.1, fun q hq => by rw [erow]; exact htb.2 q hq⟩ ⟨ha.1, fun q hq => by rw [erow]; exact ha.2 q hq⟩ (Nat.le_refl _) (by show ((T.1.2.2 0).1 1).toInt ≤ _; omega) (fun q _ => by rw [← hX, qx_o _ (by decide)]; rfl)
  · unfold finF b_L_act_1069
    rw [es, obs, if_pos rfl, i1]
  · rw [erow, hrow q hq, ← hX, qx_o _ (by decide)]
    rfl
  · rw [← hX]
    refine wn_ux ?_ (Or.inl (by decide)) _
    exact hw
  · refine ⟨⟨_, by omega, rfl⟩, by rw [← hX]; rfl, fun i hi => ?_⟩
    rw [← hX]
    exact m2 i hi
