/-! looking ahead: the four passes -/
variable {T : TS} {X Y : LX} {c n s : Nat} {x y : Int32}
variable (rec27 : MH → Nat → Int32 → Int32 → Nat → Nat → Nat → Nat → Nat → Nat → Nat → Int32 → Option (Int32 × MH))
theorem fin553 {h : MH} {p kk : Int32} {dn : Bool} {v : Int32} {h' : MH} (hv : v = if dn = true then kk else -1) (e : (if p = 0 then f_X3_allGoodIn h 0 else f_X3_allOffIn h 0) = some (v, h')) (hc : ∀ {α : Type} {o : Option α}, vcall h 3 0 o = o) : b_L_ahead_553 rec27 h 0 x y 133 134 137 c (c + 1) (c + 2) (c + 3) p kk (if dn = true then 1 else 0) = b_L_ahead_585 rec27 h' 0 x y 133 134 137 c (c + 1) (c + 2) (c + 3) p := by
  have e569 : b_L_ahead_569 rec27 h' 0 x y 133 134 137 c (c + 1) (c + 2) (c + 3) p kk (if dn = true then 1 else 0) v = b_L_ahead_585 rec27 h' 0 x y 133 134 137 c (c + 1) (c + 2) (c + 3) p := by
    unfold b_L_ahead_569 b_L_ahead_580
    cases dn
    · rw [if_neg (show ¬ false = true by decide), if_pos rfl, hv, if_neg (show ¬ false = true by decide), if_pos rfl]
    · rw [if_pos (show true = true from rfl), if_neg (show ¬ (1 : Int32) = 0 by decide), hv, if_pos (show true = true from rfl), if_pos rfl]
  unfold b_L_ahead_553
  by_cases hp : p = 0
  · rw [if_pos hp] at e ⊢
    rw [hc, e, obs]
    exact e569
  · rw [if_neg hp] at e ⊢
    rw [hc, e, obs]
    exact e569
theorem pass_0 (hc : KC T c) (h : RLT T X n s) (hY : CP X Y) : ∃ Q Y', dispA rec27 x y c (HT (uC T X c Y)) 0 = b_L_ahead_585 rec27 (HT (uC (uP T 1 Q) X c Y')) 0 x y 133 134 137 c (c + 1) (c + 2) (c + 3) 0 ∧ Y' 0 = X 0 := by
  obtain ⟨hrx, hi, ha⟩ := h
  have hrw := CP_RW (RX_cp (T.1.2.2 1) hrx) hY
  have ht : ((cpP (T.1.2.2 0) (T.1.2.2 1)).1 1).toInt + ((1001 : Nat) : Int) ≤ 30000 := by
    have := ha.1.2
    show ((T.1.2.2 0).1 1).toInt + _ ≤ _
    omega
  obtain ⟨Y', kk, dn, e1, e2, e3⟩ := l_416 (T := T) (X := X) (x := x) (y := y) hc hrx.1 hrx.2.2.1 rec27 0 (tp := fun P => gdB P n) (fun Y P hR _ => tp_good hR) 1001 0 FU Y ⟨_, hrw, ht⟩ (hY.2.2 1 (by decide)) (by omega) (by rw [FU_eq]; omega)
  have hs := e3 _ hrw ht
  obtain ⟨Q, c1⟩ := v_allGood (T := uC T X c Y') (n := n) (by have := hrx.1; omega) hrx.2.1 hrx.2.2.2.2.2.2.2.2.2.1 hs
  refine ⟨Q, Y', ?_, e2.trans hY.1⟩
  unfold dispA b_L_ahead_410
  rw [if_neg (by decide), if_neg (by decide), if_neg (by decide)]
  exact e1.trans (fin553 rec27 (p := 0) (dn := dn) rfl (by rw [if_pos rfl]; exact c1) (t_v3 _))
theorem l_384 (hc : KC T c) (hn6 : n ≤ 6) (hn : X 4 0 = nI n) (p : Int32) : ∀ (m j fuel : Nat) (Y : LX), j + m = n → m < fuel → ∃ Y', f_L_ahead_384 rec27 fuel (HT (uC T X c Y)) 0 x y 133 134 137 c (c + 1) (c + 2) (c + 3) p (nI j) = b_L_ahead_410 rec27 (HT (uC T X c Y')) 0 x y 133 134 137 c (c + 1) (c + 2) (c + 3) p ∧ Y' 0 = Y 0 ∧ Y' 4 = Y 4 ∧ rowX Y' = rowX Y ∧ ∀ q, q < n → Y' 1 (9 * q + 1) = if j ≤ q then 0 else Y 1 (9 * q + 1) := by
  intro m
  induction m with
  | zero =>
    intro j fuel Y hj hf
    obtain ⟨fuel, rfl⟩ : ∃ f, fuel = f + 1 := ⟨fuel - 1, by omega⟩
    refine ⟨Y, ?_, rfl, rfl, rfl, fun q hq => (if_neg (by omega)).symm⟩
    show b_L_ahead_384 rec27 _ _ 0 x y 133 134 137 c (c + 1) (c + 2) (c + 3) p _ = _
    unfold b_L_ahead_384
    rw [z_m4 hc, l6_0, obs, hn, if_pos (nI_le (by omega) (by omega))]
  | succ m ih =>
    intro j fuel Y hj hf
    obtain ⟨fuel, rfl⟩ : ∃ f, fuel = f + 1 := ⟨fuel - 1, by omega⟩
    obtain ⟨Y', g1, g2, g3, g4, g5⟩ := ih (j + 1) fuel (ux Y 1 (9 * j + 1) 0) (by omega) (by omega)
    refine ⟨Y', ?_, g2, g3, g4.trans (qx_w _ _ _), fun q hq => ?_⟩
    · rw [← g1]
      show b_L_ahead_384 rec27 _ _ 0 x y 133 134 137 c (c + 1) (c + 2) (c + 3) p _ = _
      unfold b_L_ahead_384
      rw [z_m4 hc, l6_0, obs, hn, if_neg (nI_ge (by omega) (by omega)), jx9, ixa1, z_s1 hc, bd_nI (by omega) (by decide), obs, nI_1]
    · rw [g5 q hq, ux_11]
      by_cases h : q = j
      · rw [h, if_neg (by omega), upd_s, if_pos (Nat.le_refl _)]
      · rw [upd_n (by omega)]
        by_cases h2 : j + 1 ≤ q
        · rw [if_pos h2, if_pos (by omega)]
        · rw [if_neg h2, if_neg (by omega)]
theorem pass_1 (hc : KC T c) (h : RLT T X n s) (hY : CP X Y) : ∃ Q Y', dispA rec27 x y c (HT (uC T X c Y)) 1 = b_L_ahead_585 rec27 (HT (uC (uP T 1 Q) X c Y')) 0 x y 133 134 137 c (c + 1) (c + 2) (c + 3) 1 ∧ Y' 0 = X 0 := by
  obtain ⟨hrx, hi, ha⟩ := h
  have hn6 := hrx.1
  obtain ⟨Y1, g1, g2, g3, g4, g5⟩ := l_384 (T := T) (X := X) (x := x) (y := y) rec27 hc hrx.1 hrx.2.2.1 1 n 0 FU Y (by omega) (by rw [FU_eq]; omega)
  have hrw0 := CP_RW (RX_cp (T.1.2.2 1) hrx) hY
  have hrw : RW n (wS (cpP (T.1.2.2 0) (T.1.2.2 1)) 3 0) Y1 := by
    obtain ⟨hn6, h0, x0, x1, hrow, hw, hwn, hok, htb⟩ := hrw0
    refine ⟨hn6, h0, by rw [g3]; exact x0, by rw [g3]; exact x1, fun q hq => by rw [g4]; exact hrow q hq, fun q hq => ?_, Nat.two_pow_pos n, hok, htb⟩
    rw [g5 q hq, if_pos (Nat.zero_le q)]
    show (0 : Int32) = if tb 0 q = true then 1 else 0
    rw [tb_0]
    rfl
  have ht : ((wS (cpP (T.1.2.2 0) (T.1.2.2 1)) 3 0).1 1).toInt + ((1001 : Nat) : Int) ≤ 30000 := by
    have := ha.1.2
    show ((T.1.2.2 0).1 1).toInt + _ ≤ _
    omega
  obtain ⟨Y', kk, dn, e1, e2, e3⟩ := l_416 (T := T) (X := X) (x := x) (y := y) hc hrx.1 hrx.2.2.1 rec27 1 (tp := fun P => ofF (rowP P) (P.1 2) n 0) (fun Y P hR hy => tp_off hR hy) 1001 0 FU Y1 ⟨_, hrw, ht⟩ (by rw [g3]; exact hY.2.2 1 (by decide)) (by omega) (by rw [FU_eq]; omega)
  have hs := e3 _ hrw ht
  obtain ⟨Q, c1⟩ := v_allOff (T := uC T X c Y') (n := n) (by have := hrx.1; omega) hrx.2.1 hs
  refine ⟨Q, Y', ?_, (e2.trans g2).trans hY.1⟩
  unfold dispA
  rw [if_neg (by decide), if_neg (by decide), if_pos rfl, show (0 : Int32) = nI 0 from rfl, g1]
  unfold b_L_ahead_410
  exact e1.trans (fin553 rec27 (p := 1) (dn := dn) rfl (by rw [if_neg (by decide)]; exact c1) (t_v3 _))
/-! a short -/
def PJ (n : Nat) : Nat → PV → PV → Int32 → Int32 → Prop
  | 0, P, P', d, d' => P' = P ∧ d' = d
  | m + 1, P, P', d, d' => ∃ P1, PT n P P1 ∧ PJ n m P1 P' (jdF (rowP P1) (rowP P) n 0 d) d'
def finS (x y : Int32) (c : Nat) (h : MH) (p r v : Int32) : Option (Int32 × MH) :=
  (vcall h 3 0 (f_X3_ifShort h 0 r v (0 : Int32))).bind fun p12 =>
  (aI p12.2 (c + 3) (5 : Int32)).bind fun v13 =>
  if p12.1 = v13 then
    ((vcall p12.2 3 0 (f_X3_ifShort p12.2 0 r v (1 : Int32))).bind fun p14 =>
    (f_L_mask p14.2 (2 : Int32) (3 : Int32) c (c + 3)).bind fun v15 =>
    if p14.1 = v15 then
      ((vcall p14.2 3 0 (f_X3_ifShort p14.2 0 r v (2 : Int32))).bind fun p16 =>
      (f_L_mask p16.2 (2 : Int32) (5 : Int32) c (c + 3)).bind fun v17 =>
      if p16.1 = v17 then
        (b_L_ahead_585 rec27 p16.2 0 x y 133 134 137 c (c + 1) (c + 2) (c + 3) p)
      else
        (b_L_ahead_373 p16.2))
    else
      (b_L_ahead_373 p14.2))
  else
    (b_L_ahead_373 p12.2)
theorem time1 {A B : PV} (h : PT n A B) (h1 : 0 ≤ (A.1 1).toInt) (h2 : (A.1 1).toInt ≤ 30000) : (B.1 1).toInt = (A.1 1).toInt + 1 := by
  have e1 : (1 : Int32).toInt = 1 := rfl
  rw [h.2.2.1, i_add (by omega) (by omega)]
  rfl
theorem l_290 (hc : KC T c) (p r v : Int32) : ∀ (m k fuel : Nat) (Y : LX), (∃ P, RW n P Y ∧ (P.1 1).toInt + m ≤ 30000) → k + m = 100 → m < fuel → ∃ Y', f_L_ahead_290 rec27 fuel (HT (uC T X c Y)) 0 x y 133 134 137 c (c + 1) (c + 2) (c + 3) p r v (nI k) = finS rec27 x y c (HT (uC T X c Y')) p r v ∧ Y' 0 = Y 0 ∧ ∀ P P' d', RW n P Y → (P.1 1).toInt + m ≤ 30000 → PJ n m P P' (Y 4 5) d' → RW n P' Y' ∧ Y' 4 5 = d' := by
  intro m
  induction m with
  | zero =>
    intro k fuel Y _ hk hf
    obtain ⟨fuel, rfl⟩ : ∃ f, fuel = f + 1 := ⟨fuel - 1, by omega⟩
    refine ⟨Y, ?_, rfl, fun P P' d' h _ hp => ⟨by rw [hp.1]; exact h, hp.2.symm⟩⟩
    show b_L_ahead_290 rec27 _ _ 0 x y 133 134 137 c (c + 1) (c + 2) (c + 3) p r v _ = _
    unfold b_L_ahead_290 finS
    rw [if_pos (by rw [show (100 : Int32) = nI 100 from rfl]; exact nI_le (by omega) (by omega))]
  | succ m ih =>
    intro k fuel Y hP hk hf
    obtain ⟨fuel, rfl⟩ : ∃ f, fuel = f + 1 := ⟨fuel - 1, by omega⟩
    obtain ⟨P, hP, ht⟩ := hP
    obtain ⟨Y1, k1, k2, k3⟩ := tickC (X := X) hc hP
    have hz := hP.2.2.2.2.2.2.2.2.1.1
    obtain ⟨P1, _, g2⟩ := p_tick (G := gT T) (b := 1) (P := P) (by decide) (show n ≤ 8 by have := hP.1; omega) hP.2.1
    have et1 := time1 g2 hz (by omega)
    obtain ⟨Y', a1, a2, a3⟩ := ih (k + 1) fuel Y1 ⟨P1, (k3 P P1 hP g2 (by omega)).1, by omega⟩ (by omega) (by omega)
    refine ⟨Y', ?_, a2.trans k2, fun Q P' d' hQ htQ hp => ?_⟩
    · rw [← a1]
      show b_L_ahead_290 rec27 _ _ 0 x y 133 134 137 c (c + 1) (c + 2) (c + 3) p r v _ = _
      unfold b_L_ahead_290
      rw [if_neg (by rw [show (100 : Int32) = nI 100 from rfl]; exact nI_ge (by omega) (by omega)), k1, obs, nI_1]
    · obtain ⟨Q1, q1, q2⟩ := hp
      have hz' := hQ.2.2.2.2.2.2.2.2.1.1
      have et2 := time1 q1 hz' (by omega)
      obtain ⟨r1, r2⟩ := k3 Q Q1 hQ q1 (by omega)
      refine a3 Q1 P' d' r1 (by omega) ?_
      rw [r2, fal_tick hQ.2.2.2.2.2.2.2.1 q1]
      exact q2
theorem v_shortLoop (hn8 : n ≤ 8) (what : Int32) : ∀ (m k fuel : Nat) (P : PV) (d : Int32), P.1 0 = nI n → k + m = 100 → m < fuel → ∃ Q d', f_X3_ifShort_76 fuel (HT (uP T 1 P)) 0 what d (nI k) = some (shA Q n d' what, HT (uP T 1 Q)) ∧ PJ n m P Q d d' := by
  intro m
  induction m with
  | zero =>
    intro k fuel P d h0 hk hf
    obtain ⟨fuel, rfl⟩ : ∃ f, fuel = f + 1 := ⟨fuel - 1, by omega⟩
    refine ⟨P, d, ?_, rfl, rfl⟩
    show b_X3_ifShort_76 _ _ _ _ _ _ = _
    unfold b_X3_ifShort_76 b_X3_ifShort_130 shA
    rw [if_pos (by rw [show (100 : Int32) = nI 100 from rfl, nI_leI (by omega) (by omega)]; omega)]
    by_cases h : what = 0
    · rw [if_pos h, if_pos h]
    · rw [if_neg h, if_neg h, t_R1, obs]
      by_cases h2 : what = 1
      · rw [if_pos h2, if_pos h2, f_v1, f_mask T hn8 h0, obs]
      · rw [if_neg h2, if_neg h2, f_v1, f_mask T hn8 h0, obs]
  | succ m ih =>
    intro k fuel P d h0 hk hf
    obtain ⟨fuel, rfl⟩ : ∃ f, fuel = f + 1 := ⟨fuel - 1, by omega⟩
    obtain ⟨P1, e1, hp⟩ := f_tick T (P := P) hn8 h0
    obtain ⟨Q, d', k1, k2⟩ := ih (k + 1) fuel P1 (jdF (rowP P1) (rowP P) n 0 d) (hp.2.1.trans h0) (by omega) (by omega)
    refine ⟨Q, d', ?_, P1, hp, k2⟩
    rw [← k1]
    show b_X3_ifShort_76 _ _ _ _ _ _ = _
    unfold b_X3_ifShort_76
    have ed : d ||| jdF (rowP P1) (rowP P) n 0 0 = jdF (rowP P1) (rowP P) n 0 d := by
      rw [← jd_or, I32_or0]
    rw [if_neg (by rw [show (100 : Int32) = nI 100 from rfl]; exact nI_ge (by omega) (by omega)), t_R1, obs, f_v1, e1, obs, t_R1, obs, f_v1, f_just T hn8 h0 hp, obs, obs, ed, nI_1]
theorem v_ifShort (hn8 : n ≤ 8) (h0 : (T.1.2.2 0).1 0 = nI n) {r v : Nat} (hr : r < n) (h1 : 1 ≤ v) (h2 : v ≤ 500) {what : Int32} (hw : what = 0 ∨ what = 1 ∨ what = 2) : ∃ Q d', f_X3_ifShort (HT T) 0 (nI r) (nI v) what = some (shA Q n d' what, HT (uP T 1 Q)) ∧ PJ n 100 (wA (cpP (T.1.2.2 0) (T.1.2.2 1)) 9 r (nI v)) Q 0 d' := by
  obtain ⟨Q, d', e1, e2⟩ := v_shortLoop (T := T) hn8 what 100 0 FU (wA (cpP (T.1.2.2 0) (T.1.2.2 1)) 9 r (nI v)) 0 h0 (by omega) (by rw [FU_eq]; omega)
  refine ⟨Q, d', ?_, e2⟩
  have w0 : ¬ what < 0 := by rcases hw with rfl | rfl | rfl <;> decide
  have w2 : what ≤ 2 := by rcases hw with rfl | rfl | rfl <;> decide
  have c1 : ¬ nI v < (1 : Int32) := by rw [show (1 : Int32) = nI 1 from rfl, nI_ltI (by omega) (by omega)]; omega
  have c2 : ¬ (500 : Int32) < nI v := by rw [show (500 : Int32) = nI 500 from rfl, nI_ltI (by omega) (by omega)]; omega
  unfold f_X3_ifShort
  rw [t_v3, c_isRail h0, obs, if_neg (rail_not hn8 hr), if_neg n10, if_neg c1, if_neg c2, if_neg w0, if_pos w2, t_R1, obs, t_R0, obs, f_v1, f_copy, obs, t_R1, obs, f_R9, obs, f_s9 T _ (by omega), obs]
  exact e1
theorem pass_2 (hc : KC T c) (h : RLT T X n s) (hn1 : 1 ≤ n) {a b : Nat} (ha31 : a < 2 ^ 31) (hb31 : b < 2 ^ 31) (hY : CP X Y) : ∃ T' Y', dispA rec27 (nI a) (nI b) c (HT (uC T X c Y)) 2 = b_L_ahead_585 rec27 (HT (uC T' X c Y')) 0 (nI a) (nI b) 133 134 137 c (c + 1) (c + 2) (c + 3) 2 ∧ Y' 0 = X 0 ∧ ∃ Q, T' = uP T 1 Q := by
  obtain ⟨hrx, hi, ha⟩ := h
  have hn6 := hrx.1
  have x0 := hrx.2.2.1
  have hr : a / 2 % n < n := Nat.mod_lt _ (by omega)
  have e4 : nI a >>> ((4 : Int32) &&& 31) = nI (a / 16) := pk_shrN ha31 _ 4 (by decide)
  have key : ∀ v r : Nat, r < n → v < 500 → ∀ {q : Int32}, f_L_at (HT (uC T X c Y)) (nI b) q = some (nI v) → ∃ T' Y', b_L_ahead_264 rec27 (HT (uC T X c Y)) 0 (nI a) (nI b) 133 134 137 c (c + 1) (c + 2) (c + 3) 2 (nI r) 1 (nI b) q = b_L_ahead_585 rec27 (HT (uC T' X c Y')) 0 (nI a) (nI b) 133 134 137 c (c + 1) (c + 2) (c + 3) 2 ∧ Y' 0 = X 0 ∧ ∃ Q, T' = uP T 1 Q := by
    intro v r hr hv q hq
    have hrw : ∀ Q, RW n (wA (cpP (T.1.2.2 0) Q) 9 r (nI (1 + v))) (ux (ux Y 1 (9 * r + 5) (nI (1 + v))) 4 5 0) := by
      intro Q
      obtain ⟨hn6, h0, x0, x1, hrow, hw, hwn, hok, ⟨t0, t13⟩⟩ := CP_RW (RX_cp Q hrx) hY
      refine ⟨hn6, h0, x0, x1, fun q hq => ?_, wn_ux (wn_ux hw (Or.inr (by omega)) _) (Or.inl (by decide)) _, hwn, fun q hq => ?_, t0, fun q hq => ?_⟩
      · rw [rw_12, qx_o _ (by decide), qx_12]
        by_cases e : q = r
        · rw [e, sr_at, sr_at]
          exact R6_upd (hrow r hr) _ _
        · rw [sr_ne _ _ e, sr_ne _ _ e]
          exact hrow q hq
      · rw [rw_12]
        by_cases e : q = r
        · rw [e, sr_at]
          exact RowOK_12 (hok r hr) (by rw [nI_toInt (by omega)]; omega)
        · rw [sr_ne _ _ e]
          exact hok q hq
      · rw [rw_12]
        by_cases e : q = r
        · rw [e, sr_at, upd_n (by decide)]
          exact t13 r hr
        · rw [sr_ne _ _ e]
          exact t13 q hq
    have ht : ∀ Q, ((wA (cpP (T.1.2.2 0) Q) 9 r (nI (1 + v))).1 1).toInt + ((100 : Nat) : Int) ≤ 30000 := by
      intro Q
      have := ha.1.2
      show ((T.1.2.2 0).1 1).toInt + _ ≤ _
      omega
    obtain ⟨Y', e1, e2, e3⟩ := l_290 (T := T) (X := X) (x := nI a) (y := nI b) (n := n) rec27 hc 2 (nI r) (nI (1 + v)) 100 0 FU (ux (ux Y 1 (9 * r + 5) (nI (1 + v))) 4 5 0) ⟨_, hrw (T.1.2.2 1), ht _⟩ (by omega) (by rw [FU_eq]; omega)
    rw [show nI 0 = (0 : Int32) from rfl] at e1
    have fin : ∀ (T' : TS), (T'.1.2.2 0) = T.1.2.2 0 → ∀ what : Int32, what = 0 ∨ what = 1 ∨ what = 2 → ∃ Q d', f_X3_ifShort (HT (uC T' X c Y')) 0 (nI r) (nI (1 + v)) what = some (shA Q n d' what, HT (uC (uP T' 1 Q) X c Y')) ∧ RW n Q Y' ∧ Y' 4 5 = d' := by
      intro T' hT what hw
      obtain ⟨Q, d', s1, s2⟩ := v_ifShort (T := uC T' X c Y') (n := n) (by omega) (by show (T'.1.2.2 0).1 0 = _; rw [hT]; exact hrx.2.1) hr (show 1 ≤ 1 + v by omega) (by omega) hw
      have s2 : PJ n 100 (wA (cpP (T'.1.2.2 0) (T'.1.2.2 1)) 9 r (nI (1 + v))) Q 0 d' := s2
      rw [hT] at s2
      obtain ⟨r1, r2⟩ := e3 _ Q d' (hrw _) (ht _) s2
      exact ⟨Q, d', s1, r1, r2⟩
    have hm : ∀ {Q : PV} (v : Int32), RW n Q Y' → nI (mkN (fun q => decide (Y' 1 (9 * q + 2) = v)) n) = maS (rowP Q) v n := by
      intro Q v hQ
      unfold maS
      refine congrArg nI (mk_congr fun q hq => ?_)
      rw [hQ.2.2.2.2.1 q hq 9 (by decide)]
      rfl
    obtain ⟨Q0, d0, a1, a2, a3⟩ := fin T rfl 0 (Or.inl rfl)
    obtain ⟨Q1, d1, b1, b2, b3⟩ := fin (uP T 1 Q0) rfl 1 (Or.inr (Or.inl rfl))
    obtain ⟨Q2, d2, c1, c2, c3⟩ := fin (uP (uP T 1 Q0) 1 Q1) rfl 2 (Or.inr (Or.inr rfl))
    refine ⟨uP (uP (uP T 1 Q0) 1 Q1) 1 Q2, Y', ?_, e2.trans hY.1, Q2, by rw [uP_uP, uP_uP]⟩
    unfold b_L_ahead_264
    rw [hq, obs, obs, show (1 : Int32) + nI v = nI (1 + v) from nI_add 1 v, jx9, ixa5, z_s1 hc, bd_nI (by omega) (by decide), obs, z_s4 hc, l6_5, obs, e1]
    unfold finS
    have hc0 : KC (uP T 1 Q0) c := hc
    have hc1 : KC (uP (uP T 1 Q0) 1 Q1) c := hc
    have hc2 : KC (uP (uP (uP T 1 Q0) 1 Q1) 1 Q2) c := hc
    have m1 : f_L_mask (HT (uC (uP (uP T 1 Q0) 1 Q1) X c Y')) 2 3 c (c + 3) = some (maS (rowP Q1) 3 n) := (z_mask hc1 (p := 2) b2.2.2.1 hn6 (by decide) 3).trans (congrArg some (hm 3 b2))
    have m2 : f_L_mask (HT (uC (uP (uP (uP T 1 Q0) 1 Q1) 1 Q2) X c Y')) 2 5 c (c + 3) = some (maS (rowP Q2) 5 n) := (z_mask hc2 (p := 2) c2.2.2.1 hn6 (by decide) 5).trans (congrArg some (hm 5 c2))
    rw [t_v3, a1, obs, z_a4 hc0, l6_5, obs, if_pos (show shA Q0 n d0 0 = Y' 4 5 from a3.symm), t_v3, b1, obs, m1, obs, if_pos (show shA Q1 n d1 1 = maS (rowP Q1) 3 n from rfl), t_v3, c1, obs, m2, obs, if_pos (show shA Q2 n d2 2 = maS (rowP Q2) 5 n from rfl)]
  unfold dispA
  rw [if_neg (by decide), if_pos rfl, z_m4 hc, l6_0, obs, x0, l_at _ ha31 (by omega) (by omega), obs, e4, show f_L_at (HT (uC T X c Y)) (nI (a / 16)) 3 = some (nI (a / 16 / 2 % 3)) from l_at _ (c := 3) (by omega) (by decide) (by decide), obs]
  split
  · exact key (b / 2 % 500) _ hr (Nat.mod_lt _ (by decide)) (l_at _ (c := 500) hb31 (by decide) (by decide))
  · exact key (b / 2 % 30) _ hr (Nat.lt_of_lt_of_le (Nat.mod_lt _ (show 0 < 30 by decide)) (by decide)) (l_at _ (c := 30) hb31 (by decide) (by decide))
/-! standing still -/
def stA (X Y : LX) (q : Nat) : Bool := (decide (Y 1 (9 * q + 2) = X 1 (9 * q + 2)) && decide (Y 1 (9 * q + 3) = X 1 (9 * q + 3))) && decide (Y 1 (9 * q + 6) = X 1 (9 * q + 6))
theorem l_109 (hc : KC T c) (hn6 : n ≤ 6) (hn : X 4 0 = nI n) (p : Int32) : ∀ (m j fuel : Nat) (d : Bool), j + m = n → m < fuel → f_L_ahead_109 rec27 fuel (HT (uC T X c Y)) 0 x y 133 134 137 c (c + 1) (c + 2) (c + 3) p (if d = true then 1 else 0) (nI j) = (f_X3_count (HT (uC T X c Y)) 0 9).bind (fun p24 => b_L_ahead_223 rec27 p24.2 0 x y 133 134 137 c (c + 1) (c + 2) (c + 3) p p24.1 (if (d && al (stA X Y) m j) = true then 1 else 0)) := by
  intro m
  induction m with
  | zero =>
    intro j fuel d hj hf
    obtain ⟨fuel, rfl⟩ : ∃ f, fuel = f + 1 := ⟨fuel - 1, by omega⟩
    show b_L_ahead_109 rec27 _ _ 0 x y 133 134 137 c (c + 1) (c + 2) (c + 3) p _ _ = _
    unfold b_L_ahead_109
    rw [z_m4 hc, l6_0, obs, hn, if_pos (nI_le (by omega) (by omega)), t_v3]
    cases d
    · rw [if_neg (show ¬ false = true by decide), if_neg (show ¬ (false && al (stA X Y) 0 j) = true by rw [Bool.false_and]; decide)]
      rfl
    · rw [if_pos (show true = true from rfl), if_pos (show (true && al (stA X Y) 0 j) = true from rfl)]
      rfl
  | succ m ih =>
    intro j fuel d hj hf
    obtain ⟨fuel, rfl⟩ : ∃ f, fuel = f + 1 := ⟨fuel - 1, by omega⟩
    have e199 : ∀ u : Int32, b_L_ahead_199 rec27 (f_L_ahead_109 rec27 fuel) (HT (uC T X c Y)) 0 x y 133 134 137 c (c + 1) (c + 2) (c + 3) p (nI j) u = f_L_ahead_109 rec27 fuel (HT (uC T X c Y)) 0 x y 133 134 137 c (c + 1) (c + 2) (c + 3) p u (nI (j + 1)) := by
      intro u
      unfold b_L_ahead_199
      rw [nI_1]
    show b_L_ahead_109 rec27 _ _ 0 x y 133 134 137 c (c + 1) (c + 2) (c + 3) p _ _ = _
    unfold b_L_ahead_109
    rw [z_m4 hc, l6_0, obs, hn, if_neg (nI_ge (by omega) (by omega))]
    unfold b_L_ahead_198
    rw [e199, e199]
    cases d
    · rw [if_neg (show ¬ false = true by decide), if_pos rfl]
      have i := ih (j + 1) fuel false (by omega) (by omega)
      rw [if_neg (show ¬ false = true by decide)] at i
      rw [i, Bool.false_and, Bool.false_and]
    · rw [if_pos (show true = true from rfl), if_neg (show ¬ (1 : Int32) = 0 by decide)]
      have i := ih (j + 1) fuel (stA X Y j) (by omega) (by omega)
      rw [Bool.true_and, show al (stA X Y) (m + 1) j = (stA X Y j && al (stA X Y) m (j + 1)) from rfl, ← i]
      unfold stA
      rw [jx9, ixa2, ixa3, ixa6, z_a1 hc, bd_nI (by omega) (by decide), z_a1 hc, bd_nI (by omega) (by decide), z_a1 hc, bd_nI (by omega) (by decide), z_m1 hc, bd_nI (by omega) (by decide), z_m1 hc, bd_nI (by omega) (by decide), z_m1 hc, bd_nI (by omega) (by decide)]
      simp only [obs]
      by_cases h1 : Y 1 (9 * j + 2) = X 1 (9 * j + 2)
      · rw [if_pos h1, decide_eq_true h1, Bool.true_and]
        by_cases h2 : Y 1 (9 * j + 3) = X 1 (9 * j + 3)
        · rw [if_pos h2, decide_eq_true h2, Bool.true_and]
          by_cases h3 : Y 1 (9 * j + 6) = X 1 (9 * j + 6)
          · rw [if_pos h3, decide_eq_true h3, if_pos rfl]
          · rw [if_neg h3, decide_eq_false h3, if_neg (show ¬ false = true by decide)]
        · rw [if_neg h2, decide_eq_false h2, Bool.false_and, if_neg (show ¬ false = true by decide)]
      · rw [if_neg h1, decide_eq_false h1, Bool.false_and, Bool.false_and, if_neg (show ¬ false = true by decide)]
theorem st_al {A B : Nat → Nat → Int32} (hA : ∀ q, q < n → R6 (A q) (rowX Y q)) (hB : ∀ q, q < n → B q = rowX X q) : ∀ m k, k + m ≤ n → al (stA X Y) m k = stF A B m k := by
  intro m
  induction m with
  | zero => exact fun _ _ => rfl
  | succ m ih =>
    intro k hk
    unfold al stF
    rw [ih (k + 1) (by omega), hA k (by omega) 9 (by decide), hA k (by omega) 10 (by decide), hA k (by omega) 13 (by decide), hB k (by omega)]
    rfl
theorem pass_3 (hc : KC T c) (h : RLT T X n s) (hY : CP X Y) : ∃ Q Y', dispA rec27 x y c (HT (uC T X c Y)) 3 = b_L_ahead_585 rec27 (HT (uC (uP T 1 Q) X c Y')) 0 x y 133 134 137 c (c + 1) (c + 2) (c + 3) 3 ∧ Y' 0 = X 0 := by
  obtain ⟨hrx, hi, ha⟩ := h
  have hn6 := hrx.1
  have hrx1 := RX_cp (T.1.2.2 1) hrx
  have hrw := CP_RW hrx1 hY
  have ht := ha.1.2
  obtain ⟨Y1, k1, k2, k3⟩ := tickC (X := X) hc hrw
  obtain ⟨Q, c1, c2⟩ := c_count9 (T := uC T X c Y1) (n := n) (by omega) hrx.2.1
  have r1 := (k3 _ Q hrw c1 (by show ((T.1.2.2 0).1 1).toInt < _; omega)).1
  have e1 := l_109 (T := T) (X := X) (Y := Y1) (x := x) (y := y) rec27 hc hn6 hrx.2.2.1 3 n 0 FU true (by omega) (by rw [FU_eq]; omega)
  rw [if_pos (show true = true from rfl), Bool.true_and, show nI 0 = (0 : Int32) from rfl, st_al (n := n) r1.2.2.2.2.1 hrx1.2.2.2.2.2.1 n 0 (by omega), show (9 : Int32) = nI 9 from rfl, v_count0 (by decide), c2, obs, obs] at e1
  refine ⟨Q, Y1, ?_, k2.trans hY.1⟩
  unfold dispA
  rw [if_pos rfl, k1, obs]
  refine e1.trans ?_
  unfold b_L_ahead_223
  exact if_pos rfl
