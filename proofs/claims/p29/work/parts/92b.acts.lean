/-! the law's actions: a property set, rails on and off, ticks -/
variable {T : TS} {X : LX} {n s : Nat}
theorem in_r {z lo hi : Nat} (h1 : lo ≤ z) (h2 : z ≤ hi) (h3 : hi < 2 ^ 31) : ¬ (nI z < nI lo ∨ nI hi < nI z) := by
  rw [nI_ltI (by omega) (by omega), nI_ltI (by omega) (by omega)]
  omega
theorem l_value (h : MH) {k y : Nat} (hk : k < 7) (hy : y < 2 ^ 31) : ∃ z, f_L_value h (nI k) (nI y) = some (nI z) ∧ ¬ (nI z < roL k ∨ roM k < nI z) ∧ z ≤ 5000 := by
  have e9 : nI y >>> ((9 : Int32) &&& 31) = nI (y / 512) := pk_shrN hy _ 9 (by decide)
  have e2 : f_L_at h (nI (y / 512)) 2 = some (nI (y / 512 / 2 % 2)) := l_at h (c := 2) (by omega) (by decide) (by decide)
  have m12 : ∀ q : Nat, ∃ z, (if nI q = 0 then b_L_value_44 h 1 (nI y) 1000 else b_L_value_44 h 1 (nI y) 200) = some (nI z) ∧ 1 ≤ z ∧ z ≤ 1000 := by
    intro q
    split
    · unfold b_L_value_44 b_L_value_105
      rw [show f_L_at h (nI y) 1000 = some (nI (y / 2 % 1000)) from l_at h (c := 1000) hy (by decide) (by decide), obs]
      exact ⟨1 + y / 2 % 1000, congrArg some (nI_add 1 _), by omega, by have := Nat.mod_lt (y / 2) (show 0 < 1000 by decide); omega⟩
    · unfold b_L_value_44 b_L_value_105
      rw [show f_L_at h (nI y) 200 = some (nI (y / 2 % 200)) from l_at h (c := 200) hy (by decide) (by decide), obs]
      exact ⟨1 + y / 2 % 200, congrArg some (nI_add 1 _), by omega, by have := Nat.mod_lt (y / 2) (show 0 < 200 by decide); omega⟩
  have m12 := m12 (y / 512 / 2 % 2)
  match k, hk with
  | 0, _ =>
    unfold f_L_value b_L_value_105
    rw [if_pos (by decide), show f_L_at h (nI y) 4901 = some (nI (y / 2 % 4901)) from l_at h (c := 4901) hy (by decide) (by decide), obs]
    have := Nat.mod_lt (y / 2) (show 0 < 4901 by decide)
    exact ⟨100 + y / 2 % 4901, congrArg some (nI_add 100 _), in_r (lo := 100) (hi := 5000) (by omega) (by omega) (by decide), by omega⟩
  | 1, _ =>
    obtain ⟨z, k1, k2, k3⟩ := m12
    unfold f_L_value
    rw [if_neg (by decide), if_neg (by decide), e9, e2, obs]
    exact ⟨z, k1, in_r k2 k3 (by decide), by omega⟩
  | 2, _ =>
    obtain ⟨z, k1, k2, k3⟩ := m12
    unfold f_L_value
    rw [if_neg (by decide), if_neg (by decide), e9, e2, obs]
    exact ⟨z, k1, in_r k2 k3 (by decide), by omega⟩
  | 3, _ =>
    unfold f_L_value b_L_value_105
    rw [if_neg (by decide), if_pos (by decide), if_pos (by decide), show f_L_at h (nI y) 51 = some (nI (y / 2 % 51)) from l_at h (c := 51) hy (by decide) (by decide), obs]
    have := Nat.mod_lt (y / 2) (show 0 < 51 by decide)
    exact ⟨50 + y / 2 % 51, congrArg some (nI_add 50 _), in_r (lo := 50) (hi := 100) (by omega) (by omega) (by decide), by omega⟩
  | 4, _ =>
    unfold f_L_value b_L_value_105
    rw [if_neg (by decide), if_pos (by decide), if_neg (by decide), if_pos (by decide), show f_L_at h (nI y) 12 = some (nI (y / 2 % 12)) from l_at h (c := 12) hy (by decide) (by decide), obs]
    have := Nat.mod_lt (y / 2) (show 0 < 12 by decide)
    exact ⟨y / 2 % 12, rfl, in_r (lo := 0) (hi := 50) (by omega) (by omega) (by decide), by omega⟩
  | 5, _ =>
    unfold f_L_value b_L_value_105
    rw [if_neg (by decide), if_pos (by decide), if_neg (by decide), if_neg (by decide), if_pos (by decide), show f_L_at h (nI y) 60 = some (nI (y / 2 % 60)) from l_at h (c := 60) hy (by decide) (by decide), obs]
    have := Nat.mod_lt (y / 2) (show 0 < 60 by decide)
    exact ⟨1 + y / 2 % 60, congrArg some (nI_add 1 _), in_r (lo := 1) (hi := 200) (by omega) (by omega) (by decide), by omega⟩
  | 6, _ =>
    unfold f_L_value b_L_value_105
    rw [if_neg (by decide), if_pos (by decide), if_neg (by decide), if_neg (by decide), if_neg (by decide), show f_L_at h (nI y) 4 = some (nI (y / 2 % 4)) from l_at h (c := 4) hy (by decide) (by decide), obs]
    have := Nat.mod_lt (y / 2) (show 0 < 4 by decide)
    exact ⟨1 + y / 2 % 4, congrArg some (nI_add 1 _), in_r (lo := 1) (hi := 4) (by omega) (by omega) (by decide), by omega⟩
theorem qx_p (X : LX) (r : Nat) {p : Nat} (hp : p < 7) (x : Int32) : rowX (ux X 0 (7 * r + p) x) = setRow (rowX X) r (upd (rowX X r) p x) := by
  match p, hp with
  | 0, _ => exact qx_0 X r x
  | 1, _ => exact qx_1 X r x
  | 2, _ => exact qx_2 X r x
  | 3, _ => exact qx_3 X r x
  | 4, _ => exact qx_4 X r x
  | 5, _ => exact qx_5 X r x
  | 6, _ => exact qx_6 X r x
theorem act_set (h : RLT T X n s) (hn1 : 1 ≤ n) {a : Int32} (hA : a = 13 ∨ a = 14) {x y : Nat} (hx : x < 2 ^ 31) (hy : y < 2 ^ 31) : AR T X n s (f_L_act (HT (uL T 134 X)) 0 a (nI x) (nI y) 133 134 135 136 137) := by
  have h' := h
  obtain ⟨hrx, hi, ha⟩ := h'
  have hrx' := hrx
  obtain ⟨hn6, h0, x0, x1, x2, hrow, hw, hlg, hwn, hok, htb⟩ := hrx'
  have hn8 : n ≤ 8 := Nat.le_trans hn6 (by decide)
  have hr : x / 2 % n < n := Nat.mod_lt _ (by omega)
  have e7 : nI y >>> ((7 : Int32) &&& 31) = nI (y / 128) := pk_shrN hy _ 7 (by decide)
  have e40 : f_L_at (HT (uL T 134 X)) (nI (y / 128)) 7 = some (nI (y / 128 / 2 % 7)) := l_at _ (c := 7) (by omega) (by decide) (by decide)
  have hk : y / 128 / 2 % 7 < 7 := Nat.mod_lt _ (by decide)
  have c2 : (2 : Int32) ≤ a := by rcases hA with rfl | rfl <;> decide
  have c7 : (7 : Int32) ≤ a := by rcases hA with rfl | rfl <;> decide
  have c10 : (10 : Int32) ≤ a := by rcases hA with rfl | rfl <;> decide
  have n10' : ¬ a = 10 := by rcases hA with rfl | rfl <;> decide
  have n11 : ¬ a = 11 := by rcases hA with rfl | rfl <;> decide
  have n12 : ¬ a = 12 := by rcases hA with rfl | rfl <;> decide
  have n15 : ¬ (15 : Int32) ≤ a := by rcases hA with rfl | rfl <;> decide
  unfold f_L_act
  rw [if_pos c2, if_pos c7, if_pos c10, y_a4, l6_0, obs, x0, l_at _ hx (by omega) (by omega), obs, jx9, obs, if_neg n10', if_neg n11, if_neg n12, if_neg n15, e7, e40, obs]
  generalize x / 2 % n = r at hr
  generalize y / 128 / 2 % 7 = k at hk
  obtain ⟨z, k1, k2, k3⟩ := l_value (HT (uL T 134 X)) hk hy
  have hb : 7 * r + k < 42 := by omega
  have ew : X 0 (7 * r + k) = (T.1.2.2 0).2 4 (r * 7 + k) := (rx_p X r hk).trans ((congrFun (hrow r hr) k).symm.trans (rd_p _ _ hk))
  have es := v_set (T := uL T 134 (ux X 0 (7 * r + k) (nI z))) (s := s) hn8 hi h0 hr hk k2
  rw [uL_sv] at es
  rw [jx7, nI_add, y_a0, bd_nI hb (by decide), obs, k1, obs, y_s0, bd_nI hb (by decide), obs, y_a0, bd_nI hb (by decide), obs, ux_00, upd_s, t_v3, es, obs]
  unfold b_L_act_844
  exact AR_do (P' := wA (T.1.2.2 0) 4 (r * 7 + k) (nI z)) (X' := ux X 0 (7 * r + k) (nI z)) h (fin1 ew.symm rfl) (RX_row hrx hr (k := k) (by omega) (rw_p _ _ hk _) rfl rfl (qx_p _ _ hk _) rfl rfl (fun w m hh => wn_ux hh (Or.inl (by decide)) _) (RowOK_p (hok r hr) hk k2)) (AZ_row ha (k := k) (by omega) (rw_p _ _ hk _) rfl) (Nat.le_refl _) (by show ((T.1.2.2 0).1 1).toInt ≤ _; omega) (fun q hq => by rw [qx_p _ _ hk, sr_ne _ _ (by omega)])
theorem v_on (hn8 : n ≤ 8) (hi : IC T s) (h0 : (T.1.2.2 0).1 0 = nI n) {x : Int32} (hx : x.toBitVec.toNat < 2 ^ n) : f_X3_on (HT T) 0 x = some ((T.1.2.2 0).1 3 ||| wnF ((T.1.2.2 0).2 5) n x, HT (uP (svT T s) 0 (wS (T.1.2.2 0) 3 ((T.1.2.2 0).1 3 ||| wnF ((T.1.2.2 0).2 5) n x)))) := by
  obtain ⟨hs, hS, hσ⟩ := hi
  unfold f_X3_on
  rw [t_v3, q_rails hn8 h0, obs]
  rw [if_pos hx, if_neg n10, t_v3, t_save T hs hS hσ, obs, t_R0, obs, q_I3, obs, obs, q_v1, q_needed hn8 (by rw [sv_pl T hσ]; exact h0), obs, sv_pl T hσ, q_P3, obs, t_R0, obs, q_I3, obs, uP_pl, sv_pl T hσ]
  rfl
theorem v_off (hn8 : n ≤ 8) (hi : IC T s) (h0 : (T.1.2.2 0).1 0 = nI n) {x : Int32} (hx : x.toBitVec.toNat < 2 ^ n) : f_X3_off (HT T) 0 x = some ((T.1.2.2 0).1 3 &&& (foF ((T.1.2.2 0).2 5) n 0 x ^^^ (-1 : Int32)), HT (uP (svT T s) 0 (wS (T.1.2.2 0) 3 ((T.1.2.2 0).1 3 &&& (foF ((T.1.2.2 0).2 5) n 0 x ^^^ (-1 : Int32)))))) := by
  obtain ⟨hs, hS, hσ⟩ := hi
  unfold f_X3_off
  rw [t_v3, q_rails hn8 h0, obs]
  rw [if_pos hx, if_neg n10, t_v3, t_save T hs hS hσ, obs, t_R0, obs, q_I3, obs, obs, q_v1, q_foll hn8 (by rw [sv_pl T hσ]; exact h0), obs, sv_pl T hσ, q_P3, obs, t_R0, obs, q_I3, obs, uP_pl, sv_pl T hσ]
  rfl
theorem RX_wants {P : PV} {X X' : LX} {w : Int32} (h : RX n P X) (h4 : X' 4 = X 4) (h3 : X' 3 = X 3) (hr : rowX X' = rowX X) (hw : wnX X' w n) (hlt : w.toBitVec.toNat < 2 ^ n) : RX n (wS P 3 w) X' := by
  obtain ⟨hn6, h0, x0, x1, x2, hrow, _, ⟨g1, g2, g3⟩, hwn, hok, htb⟩ := h
  exact ⟨hn6, h0, by rw [h4]; exact x0, by rw [h4]; exact x1, by rw [h4]; exact x2, fun q hq => by rw [hr]; exact hrow q hq, hw, ⟨g1, by rw [h4]; exact g2, fun i hi => by rw [h3]; exact g3 i hi⟩, hlt, hok, htb⟩
theorem y_wants {w : Int32} (hn : X 4 0 = nI n) (hn6 : n ≤ 6) (hw : wnX X w n) (hlt : w.toBitVec.toNat < 2 ^ n) : f_L_mask (HT (uL T 134 X)) 1 1 134 137 = some w := by
  have e := y_mask (T := T) hn hn6 (p := 1) (by decide) 1
  refine Eq.trans e (congrArg some ((congrArg nI (mk_congr fun q hq => ?_)).trans (mk_tb hlt)))
  rw [hw q hq]
  cases tb w q <;> decide
theorem l_wantLoop (hn6 : n ≤ 6) {a x9 W v : Int32} (hv : v = if (9 : Int32) ≤ a then 0 else 1) : ∀ (m k fuel : Nat) (X : LX), X 4 0 = nI n → k + m = n → m < fuel → ∃ X', f_L_act_392 fuel (HT (uL T 134 X)) 0 a 134 137 x9 W (nI k) = (if (9 : Int32) ≤ a then f_X3_off (HT (uL T 134 X')) 0 x9 else f_X3_on (HT (uL T 134 X')) 0 x9).bind (fun p => b_L_act_460 p.2 134 137 p.1) ∧ X' 3 = X 3 ∧ X' 4 = X 4 ∧ rowX X' = rowX X ∧ ∀ q, q < n → X' 1 (9 * q + 1) = if tb W q = true ∧ k ≤ q then v else X 1 (9 * q + 1) := by
  intro m
  induction m with
  | zero =>
    intro k fuel X hn hk hf
    obtain ⟨fuel, rfl⟩ : ∃ f, fuel = f + 1 := ⟨fuel - 1, by omega⟩
    refine ⟨X, ?_, rfl, rfl, rfl, fun q hq => ?_⟩
    · show b_L_act_392 _ _ _ _ _ _ _ _ _ = _
      unfold b_L_act_392
      rw [y_a4, l6_0, obs, hn, if_pos (nI_le (by omega) (by omega))]
      split
      · rw [t_v3]
      · rw [t_v3]
    · rw [if_neg (by omega)]
  | succ m ih =>
    intro k fuel X hn hk hf
    obtain ⟨fuel, rfl⟩ : ∃ f, fuel = f + 1 := ⟨fuel - 1, by omega⟩
    by_cases hb : tb W k = true
    · obtain ⟨X', g1, g2, g3, g4, g5⟩ := ih (k + 1) fuel (ux X 1 (9 * k + 1) v) hn (by omega) (by omega)
      refine ⟨X', ?_, g2, g3, g4.trans (qx_w _ _ _), fun q hq => ?_⟩
      · rw [← g1]
        show b_L_act_392 _ _ _ _ _ _ _ _ _ = _
        unfold b_L_act_392
        rw [y_a4, l6_0, obs, hn, if_neg (nI_ge (by omega) (by omega)), if_pos ((tb_has W (by omega)).2 hb)]
        have e432 : ∀ u : Int32, b_L_act_432 (f_L_act_392 fuel) (HT (uL T 134 X)) 0 a 134 137 x9 W (nI k) 134 ((9 : Int32) * nI k + 1) u = f_L_act_392 fuel (HT (uL T 134 (ux X 1 (9 * k + 1) u))) 0 a 134 137 x9 W (nI (k + 1)) := by
          intro u
          unfold b_L_act_432 b_L_act_433
          rw [jx9, ixa1, y_s1, bd_nI (by omega) (by decide), obs, nI_1]
        rw [e432, e432, hv]
        split <;> rfl
      · rw [g5 q hq, ux_11]
        by_cases hqk : q = k
        · subst hqk
          rw [if_neg (by omega), upd_s, if_pos ⟨hb, Nat.le_refl _⟩]
        · rw [upd_n (by omega)]
          by_cases hh : tb W q = true ∧ k + 1 ≤ q
          · rw [if_pos hh, if_pos ⟨hh.1, by omega⟩]
          · rw [if_neg hh, if_neg (fun c => hh ⟨c.1, by omega⟩)]
    · obtain ⟨X', g1, g2, g3, g4, g5⟩ := ih (k + 1) fuel X hn (by omega) (by omega)
      refine ⟨X', ?_, g2, g3, g4, fun q hq => ?_⟩
      · rw [← g1]
        show b_L_act_392 _ _ _ _ _ _ _ _ _ = _
        unfold b_L_act_392
        rw [y_a4, l6_0, obs, hn, if_neg (nI_ge (by omega) (by omega)), if_neg (fun c => hb ((tb_has W (by omega)).1 c))]
        unfold b_L_act_433
        rw [nI_1]
      · rw [g5 q hq]
        by_cases hqk : q = k
        · subst hqk
          rw [if_neg (by omega), if_neg (fun c => hb c.1)]
        · by_cases hh : tb W q = true ∧ k + 1 ≤ q
          · rw [if_pos hh, if_pos ⟨hh.1, by omega⟩]
          · rw [if_neg hh, if_neg (fun c => hh ⟨c.1, by omega⟩)]
theorem act_wants (h : RLT T X n s) {a : Int32} {v : Nat} (hv : v < 2 ^ n) (hA : a = 7 ∨ a = 8 ∨ a = 9) : AR T X n s (b_L_act_365 (HT (uL T 134 X)) 0 a 134 137 (nI v)) := by
  have h' := h
  obtain ⟨hrx, hi, ha⟩ := h'
  have hrx' := hrx
  obtain ⟨hn6, h0, x0, x1, x2, hrow, hw, hlg, hwn, hok, htb⟩ := hrx'
  have hn8 : n ≤ 8 := Nat.le_trans hn6 (by decide)
  have hp : 2 ^ n ≤ 2 ^ 6 := Nat.pow_le_pow_right (by decide) hn6
  have hv2 : (nI v).toBitVec.toNat < 2 ^ n := by rw [pk_tn (by omega)]; exact hv
  have hnd : ∀ q, q < n → X 1 (9 * q) = (T.1.2.2 0).2 5 q := fun q hq => (congrFun (hrow q hq) 7).symm
  have hnl : ∀ q, q < n → ((T.1.2.2 0).2 5 q).toBitVec.toNat < 2 ^ q := fun q hq => (hok q hq).2.2.2.2.1
  have hnx : ∀ q, q < n → (X 1 (9 * q)).toBitVec.toNat < 2 ^ q := fun q hq => by rw [hnd q hq]; exact hnl q hq
  have fin460 : ∀ (X' : LX) (w : Int32), X' 3 = X 3 → X' 4 = X 4 → rowX X' = rowX X → wnX X' w n → w.toBitVec.toNat < 2 ^ n → AR T X n s (b_L_act_460 (HT (uP (svT (uL T 134 X') s) 0 (wS (T.1.2.2 0) 3 w))) 134 137 w) := by
    intro X' w g3 g4 g5 g6 g7
    rw [uL_sv]
    refine AR_do (n' := n) (P' := wS (T.1.2.2 0) 3 w) (X' := X') h ?_ (RX_wants hrx g4 g3 g5 g6 g7) ⟨ha.1, ha.2⟩ (Nat.le_refl _) (by show ((T.1.2.2 0).1 1).toInt ≤ _; omega) (fun q _ => by rw [g5])
    unfold b_L_act_460 b_L_act_477
    rw [y_wants (by rw [g4]; exact x0) hn6 g6 g7, obs, if_pos rfl, i1]
  unfold b_L_act_365
  by_cases h9 : a = 9
  · subst h9
    have eW : foF (fun q => X 1 (9 * q)) n 0 (nI v) = foF ((T.1.2.2 0).2 5) n 0 (nI v) := fo_congr hnd n 0 _ (by omega)
    rw [if_pos rfl]
    unfold b_L_act_380
    rw [y_up x0 hn6 hnx, obs, eW]
    obtain ⟨X', g1, g2, g3, g4, g5⟩ := l_wantLoop (T := T) (a := 9) (x9 := nI v) (W := foF ((T.1.2.2 0).2 5) n 0 (nI v)) (v := 0) hn6 (by decide) n 0 FU X x0 (by omega) (by rw [FU_eq]; omega)
    rw [if_pos (by decide), v_off (T := uL T 134 X') (s := s) hn8 hi h0 hv2, obs] at g1
    refine (congrArg (AR T X n s) g1).mpr ?_
    refine fin460 X' ((T.1.2.2 0).1 3 &&& (foF ((T.1.2.2 0).2 5) n 0 (nI v) ^^^ (-1 : Int32))) g2 g3 g4 (fun q hq => ?_) (andn_lt hwn)
    rw [g5 q hq, hw q hq, tb_andn _ _ (by omega)]
    cases tb (foF ((T.1.2.2 0).2 5) n 0 (nI v)) q <;> cases tb ((T.1.2.2 0).1 3) q <;> simp
  · have n9 : ¬ (9 : Int32) ≤ a := by
      rcases hA with rfl | rfl | rfl
      · decide
      · decide
      · exact absurd rfl h9
    have eW : wnF (fun q => X 1 (9 * q)) n (nI v) = wnF ((T.1.2.2 0).2 5) n (nI v) := wn_congr n _ hnd
    rw [if_neg h9]
    unfold b_L_act_380
    rw [y_dn x0 hn6 hnx, obs, eW]
    obtain ⟨X', g1, g2, g3, g4, g5⟩ := l_wantLoop (T := T) (a := a) (x9 := nI v) (W := wnF ((T.1.2.2 0).2 5) n (nI v)) (v := 1) hn6 (by rw [if_neg n9]) n 0 FU X x0 (by omega) (by rw [FU_eq]; omega)
    rw [if_neg n9, v_on (T := uL T 134 X') (s := s) hn8 hi h0 hv2, obs] at g1
    refine (congrArg (AR T X n s) g1).mpr ?_
    refine fin460 X' ((T.1.2.2 0).1 3 ||| wnF ((T.1.2.2 0).2 5) n (nI v)) g2 g3 g4 (fun q hq => ?_) (or_lt hwn (wn_lt (nd := (T.1.2.2 0).2 5) n _ hnl (Nat.le_refl _) hv2))
    rw [g5 q hq, hw q hq, tb_or]
    cases tb (wnF ((T.1.2.2 0).2 5) n (nI v)) q <;> cases tb ((T.1.2.2 0).1 3) q <;> simp
theorem bit_n (hn6 : n ≤ 6) (hn : X 4 0 = nI n) {z : Nat} (hz : z < 2 ^ 31) : f_L_at (HT (uL T 134 X)) (nI z) ((1 : Int32) <<< (X 4 0 &&& 31)) = some (nI (z / 2 % 2 ^ n)) := by
  have hp : 2 ^ n ≤ 2 ^ 6 := Nat.pow_le_pow_right (by decide) hn6
  rw [hn, nI_bit (by omega)]
  exact l_at _ hz (Nat.two_pow_pos n) (by omega)
theorem act_on (h : RLT T X n s) {a : Int32} (hA : a = 7 ∨ a = 8) {x y : Nat} (hx : x < 2 ^ 31) (hy : y < 2 ^ 31) : AR T X n s (f_L_act (HT (uL T 134 X)) 0 a (nI x) (nI y) 133 134 135 136 137) := by
  have hn6 := h.1.1
  have hn := h.1.2.2.1
  have c2 : (2 : Int32) ≤ a := by rcases hA with rfl | rfl <;> decide
  have c7 : (7 : Int32) ≤ a := by rcases hA with rfl | rfl <;> decide
  have c10 : ¬ (10 : Int32) ≤ a := by rcases hA with rfl | rfl <;> decide
  have c9 : ¬ (9 : Int32) ≤ a := by rcases hA with rfl | rfl <;> decide
  unfold f_L_act
  rw [if_pos c2, if_pos c7, if_neg c10, if_neg c9, y_a4, l6_0, obs, bit_n hn6 hn hx, obs, obs, bit_n hn6 hn hy, obs, nI_or]
  refine act_wants h (Nat.or_lt_two_pow (Nat.mod_lt _ (Nat.two_pow_pos n)) (Nat.mod_lt _ (Nat.two_pow_pos n))) ?_
  rcases hA with rfl | rfl
  · exact Or.inl rfl
  · exact Or.inr (Or.inl rfl)
theorem act_off (h : RLT T X n s) {x y : Nat} (hx : x < 2 ^ 31) (hy : y < 2 ^ 31) : AR T X n s (f_L_act (HT (uL T 134 X)) 0 9 (nI x) (nI y) 133 134 135 136 137) := by
  have hn6 := h.1.1
  have hn := h.1.2.2.1
  unfold f_L_act
  rw [if_pos (by decide), if_pos (by decide), if_neg (by decide), if_pos (by decide), y_a4, l6_0, obs, bit_n hn6 hn hx, obs, obs, bit_n hn6 hn hy, obs, nI_and]
  exact act_wants h (Nat.lt_of_le_of_lt Nat.and_le_left (Nat.mod_lt _ (Nat.two_pow_pos n))) (Or.inr (Or.inr rfl))
/-! ticks -/
theorem w_same {w w' : Int32} (hn6 : n ≤ 6) (h : wnX X w n) (h' : wnX X w' n) (l : w.toBitVec.toNat < 2 ^ n) (l' : w'.toBitVec.toNat < 2 ^ n) : w = w' := by
  refine tb_ext fun q => ?_
  by_cases hq : q < n
  · have e := (h q hq).symm.trans (h' q hq)
    revert e
    cases tb w q <;> cases tb w' q <;> decide
  · have hp : 2 ^ n ≤ 2 ^ q := Nat.pow_le_pow_right (by decide) (by omega)
    exact (Nat.testBit_lt_two_pow (Nat.lt_of_lt_of_le l hp)).trans (Nat.testBit_lt_two_pow (Nat.lt_of_lt_of_le l' hp)).symm
theorem tick9a {G : GB} {c : Nat} {P : PV} (hc : CK G c) (h : RX n P X) : ∃ X', f_L_tick (hl G c X) 133 c (c + 1) (c + 2) (c + 3) = some (hl G c X') ∧ (∀ q, n ≤ q → rowX X' q = rowX X q) ∧ ∀ Q P', RX n Q X → PT n Q P' → (Q.1 1).toInt < 100000 → RX n P' X' ∧ X' 0 = X 0 ∧ X' 4 4 = X 4 4 + eN n Q ∧ X' 4 5 = (tkE (rowP Q) (Q.1 3) (Q.1 2) n).foldl falE (X 4 5) := by
  have hq := RX_q h
  obtain ⟨X', a1, a2, a3, a4, a5, a6, a7, a8, a9, a10, a11⟩ := l_tick hc h.2.2.1 h.1 h.2.2.2.2.2.2.1 hq
  refine ⟨X', a1, a11, fun Q P' hQ hp ht => ?_⟩
  have ew : P.1 3 = Q.1 3 := w_same h.1 h.2.2.2.2.2.2.1 hQ.2.2.2.2.2.2.1 h.2.2.2.2.2.2.2.2.1 hQ.2.2.2.2.2.2.2.2.1
  obtain ⟨hn6, h0, x0, x1, x2, hrow, hw, hlg, hwn, hok, htb⟩ := hQ
  have hp' := hp
  obtain ⟨p1, p2, p3, p4, p5, p6, p7⟩ := hp'
  rw [ew] at a3 a4 a8 a9 a10
  have eE : tkE (rowX X) (Q.1 3) (X 4 1) n = tkE (rowP Q) (Q.1 3) (Q.1 2) n := by
    rw [x1]
    exact tkE_congr (fun q hq => (hrow q hq).symm) (fun _ _ => rfl)
  rw [eE] at a8 a9 a10
  refine ⟨⟨hn6, p2.trans h0, a5.trans x0, (a6.trans x1).trans p4.symm, ?_, fun q hq => ?_, by rw [p5]; exact a3, ?_, by rw [p5]; exact hwn, fun q hq => ?_, TB_tick htb hp ht⟩, a2, a8, a9⟩
  · rw [a7, x2, p3]
  · rw [p1 q hq, a4 q hq, x1]
    exact tkV_congr hrow (fun _ _ => rfl) q hq
  · rw [p6, ← x2]
    exact a10 _ hlg
  · rw [p1 q hq]
    exact tkV_ok hq (hok q hq)
theorem c_tickLoop (T : TS) {n X : Nat} (hn8 : n ≤ 8) (hX : X ≤ 200) : ∀ (m k fuel : Nat) (P : PV) (a : Int32), P.1 0 = nI n → k + m = X → m < fuel → ∃ P' d, f_X3_tick_55 fuel (HT (uP T 0 P)) 0 (nI X) a (nI k) = some (a + d, HT (uP T 0 P')) ∧ PTs n m P P' d := by
  intro m
  induction m with
  | zero =>
    intro k fuel P a h0 hk hf
    obtain ⟨fuel, rfl⟩ : ∃ f, fuel = f + 1 := ⟨fuel - 1, by omega⟩
    refine ⟨P, 0, ?_, rfl, rfl⟩
    show b_X3_tick_55 _ _ _ _ _ _ = _
    unfold b_X3_tick_55
    rw [if_pos (nI_le (by omega) (by omega)), Int32.add_zero]
  | succ m ih =>
    intro k fuel P a h0 hk hf
    obtain ⟨fuel, rfl⟩ : ∃ f, fuel = f + 1 := ⟨fuel - 1, by omega⟩
    obtain ⟨P1, g1, g2⟩ := p_tick (G := gT T) (b := 1) (by decide) hn8 h0
    obtain ⟨P2, d, k1, k2⟩ := ih (k + 1) fuel P1 (a + eN n P) (by rw [g2.2.1]; exact h0) (by omega) (by omega)
    refine ⟨P2, eN n P + d, ?_, P1, d, g2, k2, rfl⟩
    show b_X3_tick_55 _ _ _ _ _ _ = _
    unfold b_X3_tick_55
    rw [if_neg (nI_ge (by omega) (by omega))]
    rw [hp0, hp0] at g1
    simp only [t_R0, Option.bind_some, q_v1, g1, nI_1]
    rw [k1, Int32.add_assoc]
theorem v_tick (hn8 : n ≤ 8) (hi : IC T s) (h0 : (T.1.2.2 0).1 0 = nI n) {N : Nat} (h1 : 1 ≤ N) (h2 : N ≤ 200) (hz : 0 ≤ ((T.1.2.2 0).1 1).toInt) (ht : ((T.1.2.2 0).1 1).toInt + N ≤ 20000) : ∃ P' d, f_X3_tick (HT T) 0 (nI N) = some (d, HT (uP (svT T s) 0 P')) ∧ PTs n N (T.1.2.2 0) P' d := by
  obtain ⟨hs, hS, hσ⟩ := hi
  obtain ⟨P', d, c1, c2⟩ := c_tickLoop (svT T s) hn8 h2 N 0 FU (T.1.2.2 0) 0 h0 (by omega) (by rw [FU_eq]; omega)
  have hself : uP (svT T s) 0 (T.1.2.2 0) = svT T s := by
    have := uP_self (svT T s) 0
    rw [sv_pl T hσ] at this
    exact this
  rw [hself, Int32.zero_add] at c1
  refine ⟨P', d, ?_, c2⟩
  have hle : (T.1.2.2 0).1 1 + nI N ≤ 20000 := by
    have e2 : (20000 : Int32).toInt = 20000 := rfl
    rw [Int32.le_iff_toInt_le, i_add (by rw [nI_toInt (by omega)]; omega) (by rw [nI_toInt (by omega)]; omega), nI_toInt (by omega), e2]
    exact ht
  unfold f_X3_tick
  rw [if_neg (show ¬ nI N < (1 : Int32) from by rw [show (1 : Int32) = nI 1 from rfl, nI_ltI (by omega) (by omega)]; omega), if_pos (show nI N ≤ (200 : Int32) from nI_le h2 (by decide)), t_R0, obs, q_I1, obs, if_pos hle, t_v3, t_save T hs hS hσ, obs]
  exact c1
theorem PTs_time {m : Nat} : ∀ (P P' : PV) (d : Int32), PTs n m P P' d → 0 ≤ (P.1 1).toInt → (P.1 1).toInt + m ≤ 20000 → (P'.1 1).toInt = (P.1 1).toInt + m := by
  induction m with
  | zero =>
    intro P P' d h _ _
    rw [h.1]
    omega
  | succ m ih =>
    intro P P' d h hz ht
    obtain ⟨P1, d1, h1, h2, _⟩ := h
    have et : (P1.1 1).toInt = (P.1 1).toInt + 1 := by
      have e1 : (1 : Int32).toInt = 1 := rfl
      rw [h1.2.2.1, i_add (by omega) (by omega)]
      rfl
    rw [ih P1 P' d1 h2 (by omega) (by omega)]
    omega
def finT (h : MH) (N : Int32) : Option (Int32 × MH) := (f_X3_tick h 0 N).bind fun p => (aI p.2 137 4).bind fun v => if p.1 = v then b_L_act_307 p.2 1 else b_L_act_307 p.2 0
theorem l_ticks {N : Nat} (hN : N ≤ 200) : ∀ (m k fuel : Nat) (X : LX), (∃ P, RX n P X ∧ (P.1 1).toInt + m ≤ 20000) → k + m = N → m < fuel → ∃ X', f_L_act_263 fuel (HT (uL T 134 X)) 0 133 134 135 136 137 (nI N) (nI k) = finT (HT (uL T 134 X')) (nI N) ∧ (∀ q, n ≤ q → rowX X' q = rowX X q) ∧ ∀ P P' d, RX n P X → PTs n m P P' d → RX n P' X' ∧ X' 4 4 = X 4 4 + d := by
  intro m
  induction m with
  | zero =>
    intro k fuel X _ hk hf
    obtain ⟨fuel, rfl⟩ : ∃ f, fuel = f + 1 := ⟨fuel - 1, by omega⟩
    refine ⟨X, ?_, fun _ _ => rfl, fun P P' d h hp => ⟨by rw [hp.1]; exact h, by rw [hp.2, Int32.add_zero]⟩⟩
    show b_L_act_263 _ _ _ _ _ _ _ _ _ _ = _
    unfold b_L_act_263 finT
    rw [if_pos (nI_le (by omega) (by omega)), t_v3]
  | succ m ih =>
    intro k fuel X hP hk hf
    obtain ⟨fuel, rfl⟩ : ∃ f, fuel = f + 1 := ⟨fuel - 1, by omega⟩
    obtain ⟨P, hP, ht⟩ := hP
    have hz := hP.2.2.2.2.2.2.2.2.2.2.1.1
    obtain ⟨X1, e1, e0, e2⟩ := tick9a (ck0 T) hP
    obtain ⟨P1, _, g2⟩ := p_tick (G := gT T) (b := 1) (by decide) (show n ≤ 8 by have := hP.1; omega) hP.2.1
    have et : (P1.1 1).toInt = (P.1 1).toInt + 1 := by
      have e1 : (1 : Int32).toInt = 1 := rfl
      rw [g2.2.2.1, i_add (by omega) (by omega)]
      rfl
    obtain ⟨X', k1, k0, k2⟩ := ih (k + 1) fuel X1 ⟨P1, (e2 P P1 hP g2 (by omega)).1, by omega⟩ (by omega) (by omega)
    refine ⟨X', ?_, fun q hq => (k0 q hq).trans (e0 q hq), fun Q P' d hQ hp => ?_⟩
    · rw [← k1]
      show b_L_act_263 _ _ _ _ _ _ _ _ _ _ = _
      unfold b_L_act_263
      rw [if_neg (nI_ge (by omega) (by omega)), HT_uL T (Nat.le_refl _), show f_L_tick (hl (gT T) 134 X) 133 134 135 136 137 = some (hl (gT T) 134 X1) from e1, obs, nI_1, HT_uL T (Nat.le_refl _)]
    · obtain ⟨Q1, d1, q1, q2, q3⟩ := hp
      have eQ : Q.1 1 = P.1 1 := hQ.2.2.2.2.1.symm.trans hP.2.2.2.2.1
      obtain ⟨r1, r2, r3, r4⟩ := e2 Q Q1 hQ q1 (by rw [eQ]; omega)
      obtain ⟨s1, s2⟩ := k2 Q1 P' d1 r1 q2
      exact ⟨s1, by rw [s2, r3, q3, Int32.add_assoc]⟩
theorem RX_44 {P : PV} (h : RX n P X) (v : Int32) : RX n P (ux X 4 4 v) := by
  obtain ⟨hn6, h0, x0, x1, x2, hrow, hw, ⟨g1, g2, g3⟩, hwn, hok, htb⟩ := h
  exact ⟨hn6, h0, x0, x1, x2, fun q hq => by rw [qx_o _ (by decide)]; exact hrow q hq, wn_ux hw (Or.inl (by decide)) _, ⟨g1, g2, g3⟩, hwn, hok, htb⟩
theorem act_tick (h : RLT T X n s) (ht : ((T.1.2.2 0).1 1).toInt + 60 ≤ 20000) {a : Int32} (h2 : (2 : Int32) ≤ a) (h7 : ¬ (7 : Int32) ≤ a) {x y : Nat} (hx : x < 2 ^ 31) (hy : y < 2 ^ 31) : AR T X n s (f_L_act (HT (uL T 134 X)) 0 a (nI x) (nI y) 133 134 135 136 137) := by
  have h' := h
  obtain ⟨hrx, hi, ha⟩ := h'
  have hn8 : n ≤ 8 := Nat.le_trans hrx.1 (by decide)
  have h0 := hrx.2.1
  have hz := ha.1.1
  have key : ∀ v : Nat, v < 60 → ∀ {q : Int32}, f_L_at (HT (uL T 134 X)) (nI y) q = some (nI v) → AR T X n s (b_L_act_249 (HT (uL T 134 X)) 0 133 134 135 136 137 1 (nI y) q) := by
    intro v hv q hq
    unfold b_L_act_249
    rw [hq, obs, obs, y_s4, l6_4, obs, show (1 : Int32) + nI v = nI (1 + v) from nI_add 1 v]
    have hr4 := RX_44 hrx 0
    obtain ⟨X', k1, k0, k2⟩ := l_ticks (T := T) (N := 1 + v) (by omega) (1 + v) 0 FU (ux X 4 4 0) ⟨_, hr4, by omega⟩ (by omega) (by rw [FU_eq]; omega)
    obtain ⟨P', d, c1, c2⟩ := v_tick (T := uL T 134 X') hn8 hi h0 (N := 1 + v) (by omega) (by omega) hz (by show ((T.1.2.2 0).1 1).toInt + _ ≤ _; omega)
    obtain ⟨r1, r2⟩ := k2 _ _ _ hr4 c2
    rw [uL_sv] at c1
    have r2' : X' 4 4 = d := r2.trans (Int32.zero_add d)
    have et := PTs_time _ _ _ c2 hz (by show ((T.1.2.2 0).1 1).toInt + _ ≤ _; omega)
    have et' : (P'.1 1).toInt = ((T.1.2.2 0).1 1).toInt + ((1 + v : Nat) : Int) := et
    refine AR_do (P' := P') (X' := X') (n' := n) h (Eq.trans k1 ?_) r1 (AZ_ticks (1 + v) _ _ d ha c2 (by omega)) (Nat.le_refl _) (by omega) (fun q hq => (k0 q hq).trans (congrFun (qx_o X (by decide) 4 0) q))
    unfold finT b_L_act_307
    rw [c1, obs, y_a4, l6_4, obs, if_pos r2'.symm, i1]
  unfold f_L_act
  rw [if_pos h2, if_neg h7, show f_L_at (HT (uL T 134 X)) (nI x) 3 = some (nI (x / 2 % 3)) from l_at _ (c := 3) hx (by decide) (by decide), obs]
  split
  · exact key (y / 2 % 60) (Nat.mod_lt _ (by decide)) (l_at _ (c := 60) hy (by decide) (by decide))
  · exact key (y / 2 % 12) (Nat.lt_of_lt_of_le (Nat.mod_lt _ (show 0 < 12 by decide)) (by decide)) (l_at _ (c := 12) hy (by decide) (by decide))
