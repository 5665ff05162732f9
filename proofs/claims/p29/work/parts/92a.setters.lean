/-! the law's actions: properties, the residue, needs, shorts, stuck flags -/
variable {T : TS} {X : LX} {n s : Nat}
theorem uL_sv (T : TS) (c : Nat) (X : LX) (s : Nat) (P : PV) : uP (svT (uL T c X) s) 0 P = uL (uP (svT T s) 0 P) c X := rfl
/-- what an action leaves -/
def AR (T : TS) (X : LX) (n s : Nat) (res : Option (Int32 × MH)) : Prop := ∃ T' X' n' s', res = some (1, HT (uL T' 134 X')) ∧ RLT T' X' n' s' ∧ T'.2.2.1 ≤ T.2.2.1 + 1 ∧ n ≤ n' ∧ s ≤ s' ∧ ((T'.1.2.2 0).1 1).toInt ≤ ((T.1.2.2 0).1 1).toInt + 60 ∧ ∀ q, n' ≤ q → rowX X' q = rowX X q
theorem AR_same (h : RLT T X n s) {res : Option (Int32 × MH)} (e : res = some (1, HT (uL T 134 X))) : AR T X n s res := ⟨T, X, n, s, e, h, Nat.le_succ _, Nat.le_refl _, Nat.le_refl _, by omega, fun _ _ => rfl⟩
theorem AR_do {X' : LX} {P' : PV} {n' : Nat} (h : RLT T X n s) {res : Option (Int32 × MH)} (e : res = some (1, HT (uL (uP (svT T s) 0 P') 134 X'))) (hx : RX n' P' X') (ha : AZ n' P') (hn : n ≤ n') (ht : (P'.1 1).toInt ≤ ((T.1.2.2 0).1 1).toInt + 60) (hfr : ∀ q, n' ≤ q → rowX X' q = rowX X q) : AR T X n s res := by
  have hs := h.2.1.1
  exact ⟨uP (svT T s) 0 P', X', n', min (s + 1) 6, e, ⟨hx, IC_sv h.2.1 P', ha⟩, Nat.le_succ _, hn, by omega, ht, hfr⟩
theorem RX_row {P P' : PV} {X' : LX} {r k : Nat} (h : RX n P X) (hr : r < n) (h13 : k ≠ 13) {x : Int32} (e1 : rowP P' = setRow (rowP P) r (upd (rowP P r) k x)) (e2 : P'.1 = P.1) (e3 : P'.2 14 = P.2 14) (f1 : rowX X' = setRow (rowX X) r (upd (rowX X r) k x)) (f3 : X' 3 = X 3) (f4 : X' 4 = X 4) (fw : ∀ w m, wnX X w m → wnX X' w m) (hx : RowOK r (upd (rowP P r) k x)) : RX n P' X' := by
  obtain ⟨hn6, h0, x0, x1, x2, hrow, hw, ⟨g1, g2, g3⟩, hwn, hok, ⟨t0, t13⟩⟩ := h
  have el : lgP P' = lgP P := by unfold lgP; rw [e2, e3]
  refine ⟨hn6, by rw [e2]; exact h0, by rw [f4]; exact x0, by rw [f4, e2]; exact x1, by rw [f4, e2]; exact x2, fun q hq => ?_, by rw [e2]; exact fw _ _ hw, by rw [el]; exact ⟨g1, by rw [f4]; exact g2, fun i hi => by rw [f3]; exact g3 i hi⟩, by rw [e2]; exact hwn, fun q hq => ?_, by rw [e2]; exact t0, fun q hq => ?_⟩
  · rw [e1, f1]
    unfold setRow
    split
    · rw [hrow r hr]
    · exact hrow q hq
  · rw [e1]
    unfold setRow
    split
    · next hh => rw [hh]; exact hx
    · exact hok q hq
  · rw [e1, e2]
    unfold setRow
    split
    · next hh =>
      rw [upd_n (Ne.symm h13), ← hh]
      exact t13 q hq
    · exact t13 q hq
theorem v_stick (hn8 : n ≤ 8) (hi : IC T s) (hn : (T.1.2.2 0).1 0 = nI n) {r y : Nat} (hr : r < n) (hy : y ≤ 2) : f_X3_stick (HT T) 0 (nI r) (nI y) = some ((T.1.2.2 0).2 8 r, HT (uP (svT T s) 0 (wA (T.1.2.2 0) 8 r (nI y)))) := by
  obtain ⟨hs, hS, hσ⟩ := hi
  unfold f_X3_stick
  rw [t_v3, c_isRail hn, obs, if_neg (rail_not hn8 hr), if_neg n10, if_neg (nI_pos (by omega)), if_pos (show nI y ≤ (2 : Int32) from nI_le hy (by decide))]
  simp (disch := omega) only [t_v3, t_save T hs hS hσ, Option.bind_some, t_v3, t_R0, t_R1, t_R2, t_R4, t_R6, t_I3, t_I5, t_P3, t_P5, q_v1, q_v0, q_lI, q_lR, q_lP, q_I0, q_P0, q_I1, q_P1, q_I2, q_P2, q_I3, q_P3, q_R4, q_R5, q_R6, q_R7, q_R8, q_R9, q_R10, q_R11, q_R12, q_R13, q_R14, q_R15, q_R16, q_R17, q_a4, q_s4, q_a5, q_s5, q_a6, q_s6, q_a7, q_s7, q_a8, q_s8, q_a9, q_s9, q_a10, q_s10, q_a11, q_s11, q_a12, q_s12, q_a13, q_s13, q_a15, q_s15, q_a16, q_s16, q_a17, q_s17, q_a14, q_s14, uP_pl, bd_nI, sv_pl T hσ, uP_uP]
theorem v_short (hn8 : n ≤ 8) (hi : IC T s) (hn : (T.1.2.2 0).1 0 = nI n) {r y : Nat} (hr : r < n) (hy : y ≤ 500) : f_X3_shortCircuit (HT T) 0 (nI r) (nI y) = some ((T.1.2.2 0).2 9 r, HT (uP (svT T s) 0 (wA (T.1.2.2 0) 9 r (nI y)))) := by
  obtain ⟨hs, hS, hσ⟩ := hi
  unfold f_X3_shortCircuit
  rw [t_v3, c_isRail hn, obs, if_neg (rail_not hn8 hr), if_neg n10, if_neg (nI_pos (by omega)), if_pos (show nI y ≤ (500 : Int32) from nI_le hy (by decide))]
  simp (disch := omega) only [t_v3, t_save T hs hS hσ, Option.bind_some, t_v3, t_R0, t_R1, t_R2, t_R4, t_R6, t_I3, t_I5, t_P3, t_P5, q_v1, q_v0, q_lI, q_lR, q_lP, q_I0, q_P0, q_I1, q_P1, q_I2, q_P2, q_I3, q_P3, q_R4, q_R5, q_R6, q_R7, q_R8, q_R9, q_R10, q_R11, q_R12, q_R13, q_R14, q_R15, q_R16, q_R17, q_a4, q_s4, q_a5, q_s5, q_a6, q_s6, q_a7, q_s7, q_a8, q_s8, q_a9, q_s9, q_a10, q_s10, q_a11, q_s11, q_a12, q_s12, q_a13, q_s13, q_a15, q_s15, q_a16, q_s16, q_a17, q_s17, q_a14, q_s14, uP_pl, bd_nI, sv_pl T hσ, uP_uP]
theorem v_setNeeds (hn8 : n ≤ 8) (hi : IC T s) (hn : (T.1.2.2 0).1 0 = nI n) {r : Nat} (hr : r < n) {y : Int32} (hy : y.toBitVec.toNat < 2 ^ r) (h05 : (T.1.2.2 0).2 6 r = 0 ∨ (T.1.2.2 0).2 6 r = 5) : f_X3_setNeeds (HT T) 0 (nI r) y = some ((T.1.2.2 0).2 5 r, HT (uP (svT T s) 0 (wA (T.1.2.2 0) 5 r y))) := by
  obtain ⟨hs, hS, hσ⟩ := hi
  have hr8 : r < 8 := by omega
  have e71 : b_X3_setNeeds_71 (HT T) 0 (nI r) y = some ((T.1.2.2 0).2 5 r, HT (uP (svT T s) 0 (wA (T.1.2.2 0) 5 r y))) := by
    unfold b_X3_setNeeds_71
    simp (disch := omega) only [t_v3, t_save T hs hS hσ, Option.bind_some, t_v3, t_R0, t_R1, t_R2, t_R4, t_R6, t_I3, t_I5, t_P3, t_P5, q_v1, q_v0, q_lI, q_lR, q_lP, q_I0, q_P0, q_I1, q_P1, q_I2, q_P2, q_I3, q_P3, q_R4, q_R5, q_R6, q_R7, q_R8, q_R9, q_R10, q_R11, q_R12, q_R13, q_R14, q_R15, q_R16, q_R17, q_a4, q_s4, q_a5, q_s5, q_a6, q_s6, q_a7, q_s7, q_a8, q_s8, q_a9, q_s9, q_a10, q_s10, q_a11, q_s11, q_a12, q_s12, q_a13, q_s13, q_a15, q_s15, q_a16, q_s16, q_a17, q_s17, q_a14, q_s14, uP_pl, bd_nI, sv_pl T hσ, uP_uP]
  simp (disch := omega) only [f_X3_setNeeds, t_v3, c_isRail hn, Option.bind_some, c_below _ _ (show r ≤ 8 by omega), ite01, e71, q_R6, q_a6, t_R0, bd_nI]
  rw [if_neg (rail_not hn8 hr), if_neg n10, if_pos hy]
  rcases h05 with h | h
  · rw [if_pos h]
  · rw [if_pos h]
    split <;> rfl
theorem v_set (hn8 : n ≤ 8) (hi : IC T s) (hn : (T.1.2.2 0).1 0 = nI n) {r p : Nat} (hr : r < n) (hp : p < 7) {y : Int32} (hy : ¬ (y < roL p ∨ roM p < y)) : f_X3_set (HT T) 0 (nI r) (nI p) y = some ((T.1.2.2 0).2 4 (r * 7 + p), HT (uP (svT T s) 0 (wA (T.1.2.2 0) 4 (r * 7 + p) y))) := by
  obtain ⟨hs, hS, hσ⟩ := hi
  have hp7 : nI p < 7 := by rw [show (7 : Int32) = nI 7 from rfl, nI_ltI (by omega) (by omega)]; exact hp
  unfold f_X3_set
  rw [t_v3, c_isRail hn, obs, if_neg (rail_not hn8 hr), if_neg n10, if_neg (nI_pos (by omega)), if_pos hp7, c_range _ hp, obs, if_neg hy, if_neg n10]
  simp (disch := omega) only [t_v3, t_save T hs hS hσ, Option.bind_some, t_v3, t_R0, t_R1, t_R2, t_R4, t_R6, t_I3, t_I5, t_P3, t_P5, q_v1, q_v0, q_lI, q_lR, q_lP, q_I0, q_P0, q_I1, q_P1, q_I2, q_P2, q_I3, q_P3, q_R4, q_R5, q_R6, q_R7, q_R8, q_R9, q_R10, q_R11, q_R12, q_R13, q_R14, q_R15, q_R16, q_R17, q_a4, q_s4, q_a5, q_s5, q_a6, q_s6, q_a7, q_s7, q_a8, q_s8, q_a9, q_s9, q_a10, q_s10, q_a11, q_s11, q_a12, q_s12, q_a13, q_s13, q_a15, q_s15, q_a16, q_s16, q_a17, q_s17, q_a14, q_s14, uP_pl, f_X1_propertyOf, ix7, ix4, ix20, ix4l, ix68, ix4p, ixa0, ixa1, ixa2, ixa3, ixa4, ixa5, ixa6, ixa7, ixa8, ixa9, ixa10, ixa11, ixa12, ixa13, ixa14, ixa15, ixa16, ixa17, ixa18, ixa19, ixa20, nI_add, bd_nI, sv_pl T hσ, uP_uP]
theorem v_setResidue (hi : IC T s) {x : Nat} (hx : x ≤ 500) : f_X3_setResidue (HT T) 0 (nI x) = some ((T.1.2.2 0).1 2, HT (uP (svT T s) 0 (wS (T.1.2.2 0) 2 (nI x)))) := by
  obtain ⟨hs, hS, hσ⟩ := hi
  unfold f_X3_setResidue
  rw [if_neg (nI_pos (by omega)), if_pos (show nI x ≤ (500 : Int32) from nI_le hx (by decide))]
  simp (disch := omega) only [t_v3, t_save T hs hS hσ, Option.bind_some, t_v3, t_R0, t_R1, t_R2, t_R4, t_R6, t_I3, t_I5, t_P3, t_P5, q_v1, q_v0, q_lI, q_lR, q_lP, q_I0, q_P0, q_I1, q_P1, q_I2, q_P2, q_I3, q_P3, q_R4, q_R5, q_R6, q_R7, q_R8, q_R9, q_R10, q_R11, q_R12, q_R13, q_R14, q_R15, q_R16, q_R17, q_a4, q_s4, q_a5, q_s5, q_a6, q_s6, q_a7, q_s7, q_a8, q_s8, q_a9, q_s9, q_a10, q_s10, q_a11, q_s11, q_a12, q_s12, q_a13, q_s13, q_a15, q_s15, q_a16, q_s16, q_a17, q_s17, q_a14, q_s14, uP_pl, bd_nI, sv_pl T hσ, uP_uP]
theorem i1 : (1 : Int32) &&& 1 = 1 := by decide
theorem fin1 {p : Int32 × MH} {w : Int32} {H : MH} (h1 : p.1 = w) (h2 : p.2 = H) : (if p.1 = w then some ((1 : Int32) &&& 1, p.2) else some ((0 : Int32) &&& 1, p.2)) = some (1, H) := by
  rw [if_pos h1, h2]
  rfl
theorem act_11 (h : RLT T X n s) (hn1 : 1 ≤ n) {x y : Nat} (hx : x < 2 ^ 31) (hy : y < 2 ^ 31) : AR T X n s (f_L_act (HT (uL T 134 X)) 0 11 (nI x) (nI y) 133 134 135 136 137) := by
  have h' := h
  obtain ⟨hrx, hi, ha⟩ := h'
  have hrx' := hrx
  obtain ⟨hn6, h0, x0, x1, x2, hrow, hw, hlg, hwn, hok, htb⟩ := hrx'
  have hn8 : n ≤ 8 := Nat.le_trans hn6 (by decide)
  have hr : x / 2 % n < n := Nat.mod_lt _ (by omega)
  have e40 : f_L_at (HT (uL T 134 X)) (nI y) 40 = some (nI (y / 2 % 40)) := l_at _ (c := 40) hy (by decide) (by decide)
  unfold f_L_act
  rw [if_pos (by decide), if_pos (by decide), if_pos (by decide), y_a4, l6_0, obs, x0, l_at _ hx (by omega) (by omega), obs, jx9, obs, if_neg (by decide), if_pos rfl]
  generalize x / 2 % n = r at hr
  have hv : y / 2 % 40 ≤ 500 := by have := Nat.mod_lt (y / 2) (show 0 < 40 by decide); omega
  generalize y / 2 % 40 = v at hv e40
  have ew : X 1 (9 * r + 5) = (T.1.2.2 0).2 9 r := (congrFun (hrow r hr) 12).symm
  have es := v_short (T := uL T 134 (ux X 1 (9 * r + 5) (nI v))) (s := s) hn8 hi h0 hr hv
  rw [uL_sv] at es
  rw [ixa5, y_a1, bd_nI (by omega) (by decide), obs, e40, obs, y_s1, bd_nI (by omega) (by decide), obs, y_a1, bd_nI (by omega) (by decide), obs, ux_11, upd_s, t_v3, es, obs]
  unfold b_L_act_716
  have hrow' : RowOK r (upd (rowP (T.1.2.2 0) r) 12 (nI v)) := RowOK_12 (hok r hr) (by rw [nI_toInt (by omega)]; omega)
  exact AR_do (P' := wA (T.1.2.2 0) 9 r (nI v)) (X' := ux X 1 (9 * r + 5) (nI v)) h (fin1 ew.symm rfl) (RX_row hrx hr (k := 12) (by decide) (rw_12 _ _ _) rfl rfl (qx_12 _ _ _) rfl rfl (fun w m hh => wn_ux hh (Or.inr (by omega)) _) hrow') (AZ_row ha (k := 12) (by decide) (rw_12 _ _ _) rfl) (Nat.le_refl _) (by show ((T.1.2.2 0).1 1).toInt ≤ _; omega) (fun q hq => by rw [qx_12, sr_ne _ _ (by omega)])
theorem act_12 (h : RLT T X n s) (hn1 : 1 ≤ n) {x y : Nat} (hx : x < 2 ^ 31) (hy : y < 2 ^ 31) : AR T X n s (f_L_act (HT (uL T 134 X)) 0 12 (nI x) (nI y) 133 134 135 136 137) := by
  have h' := h
  obtain ⟨hrx, hi, ha⟩ := h'
  have hrx' := hrx
  obtain ⟨hn6, h0, x0, x1, x2, hrow, hw, hlg, hwn, hok, htb⟩ := hrx'
  have hn8 : n ≤ 8 := Nat.le_trans hn6 (by decide)
  have hr : x / 2 % n < n := Nat.mod_lt _ (by omega)
  have e40 : f_L_at (HT (uL T 134 X)) (nI y) 3 = some (nI (y / 2 % 3)) := l_at _ (c := 3) hy (by decide) (by decide)
  unfold f_L_act
  rw [if_pos (by decide), if_pos (by decide), if_pos (by decide), y_a4, l6_0, obs, x0, l_at _ hx (by omega) (by omega), obs, jx9, obs, if_neg (by decide), if_neg (by decide), if_pos rfl]
  generalize x / 2 % n = r at hr
  have hv : y / 2 % 3 ≤ 2 := by have := Nat.mod_lt (y / 2) (show 0 < 3 by decide); omega
  generalize y / 2 % 3 = v at hv e40
  have ew : X 1 (9 * r + 4) = (T.1.2.2 0).2 8 r := (congrFun (hrow r hr) 11).symm
  have es := v_stick (T := uL T 134 (ux X 1 (9 * r + 4) (nI v))) (s := s) hn8 hi h0 hr hv
  rw [uL_sv] at es
  rw [ixa4, y_a1, bd_nI (by omega) (by decide), obs, e40, obs, y_s1, bd_nI (by omega) (by decide), obs, y_a1, bd_nI (by omega) (by decide), obs, ux_11, upd_s, t_v3, es, obs]
  unfold b_L_act_767
  exact AR_do (P' := wA (T.1.2.2 0) 8 r (nI v)) (X' := ux X 1 (9 * r + 4) (nI v)) h (fin1 ew.symm rfl) (RX_row hrx hr (k := 11) (by decide) (rw_11 _ _ _) rfl rfl (qx_11 _ _ _) rfl rfl (fun w m hh => wn_ux hh (Or.inr (by omega)) _) (RowOK_11 (hok r hr) _)) (AZ_row ha (k := 11) (by decide) (rw_11 _ _ _) rfl) (Nat.le_refl _) (by show ((T.1.2.2 0).1 1).toInt ≤ _; omega) (fun q hq => by rw [qx_11, sr_ne _ _ (by omega)])
theorem act_15 (h : RLT T X n s) (hn1 : 1 ≤ n) {x y : Nat} (hx : x < 2 ^ 31) (hy : y < 2 ^ 31) : AR T X n s (f_L_act (HT (uL T 134 X)) 0 15 (nI x) (nI y) 133 134 135 136 137) := by
  have h' := h
  obtain ⟨hrx, hi, ha⟩ := h'
  obtain ⟨hn6, h0, x0, x1, x2, hrow, hw, hlg, hwn, hok, htb⟩ := hrx
  have e40 : f_L_at (HT (uL T 134 X)) (nI y) 501 = some (nI (y / 2 % 501)) := l_at _ (c := 501) hy (by decide) (by decide)
  unfold f_L_act
  rw [if_pos (by decide), if_pos (by decide), if_pos (by decide), y_a4, l6_0, obs, x0, l_at _ hx (by omega) (by omega), obs, jx9, obs, if_neg (by decide), if_neg (by decide), if_neg (by decide), if_pos (by decide), if_pos rfl]
  have hv : y / 2 % 501 ≤ 500 := by have := Nat.mod_lt (y / 2) (show 0 < 501 by decide); omega
  generalize y / 2 % 501 = v at hv e40
  have es := v_setResidue (T := uL T 134 (ux X 4 1 (nI v))) (s := s) hi hv
  rw [uL_sv] at es
  rw [y_a4, l6_1, obs, e40, obs, y_s4, l6_1, obs, y_a4, l6_1, obs, ux_44, upd_s, t_v3, es, obs]
  unfold b_L_act_886
  obtain ⟨g1, g2, g3⟩ := hlg
  refine AR_do (P' := wS (T.1.2.2 0) 2 (nI v)) (X' := ux X 4 1 (nI v)) h (n' := n) (fin1 x1.symm rfl) ⟨hn6, h0, x0, rfl, x2, fun q hq => ?_, wn_ux hw (Or.inl (by decide)) _, ⟨g1, g2, g3⟩, hwn, hok, htb⟩ ⟨ha.1, ha.2⟩ (Nat.le_refl _) (by show ((T.1.2.2 0).1 1).toInt ≤ _; omega) (fun q hq => by rw [qx_o _ (by decide)])
  rw [qx_o _ (by decide)]
  exact hrow q hq
theorem act_16n (h : RLT T X n s) (hn1 : 1 ≤ n) {x y : Nat} (hx : x < 2 ^ 31) (hy : y < 2 ^ 31) : AR T X n s (f_L_act (HT (uL T 134 X)) 0 16 (nI x) (nI y) 133 134 135 136 137) := by
  have h' := h
  obtain ⟨hrx, hi, ha⟩ := h'
  have hrx' := hrx
  obtain ⟨hn6, h0, x0, x1, x2, hrow, hw, hlg, hwn, hok, htb⟩ := hrx'
  have hn8 : n ≤ 8 := Nat.le_trans hn6 (by decide)
  have hr : x / 2 % n < n := Nat.mod_lt _ (by omega)
  have e914 : ∀ r, r < n → ((T.1.2.2 0).2 6 r = 0 ∨ (T.1.2.2 0).2 6 r = 5) → AR T X n s (b_L_act_914 (HT (uL T 134 X)) 0 (nI y) 134 (nI r) (nI (9 * r))) := by
    intro r hr h05
    have hp : 2 ^ r ≤ 2 ^ 8 := Nat.pow_le_pow_right (by decide) (by omega)
    have hp0 : 0 < 2 ^ r := Nat.two_pow_pos r
    have e40 : f_L_at (HT (uL T 134 X)) (nI y) ((1 : Int32) <<< (nI r &&& 31)) = some (nI (y / 2 % 2 ^ r)) := by
      rw [nI_bit (by omega)]
      exact l_at _ hy hp0 (by omega)
    have hv : y / 2 % 2 ^ r < 2 ^ r := Nat.mod_lt _ hp0
    generalize y / 2 % 2 ^ r = v at hv e40
    have hv2 : (nI v).toBitVec.toNat < 2 ^ r := by rw [pk_tn (by omega)]; exact hv
    have ew : X 1 (9 * r) = (T.1.2.2 0).2 5 r := (congrFun (hrow r hr) 7).symm
    have es := v_setNeeds (T := uL T 134 (ux X 1 (9 * r) (nI v))) (s := s) hn8 hi h0 hr hv2 h05
    rw [uL_sv] at es
    unfold b_L_act_914 b_L_act_955
    rw [y_a1, bd_nI (by omega) (by decide), obs, e40, obs, y_s1, bd_nI (by omega) (by decide), obs, y_a1, bd_nI (by omega) (by decide), obs, ux_11, upd_s, t_v3, es, obs]
    exact AR_do (P' := wA (T.1.2.2 0) 5 r (nI v)) (X' := ux X 1 (9 * r) (nI v)) h (fin1 ew.symm rfl) (RX_row hrx hr (k := 7) (by decide) (rw_7 _ _ _) rfl rfl (qx_7 _ _ _) rfl rfl (fun w m hh => wn_ux hh (Or.inr (by omega)) _) (RowOK_7 (hok r hr) hv2)) (AZ_row ha (k := 7) (by decide) (rw_7 _ _ _) rfl) (Nat.le_refl _) (by show ((T.1.2.2 0).1 1).toInt ≤ _; omega) (fun q hq => by rw [qx_7, sr_ne _ _ (by omega)])
  unfold f_L_act
  rw [if_pos (by decide), if_pos (by decide), if_pos (by decide), y_a4, l6_0, obs, x0, l_at _ hx (by omega) (by omega), obs, jx9, obs, if_neg (by decide), if_neg (by decide), if_neg (by decide), if_pos (by decide), if_neg (by decide), if_pos rfl]
  generalize x / 2 % n = r at hr
  have e9 : X 1 (9 * r + 2) = (T.1.2.2 0).2 6 r := (congrFun (hrow r hr) 9).symm
  have e956 : AR T X n s (b_L_act_956 (HT (uL T 134 X)) 0 16 136 137 (nI r)) := by
    unfold b_L_act_956
    rw [if_neg (by decide), i1]
    exact AR_same h rfl
  rw [ixa2, y_a1, bd_nI (by omega) (by decide), obs, obs, e9]
  by_cases c0 : (T.1.2.2 0).2 6 r = 0
  · rw [if_pos c0]
    exact e914 r hr (Or.inl c0)
  · rw [if_neg c0]
    by_cases c5 : (T.1.2.2 0).2 6 r = 5
    · rw [if_pos c5]
      exact e914 r hr (Or.inr c5)
    · rw [if_neg c5]
      exact e956
