/-! the class's plant and the law's rows say the same; a tick keeps it; what the class answers -/
def TB (n : Nat) (P : PV) : Prop := (0 ≤ (P.1 1).toInt ∧ (P.1 1).toInt ≤ 100000) ∧ ∀ q, q < n → 0 ≤ (rowP P q 13).toInt ∧ (rowP P q 13).toInt ≤ (P.1 1).toInt
def RX (n : Nat) (P : PV) (X : LX) : Prop := n ≤ 6 ∧ P.1 0 = nI n ∧ X 4 0 = nI n ∧ X 4 1 = P.1 2 ∧ X 4 2 = P.1 1 ∧ (∀ q, q < n → rowP P q = rowX X q) ∧ wnX X (P.1 3) n ∧ LGx (lgP P) X ∧ (P.1 3).toBitVec.toNat < 2 ^ n ∧ (∀ q, q < n → RowOK q (rowP P q)) ∧ TB n P
theorem nsR_13 (wn dis flag rest : Bool) (bad : Int32) (r : Nat) (row : Nat → Int32) : (nsR wn dis flag rest bad r row).2 13 = row 13 ∨ (nsR wn dis flag rest bad r row).2 13 = 0 ∨ (nsR wn dis flag rest bad r row).2 13 = row 13 + 1 := by
  unfold nsR failR
  repeat' split
  all_goals first | exact Or.inl rfl | exact Or.inr (Or.inl rfl) | exact Or.inr (Or.inr rfl)
theorem tk13 {V : Nat → Nat → Int32} {w res : Int32} {n r : Nat} (hr : r < n) : tkV V w res n r 13 = V r 13 ∨ tkV V w res n r 13 = 0 ∨ tkV V w res n r 13 = V r 13 + 1 := by
  rw [tkV_in hr, endR_keep _ (by decide) (by decide)]
  have e : rowsF (fun _ => mvR) V 0 n r 13 = V r 13 := by rw [rowsF_in hr]; exact mvR_keep _ (by decide)
  rw [← e]
  unfold lookR stepT
  split
  · exact nsR_13 _ _ _ _ _ _ _
  · rw [becR_keep _ _ _ (by decide) (by decide) (by decide)]
    exact nsR_13 _ _ _ _ _ _ _
theorem TB_tick {n : Nat} {P P' : PV} (h : TB n P) (hp : PT n P P') (ht : (P.1 1).toInt < 100000) : TB n P' := by
  obtain ⟨⟨h1, h2⟩, h3⟩ := h
  have e1 : (1 : Int32).toInt = 1 := rfl
  have e0 : (0 : Int32).toInt = 0 := rfl
  have et : (P'.1 1).toInt = (P.1 1).toInt + 1 := by rw [hp.2.2.1, i_add (by omega) (by omega)]; rfl
  refine ⟨by omega, fun q hq => ?_⟩
  obtain ⟨h4, h5⟩ := h3 q hq
  rw [hp.1 q hq]
  rcases tk13 (V := rowP P) (w := P.1 3) (res := P.1 2) hq with e | e | e
  · rw [e]; omega
  · rw [e, e0]; omega
  · rw [e, i_add (by omega) (by omega), e1]; omega
theorem RX_q {n : Nat} {P : PV} {X : LX} (h : RX n P X) : ∀ q, q < n → st6 (rowX X q 9) ∧ smR (rowX X q) ∧ 0 ≤ (rowX X q 13).toInt ∧ (rowX X q 13).toInt < 2147483647 := by
  obtain ⟨hn6, h0, x0, x1, x2, hrow, hw, hlg, hwn, hok, ⟨t0, t1⟩, t13⟩ := h
  intro q hq
  rw [← hrow q hq]
  obtain ⟨b0, b1, b2, b3, b7, b9, b10, b12, b15⟩ := hok q hq
  obtain ⟨c1, c2⟩ := t13 q hq
  refine ⟨b9, ?_, c1, by omega⟩
  unfold smR sm
  omega
theorem tick9 {G : GB} {c n : Nat} {P P' : PV} {X : LX} (hc : CK G c) (h : RX n P X) (hp : PT n P P') (ht : (P.1 1).toInt < 100000) : ∃ X', f_L_tick (hl G c X) 133 c (c + 1) (c + 2) (c + 3) = some (hl G c X') ∧ RX n P' X' ∧ X' 0 = X 0 ∧ X' 4 4 = X 4 4 + eN n P ∧ X' 4 5 = (tkE (rowP P) (P.1 3) (P.1 2) n).foldl falE (X 4 5) := by
  have hq := RX_q h
  obtain ⟨hn6, h0, x0, x1, x2, hrow, hw, hlg, hwn, hok, htb⟩ := h
  obtain ⟨X', a1, a2, a3, a4, a5, a6, a7, a8, a9, a10, _⟩ := l_tick hc x0 hn6 hw hq
  have hp' := hp
  obtain ⟨p1, p2, p3, p4, p5, p6, p7⟩ := hp'
  have eE : tkE (rowX X) (P.1 3) (X 4 1) n = tkE (rowP P) (P.1 3) (P.1 2) n := by
    rw [x1]
    exact tkE_congr (fun q hq => (hrow q hq).symm) (fun _ _ => rfl)
  rw [eE] at a8 a9 a10
  refine ⟨X', a1, ⟨hn6, p2.trans h0, a5.trans x0, (a6.trans x1).trans p4.symm, ?_, fun q hq => ?_, by rw [p5]; exact a3, ?_, by rw [p5]; exact hwn, fun q hq => ?_, TB_tick htb hp ht⟩, a2, a8, a9⟩
  · rw [a7, x2, p3]
  · rw [p1 q hq, a4 q hq, x1]
    exact tkV_congr hrow (fun _ _ => rfl) q hq
  · rw [p6, ← x2]
    exact a10 _ hlg
  · rw [p1 q hq]
    exact tkV_ok hq (hok q hq)
theorem RX_cp {n : Nat} {P : PV} {X : LX} (Q : PV) (h : RX n P X) : RX n (cpP P Q) X := by
  obtain ⟨hn6, h0, x0, x1, x2, hrow, hw, hlg, hwn, hok, ⟨t0, t13⟩⟩ := h
  obtain ⟨g1, g2, g3⟩ := hlg
  refine ⟨hn6, h0, x0, x1, x2, fun q hq => (cp_row P Q (by omega)).trans (hrow q hq), hw, ⟨g1, g2, fun i hi => (g3 i hi).trans ?_⟩, hwn, fun q hq => by rw [cp_row P Q (by omega)]; exact hok q hq, t0, fun q hq => by rw [cp_row P Q (by omega)]; exact t13 q hq⟩
  simp [lgP, cpP, va_cpy, hi]
/-- what holds of the class's own numbers -/
def IC (T : TS) (s : Nat) : Prop := s ≤ 6 ∧ T.1.1 3 = nI s ∧ σOK T.1.2.1
theorem IC_sv {T : TS} {s : Nat} (h : IC T s) (P' : PV) : IC (uP (svT T s) 0 P') (min (s + 1) 6) := ⟨by have := h.1; omega, rfl, rotM_ok h.2.2 s⟩
variable {T : TS}
theorem v_count0 {w : Nat} (hw : w < 10) : f_X3_count (HT T) 0 (nI w) = (f_X3_countOf (HT T) 0 (nI w)).bind fun p => some (p.1, p.2) := by
  unfold f_X3_count
  rw [if_neg (nI_pos (by omega)), if_pos (by rw [show (10 : Int32) = nI 10 from rfl, nI_ltI (by omega) (by decide)]; exact hw), t_v3]
theorem v_rail {n : Nat} (hn8 : n ≤ 8) (h0 : (T.1.2.2 0).1 0 = nI n) (hok : ∀ q, q < n → RowOK q (rowP (T.1.2.2 0) q)) {r p : Nat} (hr : r < n) (hp : p < 19) : f_X3_rail (HT T) 0 (nI r) (nI p) = some (nuF (T.1.2.2 0) n r p, HT T) := by
  have hk19 : nI p < 19 := by rw [show (19 : Int32) = nI 19 from rfl, nI_ltI (by omega) (by omega)]; exact hp
  unfold f_X3_rail
  rw [t_v3, c_isRail h0, obs, if_neg (rail_not hn8 hr), if_neg n10, if_neg (nI_pos (by omega)), if_pos hk19, t_R0, obs, q_v1, HT0 T, a_number (by decide) hn8 h0 (fun i hi => (hok i hi).2.2.2.2.2.2.2.2) hr hp, obs]
theorem v_account {n : Nat} (hn8 : n ≤ 8) (h0 : (T.1.2.2 0).1 0 = nI n) {r p : Nat} (hr : r < n) (hp : p < 4) : f_X3_account (HT T) 0 (nI r) (nI p) = some ((T.1.2.2 0).2 13 (r * 4 + p), HT T) := by
  have hk4 : nI p < 4 := by rw [show (4 : Int32) = nI 4 from rfl, nI_ltI (by omega) (by omega)]; exact hp
  unfold f_X3_account
  rw [t_v3, c_isRail h0, obs, if_neg (rail_not hn8 hr), if_neg n10, if_neg (nI_pos (by omega)), if_pos hk4, t_R0, obs, q_R13, obs, q_a13, ix4, nI_add, bd_nI (by omega) (by decide), obs]
theorem v_entry {l : Nat} (hl : l ≤ 16) (l1 : (T.1.2.2 0).1 4 = nI l) {j i : Nat} (hj : j < 16) (hi : i < 4) : f_X3_entry (HT T) 0 (nI j) (nI i) = some (if l ≤ j then -1 else (T.1.2.2 0).2 14 (4 * j + i), HT T) := by
  have hk4 : nI i < 4 := by rw [show (4 : Int32) = nI 4 from rfl, nI_ltI (by omega) (by omega)]; exact hi
  have c16 : ¬ (16 : Int32) ≤ nI j := by
    rw [show (16 : Int32) = nI 16 from rfl]
    exact nI_ge hj (by decide)
  unfold f_X3_entry b_X3_entry_59
  rw [if_neg (nI_pos (by omega)), if_neg c16, if_neg (nI_pos (by omega)), if_pos hk4, t_R0, obs, q_R14, obs, q_lI, obs, l1]
  by_cases hlj : l ≤ j
  · rw [if_pos (nI_le hlj (by omega)), if_pos hlj]
  · rw [if_neg (nI_ge (by omega) (by omega)), if_neg hlj, obs, q_R14, obs, q_v0]
    unfold f_X0_numberAt
    rw [q_lR, obs, q_a14, ix4, nI_add, bd_nI (by omega) (by decide), obs, obs, Nat.mul_comm]
theorem v_least {n : Nat} (hn8 : n ≤ 8) (h0 : (T.1.2.2 0).1 0 = nI n) {r a c d : Nat} (hr : r < n) (ha : a ≤ 5000) (hc : c ≤ 1000) (hd : d ≤ 100) (ea : rowP (T.1.2.2 0) r 0 = nI a) (ec : rowP (T.1.2.2 0) r 1 = nI c) (ed : rowP (T.1.2.2 0) r 3 = nI d) : f_X3_leastPatience (HT T) 0 (nI r) = some (lpF a c d 200 1, HT T) := by
  unfold f_X3_leastPatience
  rw [t_v3, c_isRail h0, obs, if_neg (rail_not hn8 hr), if_neg n10, t_R0, obs, q_v1]
  unfold f_X1_leastPatienceOf
  rw [q_v1, q_v1, q_v1, HT0, a_prop0 (by decide) (by omega), obs]
  have p3 : f_X1_propertyOf (hp (gT T) 1 (T.1.2.2 0)) 1 (nI r) 3 = some (rowP (T.1.2.2 0) r 3) := by
    unfold f_X1_propertyOf
    rw [p_R4 (by decide), obs, p_a4 (by decide), ix7, ixa3, bd_nI (by omega) (by decide), obs]
    rfl
  rw [p3, obs, obs, a_prop1 (by decide) (by omega), obs, obs, rA_5L, obs, ea, ec, ed, pk_mul, show (100 : Int32) = nI 100 from rfl, pk_mul]
  rw [show (1 : Int32) = nI 1 from rfl, a_patLoop _ (by omega) (by omega) (by omega) 200 1 FU (by omega) (by rw [FU_eq]; omega), obs]
