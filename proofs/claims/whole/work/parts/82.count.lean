/-! counts, on both sides -/
variable {T : TS}
theorem HT1 (T : TS) : HT T = hp (gT T) 17 (T.1.2.2 1) := HT_p T (j := 1) (by decide)
theorem hp1 (T : TS) (Q : PV) : hp (gT T) 17 Q = HT (uP T 1 Q) := hp_T T (j := 1) (by decide) Q
theorem f_v1 (T : TS) {α : Type} {o : Option α} : vcall (HT T) 1 17 o = o := t_aO T (j := 1) (by decide)
theorem f_copy (T : TS) : f_X1_copyFrom (HT T) 17 1 = some (HT (uP T 1 (cpP (T.1.2.2 0) (T.1.2.2 1)))) := t_copy T (i := 0) (j := 1) (by decide) (by decide) (by decide)
theorem f_tick (T : TS) {P : PV} {n : Nat} (hn8 : n ≤ 8) (h0 : P.1 0 = nI n) : ∃ P', f_X1_passTick (HT (uP T 1 P)) 17 = some (eN n P, HT (uP T 1 P')) ∧ PT n P P' := by
  obtain ⟨P', e1, e2⟩ := p_tick (G := gT T) (b := 17) (by decide) hn8 h0
  rw [hp1, hp1] at e1
  exact ⟨P', e1, e2⟩
theorem f_still (T : TS) {Q : PV} {n : Nat} (hn8 : n ≤ 8) (h0 : Q.1 0 = nI n) : f_X1_wasStill (HT (uP T 1 Q)) 17 = some (if stF (rowP Q) (bfR Q) n 0 = true then 1 else 0) := by
  rw [HT1 (uP T 1 Q), uP_at]
  exact a_still (by decide) hn8 h0
theorem f_any (T : TS) {Q : PV} {n : Nat} (hn8 : n ≤ 8) (h0 : Q.1 0 = nI n) : f_X1_isAnyShorted (HT (uP T 1 Q)) 17 = some (if shF (rowP Q) n 0 = true then 0 else 1) := by
  rw [HT1 (uP T 1 Q), uP_at]
  exact a_any (by decide) hn8 h0
theorem f_mask (T : TS) {Q : PV} {n : Nat} (hn8 : n ≤ 8) (h0 : Q.1 0 = nI n) (v : Int32) : f_X1_maskOf (HT (uP T 1 Q)) 17 v = some (maS (rowP Q) v n) := by
  rw [HT1 (uP T 1 Q), uP_at]
  exact a_maskOf (by decide) hn8 h0 v
theorem f_I3 (T : TS) (Q : PV) : hI (HT (uP T 1 Q)) 1 17 3 = some (Q.1 3) := by
  rw [HT1 (uP T 1 Q), uP_at]
  exact p_I3 (by decide)
theorem rz_ke (z a : Nat → Int32) {q : Nat} (hq : q < 8) : rowZ (keF z a 228) q = rowZ z q := by
  funext k
  unfold rowZ
  split
  · rfl
  · next h =>
    unfold keF
    rw [if_pos (by omega)]
theorem z_isStill {G : Nat → MC} {M : MV} {P Q : PV} {n : Nat} (h : RZ n P (M.2 1)) (ht : PT n P Q) : ∃ M', f_X4_isStill (hm G 133 M) 133 = some (if stF (rowP Q) (rowP P) n 0 = true then 1 else 0, hm G 133 M') ∧ MLk M M' := by
  have hb : 133 ≤ 134 := by decide
  have h' : RZ n P ((w9 M (keF (M.2 1) (M.2 9) 228)).2 1) := h
  obtain ⟨M1, k1, k2, k3, k4, k5, k6, k7⟩ := z_tick (H := G) h' ht
  have hn8 := h.1
  refine ⟨wZ M1 (keF (M1.2 9) (M1.2 1) 228), ?_, MK_back ⟨k5, k6, k7⟩⟩
  have e0 := z_stillLoop (G := G) hb (M := M1) hn8 k2.2.2.1 n 0 FU true (by omega) (by rw [FU_eq]; omega)
  rw [if_pos rfl, Bool.true_and, z_take hb, obs, show nI 0 = (0 : Int32) from rfl] at e0
  have e9 : M1.2 9 = keF (M.2 1) (M.2 9) 228 := k7 9 (by decide) (by decide)
  have es : stF (rowZ (M1.2 1)) (rowZ (M1.2 9)) n 0 = stF (rowP Q) (rowP P) n 0 := by
    refine st_congr (n := n) (fun q hq => (k2.2.2.2.2.2.1 q hq).symm) (fun q hq => ?_) n 0 (by omega)
    rw [e9, rz_ke _ _ (by omega)]
    exact (h.2.2.2.2.2.1 q hq).symm
  rw [es] at e0
  unfold f_X4_isStill
  rw [m_v hb, z_keep hb, obs, m_v hb, k1, obs]
  exact e0
def coF (P : PV) (n s w : Nat) : Int32 := if w = 0 then P.1 0 else if w = 1 then P.1 1 else if w = 2 then P.1 2 else if w = 3 then P.1 3 else if w = 4 then maS (rowP P) 3 n else if w = 5 then maS (rowP P) 5 n else if w = 6 then P.1 4 else if w = 7 then suF (rowP P) 10 n 0 0 else nI s
theorem nI_ne10 {a c : Nat} (ha : a < 100) (hc : c < 100) (h : a ≠ c) : ¬ nI a = nI c := nI_ne ha hc h
theorem c_count9 {n : Nat} (hn8 : n ≤ 8) (h0 : (T.1.2.2 0).1 0 = nI n) : ∃ Q, PT n (cpP (T.1.2.2 0) (T.1.2.2 1)) Q ∧ f_X3_countOf (HT T) 0 (nI 9) = some (if stF (rowP Q) (rowP (cpP (T.1.2.2 0) (T.1.2.2 1))) n 0 = true then 1 else 0, HT (uP T 1 Q)) := by
  obtain ⟨Q, e1, e2⟩ := f_tick T (P := cpP (T.1.2.2 0) (T.1.2.2 1)) hn8 h0
  refine ⟨Q, e2, ?_⟩
  have hq0 : Q.1 0 = nI n := e2.2.1.trans h0
  unfold f_X3_countOf b_X3_countOf_160
  rw [if_neg (show ¬ nI 9 = (0 : Int32) from nI_ne (by decide) (by decide) (by decide)), if_neg (show ¬ nI 9 = (1 : Int32) from nI_ne (by decide) (by decide) (by decide)), if_neg (show ¬ nI 9 = (2 : Int32) from nI_ne (by decide) (by decide) (by decide)), if_neg (show ¬ nI 9 = (3 : Int32) from nI_ne (by decide) (by decide) (by decide)), if_neg (show ¬ nI 9 = (4 : Int32) from nI_ne (by decide) (by decide) (by decide)), if_neg (show ¬ nI 9 = (5 : Int32) from nI_ne (by decide) (by decide) (by decide)), if_neg (show ¬ nI 9 = (6 : Int32) from nI_ne (by decide) (by decide) (by decide)), if_neg (show ¬ nI 9 = (7 : Int32) from nI_ne (by decide) (by decide) (by decide)), if_neg (show ¬ nI 9 = (8 : Int32) from nI_ne (by decide) (by decide) (by decide)), t_R1, obs, t_R0, obs, f_v1, f_copy, obs, t_R1, obs, f_v1, e1, obs, t_R1, obs, f_v1, f_still T hn8 hq0, obs, bf_PT e2 hn8 n 0 (by omega)]
  cases stF (rowP Q) (rowP (cpP (T.1.2.2 0) (T.1.2.2 1))) n 0 <;> rfl
theorem c_countS {n s w : Nat} (h : INV T n s) (hw : w < 9) : f_X3_countOf (HT T) 0 (nI w) = some (coF (T.1.2.2 0) n s w, HT T) := by
  obtain ⟨hs, hS, hM, hσ, hz, ha, hv, hbf⟩ := h
  obtain ⟨hn8, h0, z0, z1, z2, hrow, hww, hl, hwn, hok⟩ := hz
  have hb : 1 ≤ 125 := by decide
  unfold f_X3_countOf
  match w, hw with
  | 0, _ =>
    rw [if_pos (show nI 0 = (0 : Int32) from rfl), t_R0, obs, q_I0, obs]
    rfl
  | 1, _ =>
    rw [if_neg (show ¬ nI 1 = (0 : Int32) from nI_ne (by decide) (by decide) (by decide)), if_pos (show nI 1 = (1 : Int32) from rfl), t_R0, obs, q_I1, obs]
    rfl
  | 2, _ =>
    rw [if_neg (show ¬ nI 2 = (0 : Int32) from nI_ne (by decide) (by decide) (by decide)), if_neg (show ¬ nI 2 = (1 : Int32) from nI_ne (by decide) (by decide) (by decide)), if_pos (show nI 2 = (2 : Int32) from rfl), t_R0, obs, q_I2, obs]
    rfl
  | 3, _ =>
    rw [if_neg (show ¬ nI 3 = (0 : Int32) from nI_ne (by decide) (by decide) (by decide)), if_neg (show ¬ nI 3 = (1 : Int32) from nI_ne (by decide) (by decide) (by decide)), if_neg (show ¬ nI 3 = (2 : Int32) from nI_ne (by decide) (by decide) (by decide)), if_pos (show nI 3 = (3 : Int32) from rfl), t_R0, obs, q_I3, obs]
    rfl
  | 4, _ =>
    rw [if_neg (show ¬ nI 4 = (0 : Int32) from nI_ne (by decide) (by decide) (by decide)), if_neg (show ¬ nI 4 = (1 : Int32) from nI_ne (by decide) (by decide) (by decide)), if_neg (show ¬ nI 4 = (2 : Int32) from nI_ne (by decide) (by decide) (by decide)), if_neg (show ¬ nI 4 = (3 : Int32) from nI_ne (by decide) (by decide) (by decide)), if_pos (show nI 4 = (4 : Int32) from rfl), t_R0, obs, q_v1, HT0 T, a_maskOf hb hn8 h0, obs]
    rfl
  | 5, _ =>
    rw [if_neg (show ¬ nI 5 = (0 : Int32) from nI_ne (by decide) (by decide) (by decide)), if_neg (show ¬ nI 5 = (1 : Int32) from nI_ne (by decide) (by decide) (by decide)), if_neg (show ¬ nI 5 = (2 : Int32) from nI_ne (by decide) (by decide) (by decide)), if_neg (show ¬ nI 5 = (3 : Int32) from nI_ne (by decide) (by decide) (by decide)), if_neg (show ¬ nI 5 = (4 : Int32) from nI_ne (by decide) (by decide) (by decide)), if_pos (show nI 5 = (5 : Int32) from rfl), t_R0, obs, q_v1, HT0 T, a_maskOf hb hn8 h0, obs]
    rfl
  | 6, _ =>
    rw [if_neg (show ¬ nI 6 = (0 : Int32) from nI_ne (by decide) (by decide) (by decide)), if_neg (show ¬ nI 6 = (1 : Int32) from nI_ne (by decide) (by decide) (by decide)), if_neg (show ¬ nI 6 = (2 : Int32) from nI_ne (by decide) (by decide) (by decide)), if_neg (show ¬ nI 6 = (3 : Int32) from nI_ne (by decide) (by decide) (by decide)), if_neg (show ¬ nI 6 = (4 : Int32) from nI_ne (by decide) (by decide) (by decide)), if_neg (show ¬ nI 6 = (5 : Int32) from nI_ne (by decide) (by decide) (by decide)), if_pos (show nI 6 = (6 : Int32) from rfl), t_R0, obs, q_R14, obs, q_lI, obs]
    rfl
  | 7, _ =>
    rw [if_neg (show ¬ nI 7 = (0 : Int32) from nI_ne (by decide) (by decide) (by decide)), if_neg (show ¬ nI 7 = (1 : Int32) from nI_ne (by decide) (by decide) (by decide)), if_neg (show ¬ nI 7 = (2 : Int32) from nI_ne (by decide) (by decide) (by decide)), if_neg (show ¬ nI 7 = (3 : Int32) from nI_ne (by decide) (by decide) (by decide)), if_neg (show ¬ nI 7 = (4 : Int32) from nI_ne (by decide) (by decide) (by decide)), if_neg (show ¬ nI 7 = (5 : Int32) from nI_ne (by decide) (by decide) (by decide)), if_neg (show ¬ nI 7 = (6 : Int32) from nI_ne (by decide) (by decide) (by decide)), if_pos (show nI 7 = (7 : Int32) from rfl), t_R0, obs, q_v1, HT0 T]
    unfold f_X1_sumOfVoltages
    rw [show (0 : Int32) = nI 0 from rfl, a_sumLoop hb hn8 h0 n 0 FU _ (by omega) (by rw [FU_eq]; omega), obs]
    rfl
  | 8, _ =>
    rw [if_neg (show ¬ nI 8 = (0 : Int32) from nI_ne (by decide) (by decide) (by decide)), if_neg (show ¬ nI 8 = (1 : Int32) from nI_ne (by decide) (by decide) (by decide)), if_neg (show ¬ nI 8 = (2 : Int32) from nI_ne (by decide) (by decide) (by decide)), if_neg (show ¬ nI 8 = (3 : Int32) from nI_ne (by decide) (by decide) (by decide)), if_neg (show ¬ nI 8 = (4 : Int32) from nI_ne (by decide) (by decide) (by decide)), if_neg (show ¬ nI 8 = (5 : Int32) from nI_ne (by decide) (by decide) (by decide)), if_neg (show ¬ nI 8 = (6 : Int32) from nI_ne (by decide) (by decide) (by decide)), if_neg (show ¬ nI 8 = (7 : Int32) from nI_ne (by decide) (by decide) (by decide)), if_pos (show nI 8 = (8 : Int32) from rfl), t_I3, obs, hS]
    rfl
  | w + 9, hw => omega
theorem z_countS {G : Nat → MC} {P : PV} {M : MV} {n s w : Nat} (h : RZ n P (M.2 1)) (hM : M.1.1 2 = nI s) (hw : w < 9) : f_X4_counted (hm G 133 M) 133 (nI w) = some (coF P n s w, hm G 133 M) := by
  obtain ⟨hn8, h0, z0, z1, z2, hrow, hww, hl, hwn, hok⟩ := h
  have hb : 133 ≤ 134 := by decide
  unfold f_X4_counted
  match w, hw with
  | 0, _ =>
    rw [if_pos (show nI 0 = (0 : Int32) from rfl), m_R1 hb, obs, m_a1 hb, b228_0, obs, z0, ← h0]
    rfl
  | 1, _ =>
    rw [if_neg (show ¬ nI 1 = (0 : Int32) from nI_ne (by decide) (by decide) (by decide)), if_pos (show nI 1 = (1 : Int32) from rfl), m_R1 hb, obs, m_a1 hb, b228_2, obs, z2]
    rfl
  | 2, _ =>
    rw [if_neg (show ¬ nI 2 = (0 : Int32) from nI_ne (by decide) (by decide) (by decide)), if_neg (show ¬ nI 2 = (1 : Int32) from nI_ne (by decide) (by decide) (by decide)), if_pos (show nI 2 = (2 : Int32) from rfl), m_R1 hb, obs, m_a1 hb, b228_1, obs, z1]
    rfl
  | 3, _ =>
    rw [if_neg (show ¬ nI 3 = (0 : Int32) from nI_ne (by decide) (by decide) (by decide)), if_neg (show ¬ nI 3 = (1 : Int32) from nI_ne (by decide) (by decide) (by decide)), if_neg (show ¬ nI 3 = (2 : Int32) from nI_ne (by decide) (by decide) (by decide)), if_pos (show nI 3 = (3 : Int32) from rfl), m_v hb, z_wants hb z0 hn8 hww hwn, obs]
    rfl
  | 4, _ =>
    rw [if_neg (show ¬ nI 4 = (0 : Int32) from nI_ne (by decide) (by decide) (by decide)), if_neg (show ¬ nI 4 = (1 : Int32) from nI_ne (by decide) (by decide) (by decide)), if_neg (show ¬ nI 4 = (2 : Int32) from nI_ne (by decide) (by decide) (by decide)), if_neg (show ¬ nI 4 = (3 : Int32) from nI_ne (by decide) (by decide) (by decide)), if_pos (show nI 4 = (4 : Int32) from rfl), m_v hb, z_maskS hb z0 hn8, obs, ma_congr (n := n) _ (fun q hq => by rw [← hrow q hq])]
    rfl
  | 5, _ =>
    rw [if_neg (show ¬ nI 5 = (0 : Int32) from nI_ne (by decide) (by decide) (by decide)), if_neg (show ¬ nI 5 = (1 : Int32) from nI_ne (by decide) (by decide) (by decide)), if_neg (show ¬ nI 5 = (2 : Int32) from nI_ne (by decide) (by decide) (by decide)), if_neg (show ¬ nI 5 = (3 : Int32) from nI_ne (by decide) (by decide) (by decide)), if_neg (show ¬ nI 5 = (4 : Int32) from nI_ne (by decide) (by decide) (by decide)), if_pos (show nI 5 = (5 : Int32) from rfl), m_v hb, z_maskS hb z0 hn8, obs, ma_congr (n := n) _ (fun q hq => by rw [← hrow q hq])]
    rfl
  | 6, _ =>
    rw [if_neg (show ¬ nI 6 = (0 : Int32) from nI_ne (by decide) (by decide) (by decide)), if_neg (show ¬ nI 6 = (1 : Int32) from nI_ne (by decide) (by decide) (by decide)), if_neg (show ¬ nI 6 = (2 : Int32) from nI_ne (by decide) (by decide) (by decide)), if_neg (show ¬ nI 6 = (3 : Int32) from nI_ne (by decide) (by decide) (by decide)), if_neg (show ¬ nI 6 = (4 : Int32) from nI_ne (by decide) (by decide) (by decide)), if_neg (show ¬ nI 6 = (5 : Int32) from nI_ne (by decide) (by decide) (by decide)), if_pos (show nI 6 = (6 : Int32) from rfl), m_R1 hb, obs, m_a1 hb, b228_3, obs]
    obtain ⟨l, l1, l2, l3⟩ := hl
    rw [l3.1, ← l2]
    rfl
  | 7, _ =>
    rw [if_neg (show ¬ nI 7 = (0 : Int32) from nI_ne (by decide) (by decide) (by decide)), if_neg (show ¬ nI 7 = (1 : Int32) from nI_ne (by decide) (by decide) (by decide)), if_neg (show ¬ nI 7 = (2 : Int32) from nI_ne (by decide) (by decide) (by decide)), if_neg (show ¬ nI 7 = (3 : Int32) from nI_ne (by decide) (by decide) (by decide)), if_neg (show ¬ nI 7 = (4 : Int32) from nI_ne (by decide) (by decide) (by decide)), if_neg (show ¬ nI 7 = (5 : Int32) from nI_ne (by decide) (by decide) (by decide)), if_neg (show ¬ nI 7 = (6 : Int32) from nI_ne (by decide) (by decide) (by decide)), if_pos (show nI 7 = (7 : Int32) from rfl), m_v hb]
    unfold f_X4_voltages
    rw [show (0 : Int32) = nI 0 from rfl, z_sumLoop hb hn8 z0 n 0 FU _ (by omega) (by rw [FU_eq]; omega), obs, ← su_congr hrow n 0 _ (by omega)]
    rfl
  | 8, _ =>
    rw [if_neg (show ¬ nI 8 = (0 : Int32) from nI_ne (by decide) (by decide) (by decide)), if_neg (show ¬ nI 8 = (1 : Int32) from nI_ne (by decide) (by decide) (by decide)), if_neg (show ¬ nI 8 = (2 : Int32) from nI_ne (by decide) (by decide) (by decide)), if_neg (show ¬ nI 8 = (3 : Int32) from nI_ne (by decide) (by decide) (by decide)), if_neg (show ¬ nI 8 = (4 : Int32) from nI_ne (by decide) (by decide) (by decide)), if_neg (show ¬ nI 8 = (5 : Int32) from nI_ne (by decide) (by decide) (by decide)), if_neg (show ¬ nI 8 = (6 : Int32) from nI_ne (by decide) (by decide) (by decide)), if_neg (show ¬ nI 8 = (7 : Int32) from nI_ne (by decide) (by decide) (by decide)), if_pos (show nI 8 = (8 : Int32) from rfl), m_I2 hb, obs, hM]
    rfl
  | w + 9, hw => omega
theorem z_count9 {G : Nat → MC} {P Q : PV} {M : MV} {n : Nat} (h : RZ n P (M.2 1)) (ht : PT n P Q) : ∃ M', f_X4_counted (hm G 133 M) 133 (nI 9) = some (if stF (rowP Q) (rowP P) n 0 = true then 1 else 0, hm G 133 M') ∧ MLk M M' := by
  have hb : 133 ≤ 134 := by decide
  obtain ⟨M', e1, e2⟩ := z_isStill (G := G) h ht
  refine ⟨M', ?_, e2⟩
  unfold f_X4_counted b_X4_counted_126
  rw [if_neg (show ¬ nI 9 = (0 : Int32) from nI_ne (by decide) (by decide) (by decide)), if_neg (show ¬ nI 9 = (1 : Int32) from nI_ne (by decide) (by decide) (by decide)), if_neg (show ¬ nI 9 = (2 : Int32) from nI_ne (by decide) (by decide) (by decide)), if_neg (show ¬ nI 9 = (3 : Int32) from nI_ne (by decide) (by decide) (by decide)), if_neg (show ¬ nI 9 = (4 : Int32) from nI_ne (by decide) (by decide) (by decide)), if_neg (show ¬ nI 9 = (5 : Int32) from nI_ne (by decide) (by decide) (by decide)), if_neg (show ¬ nI 9 = (6 : Int32) from nI_ne (by decide) (by decide) (by decide)), if_neg (show ¬ nI 9 = (7 : Int32) from nI_ne (by decide) (by decide) (by decide)), if_neg (show ¬ nI 9 = (8 : Int32) from nI_ne (by decide) (by decide) (by decide)), m_v hb, e1, obs]
  cases stF (rowP Q) (rowP P) n 0 <;> rfl
/-- one count, on both sides -/
theorem both_count {n s w : Nat} (h : INV T n s) (hw : w < 10) : ∃ Q v, f_X3_countOf (HT T) 0 (nI w) = some (v, HT (uP T 1 Q)) ∧ ∀ (G : Nat → MC) (M : MV), RZ n (T.1.2.2 0) (M.2 1) → M.1.1 2 = nI s → ∃ M', f_X4_counted (hm G 133 M) 133 (nI w) = some (v, hm G 133 M') ∧ MLk M M' := by
  by_cases h9 : w < 9
  · refine ⟨T.1.2.2 1, coF (T.1.2.2 0) n s w, ?_, fun G M hz hM => ⟨M, z_countS hz hM h9, MLk_refl M⟩⟩
    rw [uP_self]
    exact c_countS h h9
  · obtain rfl : w = 9 := by omega
    obtain ⟨hs, hS, hM, hσ, hz, ha, hv, hbf⟩ := h
    obtain ⟨Q, e1, e2⟩ := c_count9 (T := T) hz.1 hz.2.1
    exact ⟨Q, _, e2, fun G M hz hM => z_count9 (cp_RZ _ hz) e1⟩
theorem z_count16 {G : Nat → MC} {M : MV} (x c : Int32) : b_X4_count_16 (hm G 133 M) 133 x 133 c = if c ≤ 0 then (f_X4_counted (hm G 133 (mS M 0 c)) 133 x).bind (fun p => some (p.1, p.2)) else some (0, hm G 133 (mS M 0 c)) := by
  unfold b_X4_count_16 b_X4_count_35
  simp only [m_P0 (show 133 ≤ 134 by decide), m_I0 (show 133 ≤ 134 by decide), m_v (show 133 ≤ 134 by decide), obs, mS_0]
theorem op_count {n s : Nat} (h : INV T n s) (x : Int32) : OKc T (f_L_count (HT T) 0 x 140) (fun h => vcall h 4 133 (f_X4_count h 133 x)) := by
  have h' := h
  obtain ⟨hs, hS, hM, hσ, hz, ha, hv, hbf⟩ := h'
  unfold f_L_count
  rw [t_v3]
  by_cases hx : x < 0 ∨ nI 10 ≤ x
  · have e1 : f_X3_count (HT T) 0 x = some (.inl (0, HT T)) := by
      unfold f_X3_count b_X3_count_10
      by_cases h1 : x < 0
      · rw [if_pos h1]
      · rw [if_neg h1, if_neg]
        rcases hx with hx | hx
        · exact absurd hx h1
        · rw [Int32.not_lt]; exact hx
    rw [e1]
    refine OK_no h (c := 1) (by decide) rfl (fun G => ?_)
    have hout : x < 0 ∨ (9 : Int32) < x := out_of (n := 10) (p := 9) (by decide) (by decide) hx rfl
    unfold f_X4_count
    rw [z_within, obs, if_pos hout, if_pos rfl, z_count16, if_neg (by decide)]
  · have hxn : ¬ x < 0 := fun hh => hx (Or.inl hh)
    obtain ⟨w, hw31, rfl⟩ := nI_of hxn
    have hw : w < 10 := by
      have : ¬ nI 10 ≤ nI w := fun hh => hx (Or.inr hh)
      rw [nI_leI (by decide) hw31] at this
      omega
    obtain ⟨Q, v, e1, e2⟩ := both_count h hw
    have e3 : f_X3_count (HT T) 0 (nI w) = some (.inr (v, HT (uP T 1 Q))) := by
      unfold f_X3_count
      rw [if_neg hxn, if_pos (by rw [show (10 : Int32) = nI 10 from rfl, nI_ltI hw31 (by decide)]; exact hw), t_v3, e1, obs]
    rw [e3]
    refine OK_look h (a := v) Q ?_ (fun G => ?_)
    · rw [obs, Sum.elim_inr, t_sL, obs]
      rfl
    · obtain ⟨M', k1, k2⟩ := e2 G (mS T.2.2.1 0 0) hz hM
      refine ⟨M', ?_, k2⟩
      have hin : ¬ (nI w < 0 ∨ (9 : Int32) < nI w) := in_of (n := 10) (p := 9) (by decide) rfl hw
      unfold f_X4_count
      rw [z_within, obs, if_neg hin, if_neg n10, z_count16, if_pos (by decide), k1, obs]
