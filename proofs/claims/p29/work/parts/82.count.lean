/-! counts, on both sides -/
variable {T : TS}
theorem HT1 (T : TS) : HT T = hp (gT T) 17 (T.1.2.2 1) := HT_p T (j := 1) (by decide)
theorem hp1 (T : TS) (Q : PV) : hp (gT T) 17 Q = HT (uP T 1 Q) := hp_T T (j := 1) (by decide) Q
theorem f_v1 (T : TS) {α : Type} {o : Option α} : vcall (HT T) 1 17 o = o := t_aO T (j := 1) (by decide)
theorem f_copy (T : TS) : f_X1_copyFrom (HT T) 17 1 = some (HT (uP T 1 (cpP (T.1.2.2 0) (T.1.2.2 1)))) := t_copy T (i := 0) (j := 1) (by decide) (by decide) (by decide)
theorem f_tick (T : TS) {P : PV} {n : Nat} (hn8 : n ≤ 8) (h0 : P.1 0 = nI n) : ∃ P', f_X1_passTick (HT (uP T 1 P)) 17 = some (eN n P, HT (uP T 1 P')) ∧ PT n P P' := by
  obtain ⟨P', e1, e2⟩ := p_tick (G := gT T) (b := 17) (by decide) hn8 h0
  rw [hp1, hp1] at e1
  exact ⟨P', e1, e2⟩
theorem f_still (T : TS) {Q : PV} {n : Nat} (hn8 : n ≤ 8) (h0 : Q.1 0 = nI n) : f_X1_wasStill (HT (uP T 1 Q)) 17 = some (if stF (rowP Q) (bfR Q) n 0 = true then 1 else 0) := by
  rw [HT1 (uP T 1 Q), uP_at]
  exact a_still (by decide) hn8 h0
theorem f_any (T : TS) {Q : PV} {n : Nat} (hn8 : n ≤ 8) (h0 : Q.1 0 = nI n) : f_X1_isAnyShorted (HT (uP T 1 Q)) 17 = some (if shF (rowP Q) n 0 = true then 0 else 1) := by
  rw [HT1 (uP T 1 Q), uP_at]
  exact a_any (by decide) hn8 h0
theorem f_mask (T : TS) {Q : PV} {n : Nat} (hn8 : n ≤ 8) (h0 : Q.1 0 = nI n) (v : Int32) : f_X1_maskOf (HT (uP T 1 Q)) 17 v = some (maS (rowP Q) v n) := by
  rw [HT1 (uP T 1 Q), uP_at]
  exact a_maskOf (by decide) hn8 h0 v
theorem f_I3 (T : TS) (Q : PV) : hI (HT (uP T 1 Q)) 1 17 3 = some (Q.1 3) := by
  rw [HT1 (uP T 1 Q), uP_at]
  exact p_I3 (by decide)
def coF (P : PV) (n s w : Nat) : Int32 := if w = 0 then P.1 0 else if w = 1 then P.1 1 else if w = 2 then P.1 2 else if w = 3 then P.1 3 else if w = 4 then maS (rowP P) 3 n else if w = 5 then maS (rowP P) 5 n else if w = 6 then P.1 4 else if w = 7 then suF (rowP P) 10 n 0 0 else nI s
theorem c_count9 {n : Nat} (hn8 : n ≤ 8) (h0 : (T.1.2.2 0).1 0 = nI n) : ∃ Q, PT n (cpP (T.1.2.2 0) (T.1.2.2 1)) Q ∧ f_X3_countOf (HT T) 0 (nI 9) = some (if stF (rowP Q) (rowP (cpP (T.1.2.2 0) (T.1.2.2 1))) n 0 = true then 1 else 0, HT (uP T 1 Q)) := by
  obtain ⟨Q, e1, e2⟩ := f_tick T (P := cpP (T.1.2.2 0) (T.1.2.2 1)) hn8 h0
  refine ⟨Q, e2, ?_⟩
  have hq0 : Q.1 0 = nI n := e2.2.1.trans h0
  unfold f_X3_countOf b_X3_countOf_160
  rw [if_neg (show ¬ nI 9 = (0 : Int32) from nI_ne (by decide) (by decide) (by decide)), if_neg (show ¬ nI 9 = (1 : Int32) from nI_ne (by decide) (by decide) (by decide)), if_neg (show ¬ nI 9 = (2 : Int32) from nI_ne (by decide) (by decide) (by decide)), if_neg (show ¬ nI 9 = (3 : Int32) from nI_ne (by decide) (by decide) (by decide)), if_neg (show ¬ nI 9 = (4 : Int32) from nI_ne (by decide) (by decide) (by decide)), if_neg (show ¬ nI 9 = (5 : Int32) from nI_ne (by decide) (by decide) (by decide)), if_neg (show ¬ nI 9 = (6 : Int32) from nI_ne (by decide) (by decide) (by decide)), if_neg (show ¬ nI 9 = (7 : Int32) from nI_ne (by decide) (by decide) (by decide)), if_neg (show ¬ nI 9 = (8 : Int32) from nI_ne (by decide) (by decide) (by decide)), t_R1, obs, t_R0, obs, f_v1, f_copy, obs, t_R1, obs, f_v1, e1, obs, t_R1, obs, f_v1, f_still T hn8 hq0, obs, bf_PT e2 hn8 n 0 (by omega)]
  cases stF (rowP Q) (rowP (cpP (T.1.2.2 0) (T.1.2.2 1))) n 0 <;> rfl
