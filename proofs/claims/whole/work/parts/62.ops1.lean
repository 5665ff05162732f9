/-! commands, first: residue -/
theorem z_within (h : MH) (x a c : Int32) : f_X4_within h x a c = some (if x < a ∨ c < x then 0 else 1) := by
  unfold f_X4_within b_X4_within_14 b_X4_within_15
  by_cases h1 : x < a
  · simp [h1]
  · by_cases h2 : c < x <;> simp [h1, h2]
/-- the model after it saved -/
def sM (M : MV) (s : Nat) : MV := mS (w3 (mS M 0 0) (svM (M.2 3) (M.2 1) s)) 2 (nI (min (s + 1) 6))
theorem sM_1 (M : MV) (s : Nat) : (sM M s).2 1 = M.2 1 := rfl
theorem sM_3 (M : MV) (s : Nat) : (sM M s).2 3 = svM (M.2 3) (M.2 1) s := rfl
theorem sM_5 (M : MV) (s : Nat) : (sM M s).2 5 = M.2 5 := rfl
theorem sM_n (M : MV) (s : Nat) : (sM M s).1.1 2 = nI (min (s + 1) 6) := rfl
theorem sM_4 (M : MV) (s : Nat) : (sM M s).1.1 4 = M.1.1 4 := rfl
theorem sM_0 (M : MV) (s : Nat) : (sM M s).1.1 0 = 0 := rfl
variable {G : Nat → MC} {b : Nat}
theorem z_saveT (hb : b ≤ 134) {s : Nat} (hs : s ≤ 6) {M : MV} (h2 : M.1.1 2 = nI s) : f_X4_save (hm G b (mS M 0 0)) b = some (hm G b (sM M s)) := z_save hb hs (M := mS M 0 0) h2
theorem mS_0 (M : MV) (c : Int32) : (mS M 0 c).1.1 0 = c := rfl
theorem z_setResidue (hb : b ≤ 134) {s : Nat} (hs : s ≤ 6) {M : MV} (h2 : M.1.1 2 = nI s) (x : Int32) : f_X4_setResidue (hm G b M) b x = some (if x < 0 ∨ 500 < x then (0, hm G b (mS M 0 1)) else (M.2 1 1, hm G b (wZ (sM M s) (upd (M.2 1) 1 x)))) := by
  have e17 : ∀ c : Int32, b_X4_setResidue_17 (hm G b M) b x b c = if c ≤ 0 then (f_X4_save (hm G b (mS M 0 c)) b).bind (fun h3 => (hR h3 4 b 1).bind fun v4 => (aI h3 v4 (1 : Int32)).bind fun v5 => (hR h3 4 b 1).bind fun v6 => (sI h3 v6 (1 : Int32) x).bind fun h7 => some (v5, h7)) else some (0, hm G b (mS M 0 c)) := by
    intro c
    simp only [b_X4_setResidue_17, m_P0 hb, m_I0 hb, m_v hb, Option.bind_some, mS_0]
  simp only [f_X4_setResidue, z_within, Option.bind_some, e17]
  by_cases h : x < 0 ∨ 500 < x
  · simp only [h, if_true]
    rw [if_neg (by decide)]
  · simp only [h, if_false, n10]
    rw [if_pos (by decide), z_saveT hb hs h2]
    simp only [Option.bind_some, b228_0, b228_1, b228_2, b228_3, m_v hb, m_R1 hb, m_R8 hb, m_a1 hb, m_a8 hb, wZ_1, wZ_z, wZ_8, wZ_wZ, m_s1 hb, mA_wZ, sM_1]
variable {T : TS}
theorem c_setResidue {s : Nat} (hs : s ≤ 6) (hS : T.1.1 3 = nI s) (hσ : σOK T.1.2.1) (x : Int32) : f_X3_setResidue (HT T) 0 x = some (if x < 0 ∨ 500 < x then .inl (0, HT T) else .inr ((T.1.2.2 0).1 2, HT (uP (svT T s) 0 (wS (T.1.2.2 0) 2 x)))) := by
  simp only [f_X3_setResidue, b_X3_setResidue_11, t_v3]
  by_cases h0 : x < 0
  · simp only [h0, if_true, true_or]
  · by_cases h1 : x ≤ 500
    · have h2 : ¬ 500 < x := by rw [Int32.not_lt]; exact h1
      simp only [h0, h1, h2, if_true, if_false, or_self, t_save T hs hS hσ, Option.bind_some, t_v3, t_vm, t_R0, t_R1, t_R2, t_R4, t_R6, t_I3, t_I5, t_P3, t_P5, q_v1, q_v0, q_lI, q_lR, q_lP, q_I0, q_P0, q_I1, q_P1, q_I2, q_P2, q_I3, q_P3, q_R4, q_R5, q_R6, q_R7, q_R8, q_R9, q_R10, q_R11, q_R12, q_R13, q_R14, q_R15, q_R16, q_R17, q_a4, q_s4, q_a5, q_s5, q_a6, q_s6, q_a7, q_s7, q_a8, q_s8, q_a9, q_s9, q_a10, q_s10, q_a11, q_s11, q_a12, q_s12, q_a13, q_s13, q_a15, q_s15, q_a16, q_s16, q_a17, q_s17, q_a14, q_s14, uP_pl, sv_pl T hσ]
    · have h2 : 500 < x := by rw [← Int32.not_le]; exact h1
      simp only [h0, h1, h2, if_true, if_false, or_true]
theorem OK_no {n s : Nat} (h : INV T n s) {cl : Option (Int32 × MH)} {rf : MH → Option (Int32 × MH)} {c : Int32} (hc : ¬ c = 0) (e1 : cl = some (c, HT T)) (e2 : ∀ G, rf (hm G 133 T.2.2.1) = some (0, hm G 133 (mS T.2.2.1 0 c))) : OKc T cl (fun h => vcall h 4 133 (rf h)) := by
  refine ⟨T, c, e1, uM T (mS T.2.2.1 0 c), 0, ?_, rfl, fun h => absurd h hc, n, s, INV_no h c⟩
  show vcall (HT T) 4 133 (rf (HT T)) = _
  rw [t_vm, ← hm_T, HT_m, e2]
theorem OK_do {n s m : Nat} (h : INV T n s) {cl : Option (Int32 × MH)} {rf : MH → Option (Int32 × MH)} {a : Int32} {P' : PV} {M' : MV} (e1 : cl = some (0, HT (uO (uP (svT T s) 0 P') (vp_updL T.2.2.2 0 (Int32.toInt64 a))))) (e2 : ∀ G, rf (hm G 133 T.2.2.1) = some (a, hm G 133 M')) (h0 : M'.1.1 0 = 0) (h1 : RZ m P' (M'.2 1)) (h2 : AZ m P') (h3 : M'.2 3 = svM (T.2.2.1.2 3) (T.2.2.1.2 1) s) (h4 : M'.1.1 2 = nI (min (s + 1) 6)) (h5 : M'.1.1 4 = T.2.2.1.1.1 4) (h6 : M'.2 5 = T.2.2.1.2 5) : OKc T cl (fun h => vcall h 4 133 (rf h)) := by
  refine ⟨_, 0, e1, uM (uO (uP (svT T s) 0 P') (vp_updL T.2.2.2 0 (Int32.toInt64 a))) M', a, ?_, h0, fun _ => ?_, m, _, INV_cmd h _ h1 h2 h3 h4 h5 h6⟩
  · show vcall (HT _) 4 133 (rf (HT _)) = _
    rw [t_vm, ← hm_T, HT_m (uO (uP (svT T s) 0 P') (vp_updL T.2.2.2 0 (Int32.toInt64 a)))]
    exact e2 _
  · simp [uM, uO, vp_updL]
theorem RZ_res {n : Nat} {P : PV} {z : Nat → Int32} (h : RZ n P z) (x : Int32) : RZ n (wS P 2 x) (upd z 1 x) := by
  obtain ⟨hn8, h0, z0, z1, z2, hrow, hw, hl, hwn, hok⟩ := h
  refine ⟨hn8, h0, z0, upd_s, z2, fun q hq => ?_, fun q hq => ?_, LRel_i (Or.inl (by decide)) x hl, hwn, hok⟩
  · rw [rw_S, rz_updl _ (by decide)]
    exact hrow q hq
  · rw [upd_n (by omega)]
    exact hw q hq
theorem RZ_row {n r k : Nat} {P P' : PV} {z : Nat → Int32} (h : RZ n P z) (hr : r < n) (hk : k < 20) (h8 : k ≠ 8) {x : Int32} (e1 : rowP P' = setRow (rowP P) r (upd (rowP P r) k x)) (e2 : P'.1 = P.1) (e3 : P'.2 14 = P.2 14) (hx : RowOK r (upd (rowP P r) k x)) : RZ n P' (upd z (68 + 20 * r + k) x) := by
  obtain ⟨hn8, h0, z0, z1, z2, hrow, hw, hl, hwn, hok⟩ := h
  have el : lgP P' = lgP P := by unfold lgP; rw [e2, e3]
  refine ⟨hn8, by rw [e2]; exact h0, by rw [upd_n (by omega)]; exact z0, by rw [upd_n (by omega), e2]; exact z1, by rw [upd_n (by omega), e2]; exact z2, fun q hq => ?_, fun q hq => ?_, by rw [el]; exact LRel_i (Or.inr (by omega)) x hl, by rw [e2]; exact hwn, fun q hq => ?_⟩
  · rw [e1, rz_upd _ r hk h8]
    by_cases hq2 : q = r
    · subst hq2
      rw [sr_at, sr_at, hrow q hq]
    · rw [sr_ne _ _ hq2, sr_ne _ _ hq2, hrow q hq]
  · rw [upd_n (by omega), e2]
    exact hw q hq
  · rw [e1]
    by_cases hq2 : q = r
    · subst hq2
      rw [sr_at]
      exact hx
    · rw [sr_ne _ _ hq2]
      exact hok q hq
theorem AZ_row {n r k : Nat} {P P' : PV} (h : AZ n P) (hk : k ≠ 19) {x : Int32} (e1 : rowP P' = setRow (rowP P) r (upd (rowP P r) k x)) (e2 : P'.1 = P.1) : AZ n P' := by
  refine ⟨by rw [e2]; exact h.1, fun q hq => ?_⟩
  rw [e1, e2]
  by_cases hq2 : q = r
  · subst hq2
    rw [sr_at, upd_n (Ne.symm hk)]
    exact h.2 q hq
  · rw [sr_ne _ _ hq2]
    exact h.2 q hq
theorem op_setResidue {n s : Nat} (h : INV T n s) (x : Int32) : OKc T (f_L_setResidue (HT T) 0 x 140) (fun h => vcall h 4 133 (f_X4_setResidue h 133 x)) := by
  have h' := h
  obtain ⟨hs, hS, hM, hσ, hz, ha, hv, hbf⟩ := h'
  unfold f_L_setResidue
  rw [t_v3, c_setResidue hs hS hσ]
  by_cases hx : x < 0 ∨ 500 < x
  · rw [if_pos hx]
    refine OK_no h (c := 1) (by decide) rfl (fun G => ?_)
    rw [z_setResidue (by decide) hs hM, if_pos hx]
  · rw [if_neg hx]
    refine OK_do h (m := n) (a := (T.1.2.2 0).1 2) (P' := wS (T.1.2.2 0) 2 x) (M' := wZ (sM T.2.2.1 s) (upd (T.2.2.1.2 1) 1 x)) ?_ (fun G => ?_) rfl (RZ_res hz x) ?_ rfl rfl rfl rfl
    · simp only [Option.bind_some, Sum.elim_inr, t_sL]
      rfl
    · rw [z_setResidue (by decide) hs hM, if_neg hx, hz.2.2.2.1]
    · exact ⟨ha.1, fun q hq => ha.2 q hq⟩
