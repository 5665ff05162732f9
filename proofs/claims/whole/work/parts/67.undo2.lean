/-! commands: undo -/
variable {T : TS} {G : Nat → MC}
theorem obs {α β : Type} (a : α) (f : α → Option β) : (some a).bind f = f a := Eq.trans rfl rfl
theorem z_undo13 {M : MV} {s : Nat} (hM : M.1.1 2 = nI s) (c : Int32) : b_X4_undo_13 (hm G 133 M) 133 133 c = if c ≤ 0 then f_X4_undo_37 FU (hm G 133 (mS (mS M 0 c) 2 (nI s - 1))) 133 0 else some (0, hm G 133 (mS M 0 c)) := by
  unfold b_X4_undo_13
  generalize FU = F
  simp only [m_P0 (show 133 ≤ 134 by decide), m_I0 (show 133 ≤ 134 by decide), m_I2 (show 133 ≤ 134 by decide), m_P2 (show 133 ≤ 134 by decide), obs, mS_0]
  rw [show (mS M 0 c).1.1 2 = M.1.1 2 from rfl, hM]
theorem z_undo0 {M : MV} (hM : M.1.1 2 = nI 0) : f_X4_undo (hm G 133 M) 133 = some (0, hm G 133 (mS M 0 1)) := by
  unfold f_X4_undo
  rw [m_I2 (by decide), hM, Option.bind_some, if_pos (by decide), z_undo13 hM, if_neg (by decide)]
theorem z_undo {M : MV} {q : Nat} (hq : q < 6) (hM : M.1.1 2 = nI (q + 1)) : f_X4_undo (hm G 133 M) 133 = some (nI q, hm G 133 (wZ (mS (mS M 0 0) 2 (nI q)) (unF (M.2 3) (M.2 1) q 0))) := by
  have es : nI (q + 1) - 1 = nI q := by rw [← nI_1]; exact Int32.add_sub_cancel _ _
  have hz : (0 : Int32) = nI 0 := rfl
  have hle : ¬ nI (q + 1) ≤ 0 := by
    rw [hz]
    exact nI_ge (by omega) (by omega)
  have hl0 : (0 : Int32) ≤ 0 := by decide
  unfold f_X4_undo
  rw [m_I2 (by decide), hM, Option.bind_some, if_neg hle, z_undo13 hM, if_pos hl0, es]
  have t := z_undo37 (G := G) (b := 133) (by decide) hq 228 0 FU (mS (mS M 0 0) 2 (nI q)) rfl (by omega) (by rw [FU_eq]; omega)
  rw [← hz] at t
  exact t
theorem c_undo0 (hS : T.1.1 3 = nI 0) : f_X3_undo (HT T) 0 = some (.inl (1, HT T)) := by
  unfold f_X3_undo
  rw [t_I3, hS, Option.bind_some, if_neg (by decide)]
theorem c_undo {q : Nat} (hq : q < 6) (hS : T.1.1 3 = nI (q + 1)) (hσ : σOK T.1.2.1) : f_X3_undo (HT T) 0 = some (.inr (nI q, HT (uP (uS T 3 (nI q)) 0 (cpP (T.1.2.2 (T.1.2.1 q)) (T.1.2.2 0))))) := by
  have hr := hσ.1 q hq
  have es : nI (q + 1) - 1 = nI q := by rw [← nI_1]; exact Int32.add_sub_cancel _ _
  have hz : (0 : Int32) = nI 0 := rfl
  have hlt : (0 : Int32) < nI (q + 1) := by
    rw [hz, nI_ltI (by omega) (by omega)]
    omega
  have hc := t_copy (uS T 3 (nI q)) (i := T.1.2.1 q) (j := 0) hr.2 (by decide) (by omega)
  rw [show bs 0 = 1 from rfl] at hc
  unfold f_X3_undo
  rw [t_I3, hS, Option.bind_some, if_pos hlt]
  simp only [obs, t_I3, hS, es, t_P3, t_R0, t_R2]
  rw [show (uS T 3 (nI q)).1.1 3 = nI q from rfl, t_s _ q hq]
  simp only [obs, q_v1]
  rw [show (uS T 3 (nI q)).1.2.1 q = T.1.2.1 q from rfl, hc]
  simp only [obs, t_I3]
  rfl
def undoC (T : TS) (q : Nat) : TS := uO (uP (uS T 3 (nI q)) 0 (cpP (T.1.2.2 (T.1.2.1 q)) (T.1.2.2 0))) (vp_updL T.2.2.2 0 (Int32.toInt64 (nI q)))
def undoM (M : MV) (q : Nat) : MV := wZ (mS (mS M 0 0) 2 (nI q)) (unF (M.2 3) (M.2 1) q 0)
theorem undo_o (T : TS) (q : Nat) : (uM (undoC T q) (undoM T.2.2.1 q)).2.2.2 0 = Int32.toInt64 (nI q) := by
  simp [uM, undoC, uO, vp_updL]
theorem undo_INV {T : TS} {q m : Nat} (h : INV T m (q + 1)) {n : Nat} (g1 : RZ n (T.1.2.2 (T.1.2.1 q)) (fun k => T.2.2.1.2 3 (228 * q + k))) (g2 : AZ n (T.1.2.2 (T.1.2.1 q))) : INV (uM (undoC T q) (undoM T.2.2.1 q)) n q := by
  obtain ⟨hs, hS, hM, hσ, hz, ha, hv, hbf⟩ := h
  refine ⟨by omega, rfl, rfl, hσ, cp_RZ _ (RZ_congr (fun k hk => ?_) g1), cp_AZ _ g1.1 g2, fun i hi => ?_, hbf⟩
  · show unF (T.2.2.1.2 3) (T.2.2.1.2 1) q 0 k = _
    unfold unF
    rw [if_pos ⟨Nat.zero_le _, hk⟩]
  · obtain ⟨m2, t1, t2⟩ := hv i (by omega)
    have hi2 := hσ.1 i (by omega)
    refine ⟨m2, ?_⟩
    have e : (uM (undoC T q) (undoM T.2.2.1 q)).1.2.2 (T.1.2.1 i) = T.1.2.2 (T.1.2.1 i) := if_neg (by omega)
    show RZ m2 ((uM (undoC T q) (undoM T.2.2.1 q)).1.2.2 (T.1.2.1 i)) _ ∧ AZ m2 ((uM (undoC T q) (undoM T.2.2.1 q)).1.2.2 (T.1.2.1 i))
    rw [e]
    exact ⟨t1, t2⟩
theorem op_undo {n s : Nat} (h : INV T n s) : OKc T (f_L_undo (HT T) 0 140) (fun h => vcall h 4 133 (f_X4_undo h 133)) := by
  have h' := h
  obtain ⟨hs, hS, hM, hσ, hz, ha, hv, hbf⟩ := h'
  unfold f_L_undo
  rw [t_v3]
  by_cases h0 : s = 0
  · subst h0
    rw [c_undo0 hS]
    refine OK_no h (c := 1) (by decide) rfl (fun G => ?_)
    exact z_undo0 hM
  · obtain ⟨q, rfl⟩ : ∃ q, s = q + 1 := ⟨s - 1, by omega⟩
    have hq : q < 6 := by omega
    rw [c_undo hq hS hσ]
    obtain ⟨m, g1, g2⟩ := hv q (by omega)
    refine ⟨undoC T q, 0, ?_, uM (undoC T q) (undoM T.2.2.1 q), nI q, ?_, rfl, fun _ => ?_, m, q, ?_⟩
    · show (some (Sum.inr (nI q, HT (uP (uS T 3 (nI q)) 0 (cpP (T.1.2.2 (T.1.2.1 q)) (T.1.2.2 0)))))).bind _ = _
      rw [obs, Sum.elim_inr, t_sL, obs]
      rfl
    · show vcall (HT (undoC T q)) 4 133 (f_X4_undo (HT (undoC T q)) 133) = _
      rw [t_vm, ← hm_T, HT_m (undoC T q)]
      exact z_undo (M := T.2.2.1) hq hM
    · exact undo_o T q
    · exact undo_INV h g1 g2
