/-! the buffer: append, clear -/
variable {T : TS}
theorem gt_iff {x y : Int32} : ¬ x < y ↔ y ≤ x := Int32.not_lt
theorem z_app30 {G : Nat → MC} {M : MV} (x c : Int32) {n : Nat} (hn : n < 60) (h4 : M.1.1 4 = nI n) : b_X4_append_30 (hm G 133 M) 133 x 133 c = if c ≤ 0 then some (nI (n + 1), hm G 133 (mS (mA (mS M 0 c) 5 n x) 4 (nI (n + 1)))) else some (0, hm G 133 (mS M 0 c)) := by
  have hb : 133 ≤ 134 := by decide
  unfold b_X4_append_30
  rw [m_P0 hb, obs, m_I0 hb, obs, mS_0]
  by_cases hc : c ≤ 0
  · rw [if_pos hc, if_pos hc, m_R5 hb, obs, m_I4 hb, obs, show (mS M 0 c).1.1 4 = nI n from h4, m_s5 hb, bd_nI (by omega) (by decide), obs, m_I4 hb, obs, show (mA (mS M 0 c) 5 n x).1.1 4 = nI n from h4, nI_1, m_P4 hb, obs, m_I4 hb, obs]
    rfl
  · rw [if_neg hc, if_neg hc]
theorem z_app30' {G : Nat → MC} {M : MV} (x c : Int32) (hc : ¬ c ≤ 0) : b_X4_append_30 (hm G 133 M) 133 x 133 c = some (0, hm G 133 (mS M 0 c)) := by
  have hb : 133 ≤ 134 := by decide
  unfold b_X4_append_30
  rw [m_P0 hb, obs, m_I0 hb, obs, mS_0, if_neg hc]
theorem op_append {n s : Nat} (h : INV T n s) (x : Int32) : OKc T (f_L_append (HT T) 0 x 140) (fun h => vcall h 4 133 (f_X4_append h 133 x)) := by
  have h' := h
  obtain ⟨hs, hS, hM, hσ, hz, ha, hv, hbf⟩ := h'
  obtain ⟨l, b1, b2, b3, b4⟩ := hbf
  have hb : 133 ≤ 134 := by decide
  unfold f_L_append
  rw [t_v3]
  by_cases hx : x < 33 ∨ 126 < x
  · have e1 : f_X3_append (HT T) 0 x = some (.inl (0, HT T)) := by
      unfold f_X3_append b_X3_append_12
      by_cases h1 : x < 33
      · rw [if_pos h1]
      · rw [if_neg h1, if_neg (by rw [Int32.not_le]; exact hx.resolve_left h1)]
    rw [e1]
    refine OK_no h (c := 1) (by decide) rfl (fun G => ?_)
    unfold f_X4_append
    rw [z_within, obs, if_pos hx, if_pos rfl, z_app30' _ _ (by decide)]
  · have h1 : ¬ x < 33 := fun hh => hx (Or.inl hh)
    have h2 : x ≤ 126 := by rw [← Int32.not_lt]; exact fun hh => hx (Or.inr hh)
    by_cases hl : l < 60
    · have e1 : f_X3_append (HT T) 0 x = some (.inr (nI (l + 1), HT (uS (uB T (upd T.2.1.1 l x)) 5 (nI (l + 1))))) := by
        unfold f_X3_append
        rw [if_neg h1, if_pos h2, t_I5, obs, b2, if_pos (by rw [show (60 : Int32) = nI 60 from rfl, nI_ltI (by omega) (by decide)]; exact hl), t_R4, obs, obs, t_sB, bd_nI hl (by decide), obs, t_I5, obs, show (uB T (upd T.2.1.1 l x)).1.1 5 = nI l from b2, nI_1, t_P5, obs, t_I5, obs]
        rfl
      rw [e1]
      refine ⟨uO (uS (uB T (upd T.2.1.1 l x)) 5 (nI (l + 1))) (vp_updL T.2.2.2 0 (Int32.toInt64 (nI (l + 1)))), 0, ?_, uM (uO (uS (uB T (upd T.2.1.1 l x)) 5 (nI (l + 1))) (vp_updL T.2.2.2 0 (Int32.toInt64 (nI (l + 1))))) (mS (mA (mS T.2.2.1 0 0) 5 l x) 4 (nI (l + 1))), nI (l + 1), ?_, rfl, fun _ => ?_, n, s, hs, hS, hM, hσ, hz, ha, hv, l + 1, by omega, rfl, rfl, fun i hi => ?_⟩
      · rw [obs, Sum.elim_inr, t_sL, obs]
        rfl
      · show vcall (HT _) 4 133 (f_X4_append (HT _) 133 x) = _
        rw [t_vm, ← hm_T, HT_m (uO (uS (uB T (upd T.2.1.1 l x)) 5 (nI (l + 1))) (vp_updL T.2.2.2 0 (Int32.toInt64 (nI (l + 1)))))]
        show f_X4_append (hm _ 133 T.2.2.1) 133 x = _
        unfold f_X4_append
        rw [z_within, obs, if_neg hx, if_neg n10, m_I4 hb, obs, b3, if_neg (by rw [show (60 : Int32) = nI 60 from rfl, nI_eq (by omega) (by decide)]; omega), z_app30 _ _ hl b3, if_pos (by decide)]
      · simp [uM, uO, vp_updL]
      · show upd T.2.1.1 l x i = upd (T.2.2.1.2 5) l x i
        by_cases hil : i = l
        · rw [hil, upd_s, upd_s]
        · rw [upd_n hil, upd_n hil]
          exact b4 i (by omega)
    · have hl60 : l = 60 := by omega
      have e1 : f_X3_append (HT T) 0 x = some (.inl (1, HT T)) := by
        unfold f_X3_append
        rw [if_neg h1, if_pos h2, t_I5, obs, b2, if_neg (by rw [show (60 : Int32) = nI 60 from rfl, nI_ltI (by omega) (by decide)]; exact hl)]
      rw [e1]
      refine OK_no h (c := 2) (by decide) rfl (fun G => ?_)
      unfold f_X4_append
      rw [z_within, obs, if_neg hx, if_neg n10, m_I4 hb, obs, b3, hl60, if_pos (show nI 60 = (60 : Int32) from rfl), z_app30' _ _ (by decide)]
theorem op_clearBuffer {n s : Nat} (h : INV T n s) : OKv T (f_X3_clearBuffer (HT T) 0) (fun h => vcall h 4 133 (f_X4_clearBuffer h 133)) := by
  obtain ⟨hs, hS, hM, hσ, hz, ha, hv, hbf⟩ := h
  obtain ⟨l, b1, b2, b3, b4⟩ := hbf
  have hb : 133 ≤ 134 := by decide
  refine ⟨uS T 5 0, nI l, ?_, uM (uS T 5 0) (mS (mS T.2.2.1 0 0) 4 0), ?_, n, s, hs, hS, hM, hσ, hz, ha, hv, 0, by omega, rfl, rfl, fun i hi => absurd hi (by omega)⟩
  · unfold f_X3_clearBuffer
    rw [t_I5, obs, t_P5, obs, b2]
  · show vcall (HT _) 4 133 (f_X4_clearBuffer (HT _) 133) = _
    rw [t_vm, ← hm_T, HT_m (uS T 5 0)]
    show f_X4_clearBuffer (hm _ 133 T.2.2.1) 133 = _
    unfold f_X4_clearBuffer
    rw [m_P0 hb, obs, m_I4 hb, obs, m_P4 hb, obs, show (mS T.2.2.1 0 0).1.1 4 = nI l from b3]
