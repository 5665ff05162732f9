/-! what is only read: entries of the log -/
variable {T : TS} {G : Nat → MC} {b : Nat}
theorem z_ent25 (hb : b ≤ 134) {M : MV} (x k c : Int32) : b_X4_entry_25 (hm G b M) b x k b c = if c ≤ 0 then (f_X4_entryNow (hm G b (mS M 0 c)) b x k).bind (fun v => some (v, hm G b (mS M 0 c))) else some (0, hm G b (mS M 0 c)) := by
  unfold b_X4_entry_25 b_X4_entry_45
  simp only [m_P0 hb, m_I0 hb, m_v hb, obs, mS_0]
theorem z_entryNow (hb : b ≤ 134) {M : MV} {l j i : Nat} (hz : M.2 1 3 = nI l) (hl : l ≤ 16) (hj : j < 16) (hi : i < 4) : f_X4_entryNow (hm G b M) b (nI j) (nI i) = some (if l ≤ j then -1 else M.2 1 (4 + 4 * (l - 1 - j) + i)) := by
  unfold f_X4_entryNow b_X4_entryNow_35
  rw [m_R1 hb, obs, m_a1 hb, b228_3, obs, hz]
  by_cases h : l ≤ j
  · rw [if_pos (nI_le h (by omega)), if_pos h]
  · rw [if_neg (nI_ge (by omega) (by omega)), if_neg h, obs, obs, m_a1 hb, b228_3, obs, hz]
    rw [show (1 : Int32) = nI 1 from rfl, pk_sub (by omega), pk_sub (by omega), ix4l, ix4p, nI_add, m_a1 hb, bd_nI (by omega) (by decide), obs]
theorem op_entry {n s : Nat} (h : INV T n s) (x k : Int32) : OKc T (f_L_entry (HT T) 0 x k 140) (fun h => vcall h 4 133 (f_X4_entry h 133 x k)) := by
  have h' := h
  obtain ⟨hs, hS, hM, hσ, hz, ha, hv, hbf⟩ := h'
  have hz' := hz
  obtain ⟨hn8, h0, z0, z1, z2, hrow, hw, hl, hwn, hok⟩ := hz'
  have hb : 133 ≤ 134 := by decide
  obtain ⟨l, hl16, l1, l2, l3⟩ := hl
  have l1 : (T.1.2.2 0).1 4 = nI l := l1
  unfold f_L_entry
  rw [t_v3]
  rcases rail_cases (n := 4) (by decide) k with ⟨i, hi, rfl⟩ | hk
  · have hk0 : ¬ nI i < 0 := by simp only [nI_pos (show i < 2 ^ 31 by omega), not_false_eq_true]
    have hk4 : nI i < 4 := by rw [show (4 : Int32) = nI 4 from rfl, nI_ltI (by omega) (by omega)]; exact hi
    have hin : ¬ (nI i < 0 ∨ (3 : Int32) < nI i) := in_of (n := 4) (p := 3) (by decide) rfl hi
    by_cases hx0 : x < 0
    · have e1 : f_X3_entry (HT T) 0 x (nI i) = some (.inl (0, HT T)) := by
        unfold f_X3_entry b_X3_entry_19
        rw [if_pos hx0]
      rw [e1]
      refine OK_no h (c := 1) (by decide) rfl (fun G => ?_)
      unfold f_X4_entry b_X4_entry_24
      rw [z_within, obs, if_pos (Or.inl hx0), if_pos rfl, z_ent25 hb, if_neg (by decide)]
    · obtain ⟨j, hj, rfl⟩ := nI_of hx0
      by_cases hj16 : j < 16
      · have c16 : ¬ (16 : Int32) ≤ nI j := by
          rw [show (16 : Int32) = nI 16 from rfl]
          exact nI_ge hj16 (by decide)
        have hxin : ¬ (nI j < 0 ∨ (15 : Int32) < nI j) := in_of (n := 16) (p := 15) (by decide) rfl hj16
        have e1 : f_X3_entry (HT T) 0 (nI j) (nI i) = some (.inr (if l ≤ j then -1 else (T.1.2.2 0).2 14 (4 * j + i), HT T)) := by
          unfold f_X3_entry b_X3_entry_59
          rw [if_neg hx0, if_neg c16, if_neg hk0, if_pos hk4, t_R0, obs, q_R14, obs, q_lI, obs, l1]
          by_cases hlj : l ≤ j
          · rw [if_pos (nI_le hlj hj), if_pos hlj]
          · rw [if_neg (nI_ge (by omega) (by omega)), if_neg hlj, obs, q_R14, obs, q_v0]
            unfold f_X0_numberAt
            rw [q_lR, obs, q_a14, ix4, nI_add, bd_nI (by omega) (by decide), obs, obs, Nat.mul_comm]
        rw [e1]
        refine OK_see h (a := if l ≤ j then -1 else (T.1.2.2 0).2 14 (4 * j + i)) ?_ (fun G => ?_)
        · rw [obs, Sum.elim_inr, t_sL, obs]
        · unfold f_X4_entry
          rw [z_within, obs, if_neg hxin, if_neg n10, z_within, obs, if_neg hin, if_neg n10, z_ent25 hb, if_pos (by decide), z_entryNow hb (M := mS T.2.2.1 0 0) l2 hl16 hj16 hi, obs]
          by_cases hlj : l ≤ j
          · rw [if_pos hlj, if_pos hlj]
          · rw [if_neg hlj, if_neg hlj]
            have e := l3 j i (by omega) hi
            rw [show (lgP (T.1.2.2 0)).2 = (T.1.2.2 0).2 14 from rfl] at e
            rw [e]
            rfl
      · have c16 : (16 : Int32) ≤ nI j := by
          rw [show (16 : Int32) = nI 16 from rfl]
          exact nI_le (by omega) hj
        have hxo : nI j < 0 ∨ (15 : Int32) < nI j := out_of (n := 16) (p := 15) (by decide) (by decide) (Or.inr c16) rfl
        have e1 : f_X3_entry (HT T) 0 (nI j) (nI i) = some (.inl (0, HT T)) := by
          unfold f_X3_entry b_X3_entry_19
          rw [if_neg hx0, if_pos c16]
        rw [e1]
        refine OK_no h (c := 1) (by decide) rfl (fun G => ?_)
        unfold f_X4_entry b_X4_entry_24
        rw [z_within, obs, if_pos hxo, if_pos rfl, z_ent25 hb, if_neg (by decide)]
  · have e1 : f_X3_entry (HT T) 0 x k = some (.inl (0, HT T)) := by
      unfold f_X3_entry b_X3_entry_19
      by_cases hx0 : x < 0
      · rw [if_pos hx0]
      · rw [if_neg hx0]
        by_cases hx1 : (16 : Int32) ≤ x
        · rw [if_pos hx1]
        · rw [if_neg hx1]
          by_cases hk0 : k < 0
          · rw [if_pos hk0]
          · rw [if_neg hk0, if_neg]
            rcases hk with hk | hk
            · exact absurd hk hk0
            · rw [Int32.not_lt]; exact hk
    rw [e1]
    refine OK_no h (c := 1) (by decide) rfl (fun G => ?_)
    have hout : k < 0 ∨ (3 : Int32) < k := out_of (n := 4) (p := 3) (by decide) (by decide) hk rfl
    unfold f_X4_entry b_X4_entry_24
    rw [z_within, obs]
    by_cases hx : x < 0 ∨ 15 < x
    · rw [if_pos hx, if_pos rfl, z_ent25 hb, if_neg (by decide)]
    · rw [if_neg hx, if_neg n10, z_within, obs, if_pos hout, if_pos rfl, z_ent25 hb, if_neg (by decide)]
