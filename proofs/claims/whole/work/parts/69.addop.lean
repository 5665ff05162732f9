/-! commands: a rail is added -/
theorem LRel_mid {l : LG} {z z' : Nat → Int32} (h : ∀ i, 3 ≤ i → i < 68 → z' i = z i) (hl : LRel l z) : LRel l z' := by
  obtain ⟨n, hn, h1, h2, h3⟩ := hl
  refine ⟨n, hn, h1, (h 3 (by omega) (by omega)).trans h2, fun j i hj hi => ?_⟩
  rw [h3 j i hj hi, h _ (by omega) (by omega)]
theorem br_out (z : Nat → Int32) (n : Nat) (x1 x2 x3 x4 : Int32) {i : Nat} (h0 : i ≠ 0) (h : i < 68 + 20 * n) : brZ z n x1 x2 x3 x4 i = z i := by
  unfold brZ
  rw [if_neg h0, if_neg (by omega)]
theorem RowOK_add {n : Nat} {x1 x2 x3 x4 : Int32} (h1 : ¬ (x1 < roL 0 ∨ roM 0 < x1)) (h2 : ¬ (x2 < roL 1 ∨ roM 1 < x2)) (h3 : ¬ (x3 < roL 2 ∨ roM 2 < x3)) (h4 : x4.toBitVec.toNat < 2 ^ n) : RowOK n (addR x1 x2 x3 x4) := by
  have g : ∀ (x a c : Int32), ¬ (x < a ∨ c < x) → a.toInt ≤ x.toInt ∧ x.toInt ≤ c.toInt := by
    intro x a c h
    have h1 : ¬ x < a := fun hh => h (Or.inl hh)
    have h2 : ¬ c < x := fun hh => h (Or.inr hh)
    rw [Int32.lt_iff_toInt_lt] at h1 h2
    omega
  have c3 : 50 ≤ (90 : Int32).toInt ∧ (90 : Int32).toInt ≤ 100 := by decide
  have c10 : 0 ≤ (0 : Int32).toInt ∧ (0 : Int32).toInt ≤ 5000 := by decide
  exact ⟨g _ _ _ h1, g _ _ _ h2, g _ _ _ h3, c3, h4, Or.inl rfl, c10, c10.1, Or.inl rfl⟩
theorem RZ_add {n : Nat} {P : PV} {z : Nat → Int32} (h : RZ n P z) (hn : n < 8) {x1 x2 x3 x4 : Int32} (h1 : ¬ (x1 < roL 0 ∨ roM 0 < x1)) (h2 : ¬ (x2 < roL 1 ∨ roM 1 < x2)) (h3 : ¬ (x3 < roL 2 ∨ roM 2 < x3)) (h4 : x4.toBitVec.toNat < 2 ^ n) : RZ (n + 1) (add2 P n x1 x2 x3 x4) (brZ z n x1 x2 x3 x4) := by
  obtain ⟨hn8, h0, z0, z1, z2, hrow, hw, hl, hwn, hok⟩ := h
  have hp : 2 ^ n ≤ 2 ^ (n + 1) := Nat.pow_le_pow_right (by decide) (by omega)
  refine ⟨by omega, rfl, rfl, (br_out _ _ _ _ _ _ (by decide) (by omega)).trans z1, (br_out _ _ _ _ _ _ (by decide) (by omega)).trans z2, fun q hq => ?_, fun q hq => ?_, ?_, Nat.lt_of_lt_of_le hwn hp, fun q hq => ?_⟩
  · rw [add_row]
    by_cases hqn : q = n
    · subst hqn
      rw [sr_at]
      funext k
      by_cases hk : k = 8 ∨ 20 ≤ k
      · rw [rz_out hk]
        rcases hk with rfl | hk
        · rfl
        · obtain ⟨j, rfl⟩ : ∃ j, k = j + 20 := ⟨k - 20, by omega⟩
          simp [addR]
      · rw [rz_in hk, br_in _ _ _ _ _ _ (by omega)]
    · rw [sr_ne _ _ hqn, hrow q (by omega)]
      funext k
      by_cases hk : k = 8 ∨ 20 ≤ k
      · rw [rz_out hk, rz_out hk]
      · rw [rz_in hk, rz_in hk, br_out _ _ _ _ _ _ (by omega) (by omega)]
  · show brZ z n x1 x2 x3 x4 (68 + 20 * q + 8) = if tb (P.1 3) q = true then 1 else 0
    by_cases hqn : q = n
    · subst hqn
      have ht : tb (P.1 3) q = false := Nat.testBit_lt_two_pow hwn
      rw [br_in _ _ _ _ _ _ (by decide), ht]
      rfl
    · rw [br_out _ _ _ _ _ _ (by omega) (by omega)]
      exact hw q (by omega)
  · exact LRel_mid (fun i h3 h68 => br_out _ _ _ _ _ _ (by omega) (by omega)) hl
  · rw [add_row]
    by_cases hqn : q = n
    · subst hqn
      rw [sr_at]
      exact RowOK_add h1 h2 h3 h4
    · rw [sr_ne _ _ hqn]
      exact hok q (by omega)
theorem AZ_add {n : Nat} {P : PV} (h : AZ n P) (x1 x2 x3 x4 : Int32) : AZ (n + 1) (add2 P n x1 x2 x3 x4) := by
  refine ⟨h.1, fun q hq => ?_⟩
  rw [add_row]
  by_cases hqn : q = n
  · subst hqn
    rw [sr_at]
    exact ⟨by show 0 ≤ (0 : Int32).toInt; decide, h.1.1⟩
  · rw [sr_ne _ _ hqn]
    exact h.2 q (by omega)
variable {G : Nat → MC} {T : TS}
theorem q_add {n : Nat} (h0 : (T.1.2.2 0).1 0 = nI n) (hn : n < 8) (x1 x2 x3 x4 : Int32) : f_X1_add (HT T) 1 x1 x2 x3 x4 = some (HT (uP T 0 (add2 (T.1.2.2 0) n x1 x2 x3 x4))) := by
  rw [HT0, a_add (by decide) h0 hn, hp0]
theorem z_add72 {M : MV} (x1 x2 x3 x4 c : Int32) : b_X4_addRail_72 (hm G 133 M) 133 x1 x2 x3 x4 133 c = if c ≤ 0 then (f_X4_save (hm G 133 (mS M 0 c)) 133).bind (fun h3 => (vcall h3 4 133 (f_X4_bring h3 133 x1 x2 x3 x4)).bind fun h4 => (hR h4 4 133 1).bind fun v5 => (aI h4 v5 (0 : Int32)).bind fun v6 => some ((v6 - (1 : Int32)), h4)) else some (0, hm G 133 (mS M 0 c)) := by
  simp only [b_X4_addRail_72, m_P0 (show 133 ≤ 134 by decide), m_I0 (show 133 ≤ 134 by decide), m_v (show 133 ≤ 134 by decide), obs, mS_0]
theorem z_bring {M : MV} {n : Nat} (hn : n < 8) (hz : M.2 1 0 = nI n) (x1 x2 x3 x4 : Int32) : f_X4_bring (hm G 133 M) 133 x1 x2 x3 x4 = some (hm G 133 (wZ M (brZ (M.2 1) n x1 x2 x3 x4))) := by
  have hb : 133 ≤ 134 := by decide
  have e0 : zeZ (M.2 1) n 0 = M.2 1 := by
    funext i
    exact if_neg (by omega)
  have t := z_bringLoop (G := G) hb (M := M) hn hz x1 x2 x3 x4 20 0 FU (by omega) (by rw [FU_eq]; omega)
  rw [e0, wZ_self] at t
  unfold f_X4_bring
  rw [m_R1 hb, obs, m_a1 hb, b228_0, obs, hz]
  exact t
def addBad (n : Nat) (x1 x2 x3 x4 : Int32) : Prop := (x1 < roL 0 ∨ roM 0 < x1) ∨ (x2 < roL 1 ∨ roM 1 < x2) ∨ (x3 < roL 2 ∨ roM 2 < x3) ∨ ¬ x4.toBitVec.toNat < 2 ^ n
theorem c_addBad {n : Nat} (hn8 : n ≤ 8) (h0 : (T.1.2.2 0).1 0 = nI n) {x1 x2 x3 x4 : Int32} (h : addBad n x1 x2 x3 x4) : f_X3_addRail (HT T) 0 x1 x2 x3 x4 = some (.inl (0, HT T)) := by
  have r0 := c_range (HT T) (p := 0) (by decide) x1
  have r1 := c_range (HT T) (p := 1) (by decide) x2
  have r2 := c_range (HT T) (p := 2) (by decide) x3
  have r3 : f_X3_areRails (HT T) 0 x4 = some (if x4.toBitVec.toNat < 2 ^ n then 1 else 0) := by
    simp only [f_X3_areRails, t_R0, q_I0, h0, obs, c_below _ _ hn8]
    split <;> rfl
  rw [show nI 0 = (0 : Int32) from rfl] at r0
  rw [show nI 1 = (1 : Int32) from rfl] at r1
  rw [show nI 2 = (2 : Int32) from rfl] at r2
  unfold f_X3_addRail b_X3_addRail_24
  rw [r0, obs]
  by_cases a0 : x1 < roL 0 ∨ roM 0 < x1
  · rw [if_pos a0, if_pos rfl]
  rw [if_neg a0, if_neg n10, r1, obs]
  by_cases a1 : x2 < roL 1 ∨ roM 1 < x2
  · rw [if_pos a1, if_pos rfl]
  rw [if_neg a1, if_neg n10, r2, obs]
  by_cases a2 : x3 < roL 2 ∨ roM 2 < x3
  · rw [if_pos a2, if_pos rfl]
  rw [if_neg a2, if_neg n10, t_v3, r3, obs]
  have a3 : ¬ x4.toBitVec.toNat < 2 ^ n := by
    rcases h with h | h | h | h
    · exact absurd h a0
    · exact absurd h a1
    · exact absurd h a2
    · exact h
  rw [if_neg a3, if_pos rfl]
theorem c_addOk {n s : Nat} (hn8 : n ≤ 8) (hs : s ≤ 6) (hS : T.1.1 3 = nI s) (hσ : σOK T.1.2.1) (h0 : (T.1.2.2 0).1 0 = nI n) {x1 x2 x3 x4 : Int32} (h : ¬ addBad n x1 x2 x3 x4) : f_X3_addRail (HT T) 0 x1 x2 x3 x4 = if n < 8 then some (.inr (nI n, HT (uP (svT T s) 0 (add2 (T.1.2.2 0) n x1 x2 x3 x4)))) else some (.inl (1, HT T)) := by
  have r0 := c_range (HT T) (p := 0) (by decide) x1
  have r1 := c_range (HT T) (p := 1) (by decide) x2
  have r2 := c_range (HT T) (p := 2) (by decide) x3
  have r3 : f_X3_areRails (HT T) 0 x4 = some (if x4.toBitVec.toNat < 2 ^ n then 1 else 0) := by
    simp only [f_X3_areRails, t_R0, q_I0, h0, obs, c_below _ _ hn8]
    split <;> rfl
  rw [show nI 0 = (0 : Int32) from rfl] at r0
  rw [show nI 1 = (1 : Int32) from rfl] at r1
  rw [show nI 2 = (2 : Int32) from rfl] at r2
  have a0 : ¬ (x1 < roL 0 ∨ roM 0 < x1) := fun hh => h (Or.inl hh)
  have a1 : ¬ (x2 < roL 1 ∨ roM 1 < x2) := fun hh => h (Or.inr (Or.inl hh))
  have a2 : ¬ (x3 < roL 2 ∨ roM 2 < x3) := fun hh => h (Or.inr (Or.inr (Or.inl hh)))
  have a3 : x4.toBitVec.toNat < 2 ^ n := Classical.not_not.1 (fun hh => h (Or.inr (Or.inr (Or.inr hh))))
  unfold f_X3_addRail b_X3_addRail_24
  rw [r0, obs, if_neg a0, if_neg n10, r1, obs, if_neg a1, if_neg n10, r2, obs, if_neg a2, if_neg n10, t_v3, r3, obs, if_pos a3, if_neg n10, t_R0, obs, q_I0, obs, h0]
  by_cases h8 : n < 8
  · have hlt : nI n < (8 : Int32) := by
      rw [show (8 : Int32) = nI 8 from rfl, nI_ltI (by omega) (by omega)]
      exact h8
    rw [if_pos h8, if_pos hlt, t_v3, t_save T hs hS hσ, obs, t_R0, obs, q_v1, q_add (by rw [sv_pl T hσ]; exact h0) h8, obs, t_R0, obs, q_I0, obs, uP_pl, sv_pl T hσ]
    rw [show (add2 (T.1.2.2 0) n x1 x2 x3 x4).1 0 = nI (n + 1) from rfl]
    rw [show nI (n + 1) - 1 = nI n from by rw [← nI_1]; exact Int32.add_sub_cancel _ _]
  · rw [if_neg h8, if_neg]
    rw [show (8 : Int32) = nI 8 from rfl, nI_ltI (by omega) (by omega)]
    exact h8
theorem z_addBad {M : MV} {n : Nat} (hn8 : n ≤ 8) (h0 : M.2 1 0 = nI n) {x1 x2 x3 x4 : Int32} (h : addBad n x1 x2 x3 x4) : f_X4_addRail (hm G 133 M) 133 x1 x2 x3 x4 = some (0, hm G 133 (mS M 0 1)) := by
  have hb : 133 ≤ 134 := by decide
  have r0 := z_value (hm G 133 M) (p := 0) (by decide) x1
  have r1 := z_value (hm G 133 M) (p := 1) (by decide) x2
  have r2 := z_value (hm G 133 M) (p := 2) (by decide) x3
  rw [show nI 0 = (0 : Int32) from rfl] at r0
  rw [show nI 1 = (1 : Int32) from rfl] at r1
  rw [show nI 2 = (2 : Int32) from rfl] at r2
  have e43 : b_X4_addRail_43 (hm G 133 M) 133 x1 x2 x3 x4 = some (0, hm G 133 (mS M 0 1)) := by
    unfold b_X4_addRail_43 b_X4_addRail_44
    rw [if_pos rfl, z_add72, if_neg (by decide)]
  unfold f_X4_addRail
  rw [r0, obs, e43]
  by_cases a0 : x1 < roL 0 ∨ roM 0 < x1
  · rw [if_pos a0, if_pos rfl]
  rw [if_neg a0, if_neg n10, r1, obs]
  by_cases a1 : x2 < roL 1 ∨ roM 1 < x2
  · rw [if_pos a1, if_pos rfl]
  rw [if_neg a1, if_neg n10, r2, obs]
  by_cases a2 : x3 < roL 2 ∨ roM 2 < x3
  · rw [if_pos a2, if_pos rfl]
  rw [if_neg a2, if_neg n10, m_R1 hb, obs, m_a1 hb, b228_0, obs, h0, m_v hb, z_mask _ _ _ hn8, obs]
  have a3 : ¬ x4.toBitVec.toNat < 2 ^ n := by
    rcases h with h | h | h | h
    · exact absurd h a0
    · exact absurd h a1
    · exact absurd h a2
    · exact h
  rw [if_neg a3, if_pos rfl]
theorem z_addOk {M : MV} {n s : Nat} (hs : s ≤ 6) (hM : M.1.1 2 = nI s) (hn8 : n ≤ 8) (h0 : M.2 1 0 = nI n) {x1 x2 x3 x4 : Int32} (h : ¬ addBad n x1 x2 x3 x4) : f_X4_addRail (hm G 133 M) 133 x1 x2 x3 x4 = if n < 8 then some (nI n, hm G 133 (wZ (sM M s) (brZ (M.2 1) n x1 x2 x3 x4))) else some (0, hm G 133 (mS M 0 2)) := by
  have hb : 133 ≤ 134 := by decide
  have r0 := z_value (hm G 133 M) (p := 0) (by decide) x1
  have r1 := z_value (hm G 133 M) (p := 1) (by decide) x2
  have r2 := z_value (hm G 133 M) (p := 2) (by decide) x3
  rw [show nI 0 = (0 : Int32) from rfl] at r0
  rw [show nI 1 = (1 : Int32) from rfl] at r1
  rw [show nI 2 = (2 : Int32) from rfl] at r2
  have a0 : ¬ (x1 < roL 0 ∨ roM 0 < x1) := fun hh => h (Or.inl hh)
  have a1 : ¬ (x2 < roL 1 ∨ roM 1 < x2) := fun hh => h (Or.inr (Or.inl hh))
  have a2 : ¬ (x3 < roL 2 ∨ roM 2 < x3) := fun hh => h (Or.inr (Or.inr (Or.inl hh)))
  have a3 : x4.toBitVec.toNat < 2 ^ n := Classical.not_not.1 (fun hh => h (Or.inr (Or.inr (Or.inr hh))))
  unfold f_X4_addRail
  rw [r0, obs, if_neg a0, if_neg n10, r1, obs, if_neg a1, if_neg n10, r2, obs, if_neg a2, if_neg n10, m_R1 hb, obs, m_a1 hb, b228_0, obs, h0, m_v hb, z_mask _ _ _ hn8, obs, if_pos a3, if_neg n10]
  unfold b_X4_addRail_44
  rw [if_neg n10, m_R1 hb, obs, m_a1 hb, b228_0, obs, h0]
  by_cases h8 : n < 8
  · have hne : ¬ nI n = (8 : Int32) := by
      rw [show (8 : Int32) = nI 8 from rfl, nI_eq (by omega) (by omega)]
      omega
    rw [if_pos h8, if_neg hne, z_add72, if_pos (by decide), z_saveT hb hs hM, obs, m_v hb, z_bring h8 (by rw [sM_1]; exact h0), obs, m_R1 hb, obs, m_a1 hb, b228_0, obs, wZ_z, sM_1]
    rw [show brZ (M.2 1) n x1 x2 x3 x4 0 = nI (n + 1) from rfl]
    rw [show nI (n + 1) - 1 = nI n from by rw [← nI_1]; exact Int32.add_sub_cancel _ _]
  · have he : nI n = (8 : Int32) := by
      rw [show n = 8 by omega]
      rfl
    rw [if_neg h8, if_pos he, z_add72, if_neg (by decide)]
theorem op_addRail {n s : Nat} (h : INV T n s) (x1 x2 x3 x4 : Int32) : OKc T (f_L_addRail (HT T) 0 x1 x2 x3 x4 140) (fun h => vcall h 4 133 (f_X4_addRail h 133 x1 x2 x3 x4)) := by
  have h' := h
  obtain ⟨hs, hS, hM, hσ, hz, ha, hv, hbf⟩ := h'
  have hn8 := hz.1
  have h0 := hz.2.1
  have z0 := hz.2.2.1
  unfold f_L_addRail
  rw [t_v3]
  by_cases hx : addBad n x1 x2 x3 x4
  · rw [c_addBad hn8 h0 hx]
    refine OK_no h (c := 1) (by decide) rfl (fun G => ?_)
    exact z_addBad hn8 z0 hx
  · rw [c_addOk hn8 hs hS hσ h0 hx]
    by_cases h8 : n < 8
    · rw [if_pos h8]
      have a0 : ¬ (x1 < roL 0 ∨ roM 0 < x1) := fun hh => hx (Or.inl hh)
      have a1 : ¬ (x2 < roL 1 ∨ roM 1 < x2) := fun hh => hx (Or.inr (Or.inl hh))
      have a2 : ¬ (x3 < roL 2 ∨ roM 2 < x3) := fun hh => hx (Or.inr (Or.inr (Or.inl hh)))
      have a3 : x4.toBitVec.toNat < 2 ^ n := Classical.not_not.1 (fun hh => hx (Or.inr (Or.inr (Or.inr hh))))
      refine OK_do h (m := n + 1) (a := nI n) (P' := add2 (T.1.2.2 0) n x1 x2 x3 x4) (M' := wZ (sM T.2.2.1 s) (brZ (T.2.2.1.2 1) n x1 x2 x3 x4)) ?_ (fun G => ?_) rfl (RZ_add hz h8 a0 a1 a2 a3) (AZ_add ha x1 x2 x3 x4) rfl rfl rfl rfl
      · rw [obs, Sum.elim_inr, t_sL, obs]
        rfl
      · rw [z_addOk hs hM hn8 z0 hx, if_pos h8]
    · rw [if_neg h8]
      refine OK_no h (c := 2) (by decide) rfl (fun G => ?_)
      rw [z_addOk hs hM hn8 z0 hx, if_neg h8]
