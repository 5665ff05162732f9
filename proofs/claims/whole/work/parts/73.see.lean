/-! what is only read: accounts -/
theorem INV_out {T : TS} {n s : Nat} (h : INV T n s) (o : Nat → Int64) (c : Int32) : INV (uM (uO T o) (mS T.2.2.1 0 c)) n s := h
variable {T : TS} {G : Nat → MC} {b : Nat}
theorem OK_see {n s : Nat} (h : INV T n s) {cl : Option (Int32 × MH)} {rf : MH → Option (Int32 × MH)} {a : Int32} (e1 : cl = some (0, HT (uO T (vp_updL T.2.2.2 0 (Int32.toInt64 a))))) (e2 : ∀ G, rf (hm G 133 T.2.2.1) = some (a, hm G 133 (mS T.2.2.1 0 0))) : OKc T cl (fun h => vcall h 4 133 (rf h)) := by
  refine ⟨_, 0, e1, uM (uO T (vp_updL T.2.2.2 0 (Int32.toInt64 a))) (mS T.2.2.1 0 0), a, ?_, rfl, fun _ => ?_, n, s, INV_out h _ 0⟩
  · show vcall (HT _) 4 133 (rf (HT _)) = _
    rw [t_vm, ← hm_T, HT_m (uO T (vp_updL T.2.2.2 0 (Int32.toInt64 a)))]
    exact e2 _
  · simp [uM, uO, vp_updL]
theorem rd_a (P : PV) (r : Nat) {p : Nat} (hp : p < 4) : rowP P r (16 + p) = P.2 13 (r * 4 + p) := by
  match p, hp with
  | 0, _ => rfl
  | 1, _ => rfl
  | 2, _ => rfl
  | 3, _ => rfl
theorem z_acc27 (hb : b ≤ 134) {M : MV} (x k c : Int32) : b_X4_account_27 (hm G b M) b x k b c = if c ≤ 0 then (f_X4_of (hm G b (mS M 0 c)) b x ((16 : Int32) + k)).bind (fun v => some (v, hm G b (mS M 0 c))) else some (0, hm G b (mS M 0 c)) := by
  unfold b_X4_account_27 b_X4_account_50
  simp only [m_P0 hb, m_I0 hb, m_v hb, obs, mS_0]
theorem out_of {n p : Nat} (hp : p < n) (hn : n < 2 ^ 31) {k : Int32} (h : k < 0 ∨ nI n ≤ k) (e : nI n = nI p + 1) : k < 0 ∨ nI p < k := by
  rcases h with h | h
  · exact Or.inl h
  · refine Or.inr ?_
    have ep : n = p + 1 := by
      rw [nI_1, nI_eq hn (by omega)] at e
      exact e
    rw [Int32.lt_iff_toInt_lt, nI_toInt (by omega)]
    rw [Int32.le_iff_toInt_le, nI_toInt hn] at h
    omega
theorem in_of {n p j : Nat} (hn : n < 2 ^ 31) (ep : n = p + 1) (hj : j < n) : ¬ (nI j < 0 ∨ nI p < nI j) := by
  intro h
  rcases h with h | h
  · simp only [nI_pos (show j < 2 ^ 31 by omega)] at h
  · rw [nI_ltI (by omega) (by omega)] at h
    omega
theorem op_account {n s : Nat} (h : INV T n s) (x k : Int32) : OKc T (f_L_account (HT T) 0 x k 140) (fun h => vcall h 4 133 (f_X4_account h 133 x k)) := by
  have h' := h
  obtain ⟨hs, hS, hM, hσ, hz, ha, hv, hbf⟩ := h'
  have hz' := hz
  obtain ⟨hn8, h0, z0, z1, z2, hrow, hw, hl, hwn, hok⟩ := hz'
  have hb : 133 ≤ 134 := by decide
  unfold f_L_account
  rw [t_v3]
  rcases rail_cases hn8 x with ⟨r, hr, rfl⟩ | hx
  · have hR := rail_not hn8 hr
    rcases rail_cases (n := 4) (by decide) k with ⟨p, hp, rfl⟩ | hk
    · have hk0 : ¬ nI p < 0 := by simp only [nI_pos (show p < 2 ^ 31 by omega), not_false_eq_true]
      have hk4 : nI p < 4 := by rw [show (4 : Int32) = nI 4 from rfl, nI_ltI (by omega) (by omega)]; exact hp
      have e1 : f_X3_account (HT T) 0 (nI r) (nI p) = some (.inr ((T.1.2.2 0).2 13 (r * 4 + p), HT T)) := by
        unfold f_X3_account
        rw [t_v3, c_isRail h0, obs, if_neg hR, if_neg n10, if_neg hk0, if_pos hk4, t_R0, obs, q_R13, obs, q_a13, ix4, nI_add, bd_nI (by omega) (by decide), obs]
      rw [e1]
      refine OK_see h (a := (T.1.2.2 0).2 13 (r * 4 + p)) ?_ (fun G => ?_)
      · rw [obs, Sum.elim_inr, t_sL, obs]
      · have hin : ¬ (nI p < 0 ∨ (3 : Int32) < nI p) := in_of (n := 4) (p := 3) (by decide) rfl hp
        have e := congrFun (hrow r hr) (16 + p)
        rw [rz_in (by omega), rd_a _ _ hp] at e
        unfold f_X4_account
        rw [m_v hb, z_isRail hb z0 hn8, obs, if_neg hR, if_neg n10, z_within, obs, if_neg hin, if_neg n10, z_acc27 hb, if_pos (by decide), show (16 : Int32) = nI 16 from rfl, nI_add, m_ofG hb (by omega) (by omega), obs]
        rw [e]
        rfl
    · have e1 : f_X3_account (HT T) 0 (nI r) k = some (.inl (0, HT T)) := by
        unfold f_X3_account b_X3_account_27
        rw [t_v3, c_isRail h0, obs, if_neg hR, if_neg n10]
        by_cases hk0 : k < 0
        · rw [if_pos hk0]
        · rw [if_neg hk0, if_neg]
          rcases hk with hk | hk
          · exact absurd hk hk0
          · rw [Int32.not_lt]; exact hk
      rw [e1]
      refine OK_no h (c := 2) (by decide) rfl (fun G => ?_)
      have hout : k < 0 ∨ (3 : Int32) < k := out_of (n := 4) (p := 3) (by decide) (by decide) hk rfl
      unfold f_X4_account
      rw [m_v hb, z_isRail hb z0 hn8, obs, if_neg hR, if_neg n10, z_within, obs, if_pos hout, if_pos rfl, z_acc27 hb, if_neg (by decide)]
  · have e1 : f_X3_account (HT T) 0 x k = some (.inl (2, HT T)) := by
      unfold f_X3_account
      rw [t_v3, c_isRail h0, obs, if_pos hx, if_pos rfl]
    rw [e1]
    refine OK_no h (c := 1) (by decide) rfl (fun G => ?_)
    unfold f_X4_account
    rw [m_v hb, z_isRail hb z0 hn8, obs, if_pos hx, if_pos rfl, z_acc27 hb, if_neg (by decide)]
