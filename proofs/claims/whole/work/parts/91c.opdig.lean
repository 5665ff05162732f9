/-! digest, on both sides -/
variable {T : TS}
theorem c_digRails {n s : Nat} (h : INV T n s) {a : Int64} {X : MH} : ∀ (m k fuel : Nat) (hh : Int64), k + m = n → m < fuel → (∀ f, f_X3_digest_33 (f + 1) (HT T) 0 (hRs (T.1.2.2 0) n m k hh) (nI n) = some (a, X)) → f_X3_digest_33 fuel (HT T) 0 hh (nI k) = some (a, X) := by
  have hz := h.2.2.2.2.1
  have hn8 := hz.1
  intro m
  induction m with
  | zero =>
    intro k fuel hh hk hf ht
    obtain ⟨fuel, rfl⟩ : ∃ f, fuel = f + 1 := ⟨fuel - 1, by omega⟩
    obtain rfl : k = n := by omega
    exact ht fuel
  | succ m ih =>
    intro k fuel hh hk hf ht
    obtain ⟨fuel, rfl⟩ : ∃ f, fuel = f + 1 := ⟨fuel - 1, by omega⟩
    show b_X3_digest_33 _ _ _ _ _ = _
    unfold b_X3_digest_33
    rw [t_R0, obs, q_I0, obs, hz.2.1, if_neg (nI_ge (by omega) (by omega)), t_v3, c_hashRail h (by omega), obs, nI_1]
    exact ih (k + 1) fuel _ (by omega) (by omega) ht
theorem dig_tail2 {n s : Nat} (h : INV T n s) (hh : Int64) : ∃ Q a, (∀ fuel, f_X3_digest_33 (fuel + 1) (HT T) 0 hh (nI n) = some (a, HT (uP T 1 Q))) ∧ ∀ (G : Nat → MC) (M : MV), RZ n (T.1.2.2 0) (M.2 1) → M.1.1 4 = T.2.2.1.1.1 4 → M.2 5 = T.2.2.1.2 5 → M.1.2 = hh → ∃ M', f_X4_digest_61 FU (hm G 133 M) 133 0 = some (a, hm G 133 M') ∧ MLh M M' := by
  obtain ⟨Q, a, c1, c2⟩ := dig_tail h 0 hh
  refine ⟨Q, a, fun fuel => ?_, c2⟩
  have hz := h.2.2.2.2.1
  have hn8 := hz.1
  rw [← c1]
  show b_X3_digest_33 _ _ _ _ _ = b_X3_digest_33 _ _ _ _ _
  unfold b_X3_digest_33
  rw [t_R0, obs, q_I0, obs, hz.2.1, if_pos (nI_le (Nat.le_refl _) (by omega)), obs, q_I0, obs, hz.2.1, if_pos (nI_le (Nat.le_refl _) (by omega))]
theorem op_digest {n s : Nat} (h : INV T n s) : OKv T (f_X3_digest (HT T) 0) (fun h => vcall h 4 133 (f_X4_digest h 133)) := by
  have hz := h.2.2.2.2.1
  obtain ⟨Q1, h1, c1, c2⟩ := dig_counts h 10 0 FU FU 2179 (T.1.2.2 1) (by omega) (by rw [FU_eq]; omega) (by rw [FU_eq]; omega)
  rw [uP_self] at c1
  have hI1 := INV_uP h Q1
  obtain ⟨Q2, a, d1, d2⟩ := dig_tail2 hI1 (hRs (T.1.2.2 0) n n 0 h1)
  rw [uP_uP] at d1
  have hn8 := hz.1
  have e1 : f_X3_digest (HT T) 0 = some (a, HT (uP T 1 Q2)) := by
    unfold f_X3_digest
    rw [show (0 : Int32) = nI 0 from rfl, c1, show (0 : Int32) = nI 0 from rfl]
    exact c_digRails hI1 n 0 FU h1 (by omega) (by rw [FU_eq]; omega) d1
  have hq0 : ∀ M' : MV, MLh (mS T.2.2.1 0 0) M' → INV (uM (uP T 1 Q2) M') n s := by
    intro M' hq
    obtain ⟨q1, q2, q3⟩ := hq
    have hk : MLk (mS (mH T.2.2.1 M'.1.2) 0 0) M' := ⟨q1, rfl, q2, q3⟩
    have hI : INV (uM T (mH T.2.2.1 M'.1.2)) n s := h
    exact INV_look (T := uM T (mH T.2.2.1 M'.1.2)) hI Q2 T.2.2.2 (c := 0) (M' := M') hk
  obtain ⟨M1, k1, k2, k3⟩ := c2 (gT (uP T 1 Q2)) (mH (mS T.2.2.1 0 0) 2179) hz h.2.2.1 rfl
  have hz1 : RZ n (T.1.2.2 0) (M1.2 1) := RZ_h (M := mH (mS T.2.2.1 0 0) 2179) hz k2
  have hz2 : RZ n (T.1.2.2 0) ((mH M1 (hRs (T.1.2.2 0) n n 0 M1.1.2)).2 1) := hz1
  obtain ⟨M2, j1, j2⟩ := d2 (gT (uP T 1 Q2)) (mH M1 (hRs (T.1.2.2 0) n n 0 M1.1.2)) hz2 (k2.1 4 (by decide) (by decide)) (k2.2.2 5 (by decide) (by decide) (by decide)) (by rw [k3]; rfl)
  refine ⟨uP T 1 Q2, a, e1, uM (uP T 1 Q2) M2, ?_, n, s, hq0 M2 (MLh_trans (MLh_H (mS T.2.2.1 0 0) 2179) (MLh_trans k2 (MLh_trans (MLh_H M1 _) j2)))⟩
  show vcall (HT _) 4 133 (f_X4_digest (HT _) 133) = _
  rw [t_vm, ← hm_T, HT_m (uP T 1 Q2)]
  show f_X4_digest (hm _ 133 T.2.2.1) 133 = _
  unfold f_X4_digest
  rw [m_P0 b133, obs, m_PL b133, obs, show (0 : Int32) = nI 0 from rfl]
  rw [show nI 0 = (0 : Int32) from rfl] at k1 ⊢
  refine k1.trans ?_
  have t := z_digRails (G := gT (uP T 1 Q2)) (P := T.1.2.2 0) n 0 FU M1 hz1 (by omega) (by rw [FU_eq]; omega)
  rw [show nI 0 = (0 : Int32) from rfl] at t
  rw [t]
  exact j1
