/-! commands: on -/
theorem RZ_want {n : Nat} {P : PV} {z z' : Nat → Int32} (h : RZ n P z) {w : Int32} (hwn : w.toBitVec.toNat < 2 ^ n) (h1 : ∀ i, (i < 68 ∨ i % 20 ≠ 16) → z' i = z i) (h2 : ∀ q, q < n → z' (68 + 20 * q + 8) = if tb w q = true then 1 else 0) : RZ n (wS P 3 w) z' := by
  obtain ⟨hn8, h0, z0, z1, z2, hrow, hw, hl, hwn', hok⟩ := h
  refine ⟨hn8, h0, (h1 0 (Or.inl (by decide))).trans z0, (h1 1 (Or.inl (by decide))).trans z1, (h1 2 (Or.inl (by decide))).trans z2, fun q hq => ?_, h2, LRel_same (fun i hi => h1 i (Or.inl hi)) hl, hwn, hok⟩
  rw [rw_S, hrow q hq]
  funext k
  by_cases hk : k = 8 ∨ 20 ≤ k
  · rw [rz_out hk, rz_out hk]
  · rw [rz_in hk, rz_in hk, h1 _ (Or.inr (by omega))]
variable {G : Nat → MC} {b : Nat}
theorem z_onLoop (hb : b ≤ 134) {nd : Nat → Int32} (hnd : ∀ j, j < 8 → (nd j).toBitVec.toNat < 2 ^ j ∨ True) {M : MV} : ∀ (k fuel : Nat) (x : Int32) (z : Nat → Int32), k ≤ 8 → k < fuel → (∀ j, j < k → z (68 + 20 * j + 7) = nd j ∧ (nd j).toBitVec.toNat < 2 ^ j) →
    ∃ z', f_X4_on_47 fuel (hm G b (wZ M z)) b x (nI k - 1) = (f_X4_maskOf (hm G b (wZ M z')) b 8 1).bind (fun v => some (v, hm G b (wZ M z'))) ∧ (∀ i, (i < 68 ∨ i % 20 ≠ 16) → z' i = z i) ∧ (∀ q, q < k → z' (68 + 20 * q + 8) = if tb (wnF nd k x) q = true then 1 else z (68 + 20 * q + 8)) ∧ ∀ q, k ≤ q → z' (68 + 20 * q + 8) = z (68 + 20 * q + 8) := by
  intro k
  induction k with
  | zero =>
    intro fuel x z hk hf hz
    obtain ⟨fuel, rfl⟩ : ∃ f, fuel = f + 1 := ⟨fuel - 1, by omega⟩
    refine ⟨z, ?_, fun _ _ => rfl, fun q hq => absurd hq (by omega), fun _ _ => rfl⟩
    show b_X4_on_47 _ _ _ _ _ = _
    unfold b_X4_on_47
    rw [if_pos (by decide), m_v hb]
  | succ k ih =>
    intro fuel x z hk hf hz
    obtain ⟨fuel, rfl⟩ : ∃ f, fuel = f + 1 := ⟨fuel - 1, by omega⟩
    have hk8 : k < 8 := by omega
    have hlo : ∀ j, j < k → (nd j).toBitVec.toNat < 2 ^ j := fun j hj => (hz j (by omega)).2
    obtain ⟨z', g1, g2, g3, g4⟩ := ih fuel (if tb x k = true then x ||| nd k else x) (upd z (68 + 20 * k + 8) (if tb x k = true then 1 else z (68 + 20 * k + 8))) (by omega) (by omega) (fun j hj => by rw [upd_n (by omega)]; exact hz j (by omega))
    refine ⟨z', ?_, fun i hi => ?_, fun q hq => ?_, fun q hq => ?_⟩
    · show b_X4_on_47 _ _ _ _ _ = _
      unfold b_X4_on_47 b_X4_on_71 b_X4_on_96
      rw [show nI (k + 1) - 1 = nI k from by rw [← nI_1]; exact Int32.add_sub_cancel _ _, if_neg (by simp only [nI_pos (show k < 2 ^ 31 by omega), not_false_eq_true])]
      rw [show nI k + -1 = nI k - 1 from (Int32.sub_eq_add_neg _ _).symm]
      rw [z_has _ _ (by omega), obs]
      have e7 : rowZ ((wZ M z).2 1) k 7 = nd k := by
        rw [rz_in (by decide)]
        exact (hz k (by omega)).1
      by_cases ht : tb x k = true
      · have ho : tb (x ||| nd k) k = true := by rw [tb_or, ht]; rfl
        simp only [ht, if_true] at g1
        rw [if_pos ht, if_neg n10, m_v hb, m_of7 hb hk8, obs, e7, obs, z_has _ _ (by omega), obs, if_pos ho, if_neg n10, m_v hb, m_lay8 hb hk8, obs, wZ_wZ, wZ_z, ← g1]
      · simp only [if_neg ht] at g1
        have e0 : x ||| (0 : Int32) = x := by
          apply Int32.toBitVec_inj.1
          show x.toBitVec ||| 0#32 = x.toBitVec
          simp
        rw [if_neg ht, if_pos rfl, obs, e0, z_has _ _ (by omega), obs, if_neg ht, if_pos rfl, m_v hb, m_of8 hb hk8, obs, m_v hb, m_lay8 hb hk8, obs, wZ_wZ, wZ_z, ← g1]
    · rw [g2 i hi, upd_n]
      intro he
      rcases hi with hi | hi
      · omega
      · exact hi (by omega)
    · rw [show wnF nd (k + 1) x = wnF nd k (if tb x k = true then x ||| nd k else x) from rfl]
      by_cases hqk : q = k
      · subst hqk
        rw [g4 q (Nat.le_refl _), upd_s, wn_hi q _ q hlo (Nat.le_refl _)]
        by_cases ht : tb x q = true
        · rw [if_pos ht, if_pos ht, if_pos (by rw [tb_or, ht]; rfl)]
        · rw [if_neg ht, if_neg ht, if_neg ht]
      · rw [g3 q (by omega), upd_n (by omega)]
    · rw [g4 q (by omega), upd_n (by omega)]
variable {T : TS}
theorem q_rails {n : Nat} (hn8 : n ≤ 8) (h0 : (T.1.2.2 0).1 0 = nI n) (x : Int32) : f_X3_areRails (HT T) 0 x = some (if x.toBitVec.toNat < 2 ^ n then 1 else 0) := by
  simp only [f_X3_areRails, t_R0, q_I0, h0, obs, c_below _ _ hn8]
  split <;> rfl
theorem q_needed {n : Nat} (hn8 : n ≤ 8) (h0 : (T.1.2.2 0).1 0 = nI n) (x : Int32) : f_X1_withAllNeeded (HT T) 1 x = some (wnF ((T.1.2.2 0).2 5) n x) := by
  unfold f_X1_withAllNeeded
  rw [q_I0, obs, h0, obs, HT0]
  exact a_neededLoop (by decide) n FU x hn8 (by rw [FU_eq]; omega)
theorem c_on {n s : Nat} (hn8 : n ≤ 8) (hs : s ≤ 6) (hS : T.1.1 3 = nI s) (hσ : σOK T.1.2.1) (h0 : (T.1.2.2 0).1 0 = nI n) (x : Int32) : f_X3_on (HT T) 0 x = if x.toBitVec.toNat < 2 ^ n then some (.inr ((T.1.2.2 0).1 3 ||| wnF ((T.1.2.2 0).2 5) n x, HT (uP (svT T s) 0 (wS (T.1.2.2 0) 3 ((T.1.2.2 0).1 3 ||| wnF ((T.1.2.2 0).2 5) n x))))) else some (.inl (0, HT T)) := by
  unfold f_X3_on
  rw [t_v3, q_rails hn8 h0, obs]
  by_cases hx : x.toBitVec.toNat < 2 ^ n
  · rw [if_pos hx, if_pos hx, if_neg n10, t_v3, t_save T hs hS hσ, obs, t_R0, obs, q_I3, obs, obs, q_v1, q_needed hn8 (by rw [sv_pl T hσ]; exact h0), obs, sv_pl T hσ, q_P3, obs, t_R0, obs, q_I3, obs, uP_pl, sv_pl T hσ]
    rfl
  · rw [if_neg hx, if_neg hx, if_pos rfl]
theorem z_on20 {M : MV} (x c : Int32) : b_X4_on_20 (hm G 133 M) 133 x 133 c = if c ≤ 0 then (f_X4_save (hm G 133 (mS M 0 c)) 133).bind (fun h10 => (hR h10 4 133 1).bind fun v11 => (aI h10 v11 (0 : Int32)).bind fun v12 => (some (v12 - (1 : Int32))).bind fun v13 => f_X4_on_47 FU h10 133 x v13) else some (0, hm G 133 (mS M 0 c)) := by
  unfold b_X4_on_20
  generalize FU = F
  simp only [m_P0 (show 133 ≤ 134 by decide), m_I0 (show 133 ≤ 134 by decide), m_v (show 133 ≤ 134 by decide), obs, mS_0]
theorem op_on {n s : Nat} (h : INV T n s) (x : Int32) : OKc T (f_L_on (HT T) 0 x 140) (fun h => vcall h 4 133 (f_X4_on h 133 x)) := by
  have h' := h
  obtain ⟨hs, hS, hM, hσ, hz, ha, hv, hbf⟩ := h'
  have hz' := hz
  obtain ⟨hn8, h0, z0, z1, z2, hrow, hw, hl, hwn, hok⟩ := hz'
  have hb : 133 ≤ 134 := by decide
  unfold f_L_on
  rw [t_v3, c_on hn8 hs hS hσ h0]
  by_cases hx : x.toBitVec.toNat < 2 ^ n
  · rw [if_pos hx]
    have hnd : ∀ j, j < n → T.2.2.1.2 1 (68 + 20 * j + 7) = (T.1.2.2 0).2 5 j ∧ ((T.1.2.2 0).2 5 j).toBitVec.toNat < 2 ^ j := by
      intro j hj
      have e := congrFun (hrow j hj) 7
      rw [rz_in (by decide)] at e
      exact ⟨e.symm, (hok j hj).2.2.2.2.1⟩
    have hW := wn_lt (nd := (T.1.2.2 0).2 5) n x (fun j hj => (hnd j hj).2) (Nat.le_refl _) hx
    refine OK_do1 h (a := (T.1.2.2 0).1 3 ||| wnF ((T.1.2.2 0).2 5) n x) (P' := wS (T.1.2.2 0) 3 ((T.1.2.2 0).1 3 ||| wnF ((T.1.2.2 0).2 5) n x)) ?_ (fun G => ?_)
    · rw [obs, Sum.elim_inr, t_sL, obs]
      rfl
    · obtain ⟨z', g1, g2, g3, g4⟩ := z_onLoop (G := G) (b := 133) hb (nd := (T.1.2.2 0).2 5) (fun _ _ => Or.inr trivial) (M := sM T.2.2.1 s) n FU x (T.2.2.1.2 1) hn8 (by rw [FU_eq]; omega) hnd
      have hw' : ∀ q, q < n → z' (68 + 20 * q + 8) = if tb ((T.1.2.2 0).1 3 ||| wnF ((T.1.2.2 0).2 5) n x) q = true then 1 else 0 := by
        intro q hq
        rw [g3 q hq, hw q hq, tb_or]
        cases tb (wnF ((T.1.2.2 0).2 5) n x) q <;> cases tb ((T.1.2.2 0).1 3) q <;> rfl
      have hlt := or_lt hwn hW
      refine ⟨wZ (sM T.2.2.1 s) z', n, ?_, rfl, RZ_want hz hlt g2 hw', ⟨ha.1, fun q hq => ha.2 q hq⟩, rfl, rfl, rfl, rfl⟩
      unfold f_X4_on
      rw [m_R1 hb, obs, m_a1 hb, b228_0, obs, z0, m_v hb, z_mask _ _ _ hn8, obs, if_pos hx, if_neg n10, z_on20, if_pos (by decide), z_saveT hb hs hM, obs, m_R1 hb, obs, m_a1 hb, b228_0, obs, sM_1, z0, obs]
      rw [show wZ (sM T.2.2.1 s) (T.2.2.1.2 1) = sM T.2.2.1 s from wZ_self (sM T.2.2.1 s)] at g1
      rw [g1, z_wants hb (M := wZ (sM T.2.2.1 s) z') (n := n) (w := (T.1.2.2 0).1 3 ||| wnF ((T.1.2.2 0).2 5) n x) (by rw [wZ_z, g2 0 (Or.inl (by decide))]; exact z0) hn8 (fun q hq => by rw [wZ_z]; exact hw' q hq) hlt, obs]
  · rw [if_neg hx]
    refine OK_no h (c := 1) (by decide) rfl (fun G => ?_)
    unfold f_X4_on
    rw [m_R1 hb, obs, m_a1 hb, b228_0, obs, z0, m_v hb, z_mask _ _ _ hn8, obs, if_neg hx, if_pos rfl, z_on20, if_neg (by decide)]
