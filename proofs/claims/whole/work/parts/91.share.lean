/-! shares: goodShare -/
variable {T : TS}
theorem su_nat {V : Nat → Nat → Int32} {n t : Nat} (hV : ∀ q, q < n → 0 ≤ (V q 19).toInt ∧ (V q 19).toInt ≤ (t : Int)) (ht : t ≤ 20000) : ∀ (m k x : Nat), k + m ≤ n → ∃ g, suF V 19 m k (nI x) = nI (x + g) ∧ g ≤ t * m := by
  intro m
  induction m with
  | zero => exact fun k x _ => ⟨0, rfl, Nat.zero_le _⟩
  | succ m ih =>
    intro k x hk
    obtain ⟨a, a1, a2, a3⟩ := nat_of (by decide) (hV k (by omega))
    obtain ⟨g, g1, g2⟩ := ih (k + 1) (x + a) (by omega)
    refine ⟨a + g, ?_, ?_⟩
    · unfold suF
      rw [a3, nI_add, g1, Nat.add_assoc]
    · rw [Nat.mul_succ]
      omega
theorem c_shareLoop {n : Nat} (hn8 : n ≤ 8) (h0 : (T.1.2.2 0).1 0 = nI n) (all : Int32) : ∀ (m k fuel : Nat) (x : Int32), k + m = n → m < fuel → f_X3_goodShare_26 (HT T) fuel 0 all x (nI k) = (fddiv (FP.i2d (suF (rowP (T.1.2.2 0)) 19 m k x)) (FP.i2d all)).bind (fun v => some v) := by
  intro m
  induction m with
  | zero =>
    intro k fuel x hk hf
    obtain ⟨fuel, rfl⟩ : ∃ f, fuel = f + 1 := ⟨fuel - 1, by omega⟩
    show b_X3_goodShare_26 _ _ _ _ _ _ = _
    unfold b_X3_goodShare_26
    rw [t_R0, obs, q_I0, obs, h0, if_pos (nI_le (by omega) (by omega))]
    rfl
  | succ m ih =>
    intro k fuel x hk hf
    obtain ⟨fuel, rfl⟩ : ∃ f, fuel = f + 1 := ⟨fuel - 1, by omega⟩
    show b_X3_goodShare_26 _ _ _ _ _ _ = _
    unfold b_X3_goodShare_26
    rw [t_R0, obs, q_I0, obs, h0, if_neg (nI_ge (by omega) (by omega)), obs, q_R13, obs, q_a13, ix4, ixa3, bd_nI (by omega) (by decide), obs, obs, nI_1, ih (k + 1) fuel _ (by omega) (by omega)]
    rfl
theorem z_shareLoop {G : Nat → MC} {M : MV} {n : Nat} (hn8 : n ≤ 8) (h0 : M.2 1 0 = nI n) : ∀ (m k fuel : Nat) (x : Int32), k + m = n → m < fuel → f_X4_shareNow_4 (hm G 133 M) fuel 133 x (nI k) = if M.2 1 2 * nI n = 0 then some 0 else (fdmul (4607182418800017408 : UInt64) (FP.i2d (suF (rowZ (M.2 1)) 19 m k x))).bind (fun v8 => (fddiv v8 (FP.i2d (M.2 1 2 * nI n))).bind (fun v => some v)) := by
  intro m
  induction m with
  | zero =>
    intro k fuel x hk hf
    obtain ⟨fuel, rfl⟩ : ∃ f, fuel = f + 1 := ⟨fuel - 1, by omega⟩
    show b_X4_shareNow_4 _ _ _ _ _ = _
    unfold b_X4_shareNow_4 b_X4_shareNow_59
    rw [m_R1 b133, obs, m_a1 b133, b228_0, obs, h0, if_pos (nI_le (by omega) (by omega)), obs, m_a1 b133, b228_2, obs, obs, m_a1 b133, b228_0, obs, obs, h0]
    rfl
  | succ m ih =>
    intro k fuel x hk hf
    obtain ⟨fuel, rfl⟩ : ∃ f, fuel = f + 1 := ⟨fuel - 1, by omega⟩
    show b_X4_shareNow_4 _ _ _ _ _ = _
    unfold b_X4_shareNow_4
    rw [m_R1 b133, obs, m_a1 b133, b228_0, obs, h0, if_neg (nI_ge (by omega) (by omega)), m_v b133, m_of19 b133 (by omega), obs, obs, nI_1, ih (k + 1) fuel _ (by omega) (by omega)]
    rfl
/-- the share, on both sides -/
theorem both_share {n s : Nat} (h : INV T n s) : ∃ x : UInt64, f_X3_goodShare (HT T) 0 = some x ∧ (∀ (G : Nat → MC) (M : MV), RZ n (T.1.2.2 0) (M.2 1) → f_X4_shareNow (hm G 133 M) 133 = some x) ∧ (Op.cmpValue (FP.dcmp x x) .l) = 0 ∧ ∀ h : MH, f_X3_bitsOfShare h x = some (UInt64.toInt64 x) := by
  obtain ⟨hs, hS, hM, hσ, hz, ha, hv, hbf⟩ := h
  have hn8 := hz.1
  have h0 := hz.2.1
  obtain ⟨t, t1, t2, t3⟩ := nat_of (by decide) ha.1
  have hall : (T.1.2.2 0).1 1 * nI n = nI (t * n) := by rw [t3, pk_mul]
  have htn : t * n ≤ 20000 * 8 := Nat.mul_le_mul (by omega) hn8
  obtain ⟨g, g1, g2⟩ := su_nat (V := rowP (T.1.2.2 0)) (n := n) (t := t) (fun q hq => by
    have := ha.2 q hq
    rw [t3, nI_toInt (by omega)] at this
    exact this) (by omega) n 0 0 (by omega)
  rw [Nat.zero_add, show nI 0 = (0 : Int32) from rfl] at g1
  have hc : f_X3_goodShare (HT T) 0 = if nI (t * n) = 0 then some 0 else (fddiv (FP.i2d (nI g)) (FP.i2d (nI (t * n)))).bind (fun v => some v) := by
    unfold f_X3_goodShare
    rw [t_R0, obs, q_I1, obs, obs, q_I0, obs, obs, h0, hall, show (0 : Int32) = nI 0 from rfl, c_shareLoop hn8 h0 _ n 0 FU _ (by omega) (by rw [FU_eq]; omega), show nI 0 = (0 : Int32) from rfl, g1]
  have hm : ∀ (G : Nat → MC) (M : MV), RZ n (T.1.2.2 0) (M.2 1) → f_X4_shareNow (hm G 133 M) 133 = if nI (t * n) = 0 then some 0 else (fdmul (4607182418800017408 : UInt64) (FP.i2d (nI g))).bind (fun v8 => (fddiv v8 (FP.i2d (nI (t * n)))).bind (fun v => some v)) := by
    intro G M hz2
    have e2 : M.2 1 2 * nI n = nI (t * n) := by rw [hz2.2.2.2.2.1, hall]
    have eg : suF (rowZ (M.2 1)) 19 n 0 0 = nI g := by
      rw [← g1]
      exact (su_congr (n := n) hz2.2.2.2.2.2.1 n 0 0 (by omega)).symm
    have e := z_shareLoop (G := G) (M := M) hn8 hz2.2.2.1 n 0 FU 0 (by omega) (by rw [FU_eq]; omega)
    rw [e2, eg, show nI 0 = (0 : Int32) from rfl] at e
    exact e
  by_cases h00 : t * n = 0
  · refine ⟨0, ?_, fun G M hz2 => ?_, cmp_00, bits_0⟩
    · rw [hc, h00, if_pos (by decide)]
    · rw [hm G M hz2, h00, if_pos (by decide)]
  · have hnz : ¬ nI (t * n) = 0 := fun hh => h00 ((nI_zero (by omega)).mp hh)
    obtain ⟨x, x1, ⟨y, y1, y2⟩, x2, x3⟩ := share g (t * n) (by omega) g2 (by omega)
    refine ⟨x, ?_, fun G M hz2 => ?_, x2, x3⟩
    · rw [hc, if_neg hnz, x1, obs]
    · rw [hm G M hz2, if_neg hnz, y1, obs, y2, obs]
theorem op_goodShare {n s : Nat} (h : INV T n s) : ∃ v, f_X3_goodShare (HT T) 0 = some v ∧ f_X4_goodShare (HT T) 133 = some (v, HT (uM T (mS T.2.2.1 0 0))) ∧ (Op.cmpValue (FP.dcmp v v) .l) = 0 := by
  obtain ⟨x, x1, x2, x3, x4⟩ := both_share h
  refine ⟨x, x1, ?_, x3⟩
  rw [HT_m T]
  unfold f_X4_goodShare
  rw [m_P0 b133, obs, m_v b133, x2 _ (mS T.2.2.1 0 0) h.2.2.2.2.1, obs, hm_T]
