/-! shares, patience, first blame: the law's ways and the class's -/
/-- a share: both ways to compute it -/
theorem share9 (g a : Nat) (ha : 0 < a) (hga : g ≤ a) (ha2 : a < 262144) : ∃ x : UInt64, fddiv (FP.i2d (nI g)) (FP.i2d (nI a)) = some x ∧ (∃ y, fdmul (4607182418800017408 : UInt64) (FP.i2d (nI g)) = some y ∧ fddiv y (FP.i2d (nI a)) = some x) ∧ (Op.cmpValue (FP.dcmp x x) .l) = 0 := by
  obtain ⟨a1, a2, a3⟩ := i2dU ha ha2
  by_cases hg : g = 0
  · subst hg
    have e0 : FP.i2d (nI 0) = 0 := i2d_0
    have hdiv : FP.ddiv (0 : UInt64) (FP.i2d (nI a)) = 0 := by
      rw [a1]
      show UInt64.ofNat (FP.Core.div FP.Core.b64 (0 : UInt64).toNat (U _ _).toNat) = _
      unfold FP.Core.div
      rw [U_nat a2, dec_wd a2, dec_0]
      obtain ⟨a21, a22, a23, a24⟩ := a2
      show UInt64.ofNat (FP.Core.encode FP.Core.b64 (if a * 2 ^ (52 - a.log2) = 0 then (if (0 : Nat) = 0 then .nan else .inf (false != false)) else FP.Core.roundRatio FP.Core.b64 (false != false) 0 (a * 2 ^ (52 - a.log2)) (-1074 - ((a.log2 : Int) - 52)))) = _
      rw [if_neg (by omega)]
      unfold FP.Core.roundRatio
      rw [if_pos rfl]
      show UInt64.ofNat (FP.Core.encode FP.Core.b64 (.fin false 0 FP.Core.b64.qmin)) = _
      rw [enc_0]
      rfl
    have hf : fddiv (0 : UInt64) (FP.i2d (nI a)) = some 0 := by
      unfold fddiv
      rw [hdiv, if_pos (by decide)]
    have hm : fdmul (4607182418800017408 : UInt64) 0 = some 0 := by
      unfold fdmul
      have e : FP.dmul (4607182418800017408 : UInt64) 0 = 0 := by decide +kernel
      rw [e, if_pos (by decide)]
    rw [e0]
    exact ⟨0, hf, ⟨0, hm, hf⟩, cmp_00⟩
  · obtain ⟨g1, g2, g3⟩ := i2dU (k := g) (by omega) (by omega)
    have hll : g.log2 ≤ a.log2 := by
      by_cases hh : g.log2 ≤ a.log2
      · exact hh
      · have b1 : 2 ^ g.log2 ≤ g := Nat.log2_self_le hg
        have b2 : a < 2 ^ (a.log2 + 1) := Nat.lt_log2_self
        have := Nat.pow_le_pow_right (n := 2) (by decide) (show a.log2 + 1 ≤ g.log2 by omega)
        omega
    have hle : (g.log2 : Int) - 52 < (a.log2 : Int) - 52 ∨ ((g.log2 : Int) - 52 = (a.log2 : Int) - 52 ∧ g * 2 ^ (52 - g.log2) ≤ a * 2 ^ (52 - a.log2)) := by
      by_cases hh : g.log2 < a.log2
      · exact Or.inl (by omega)
      · have he : g.log2 = a.log2 := by omega
        exact Or.inr ⟨by omega, by rw [he]; exact Nat.mul_le_mul_right _ hga⟩
    obtain ⟨c', q', d1, d2, d3, d4⟩ := divU g2 a2 hle (by omega)
    have hf : fddiv (U (g * 2 ^ (52 - g.log2)) ((g.log2 : Int) - 52)) (U (a * 2 ^ (52 - a.log2)) ((a.log2 : Int) - 52)) = some (U c' q') := by
      unfold fddiv
      rw [d1, if_pos (U_ok d2)]
    have hn2 : nm (g * 2 ^ (52 - g.log2)) (-52 + ((g.log2 : Int) - 52) + 52) := by
      obtain ⟨n1, n2, n3, n4⟩ := g2
      exact ⟨n1, n2, by omega, by omega⟩
    have hm : fdmul (4607182418800017408 : UInt64) (U (g * 2 ^ (52 - g.log2)) ((g.log2 : Int) - 52)) = some (U (g * 2 ^ (52 - g.log2)) ((g.log2 : Int) - 52)) := by
      have t := mulL (r := -52) g2 (by decide) (by decide) hn2
      rw [show -52 + ((g.log2 : Int) - 52) + 52 = (g.log2 : Int) - 52 by omega] at t
      unfold fdmul
      rw [f_one, t, if_pos (U_ok g2)]
    rw [g1, a1]
    exact ⟨U c' q', hf, ⟨_, hm, hf⟩, cmp_self d2⟩
variable {T : TS}
theorem su_nat {V : Nat → Nat → Int32} {n t : Nat} (hV : ∀ q, q < n → 0 ≤ (V q 19).toInt ∧ (V q 19).toInt ≤ (t : Int)) (ht : t ≤ 20000) : ∀ (m k x : Nat), k + m ≤ n → ∃ g, suF V 19 m k (nI x) = nI (x + g) ∧ g ≤ t * m := by
  intro m
  induction m with
  | zero => exact fun k x _ => ⟨0, rfl, Nat.zero_le _⟩
  | succ m ih =>
    intro k x hk
    obtain ⟨a, a1, a2, a3⟩ := nat_of (by decide) (hV k (by omega))
    obtain ⟨g, g1, g2⟩ := ih (k + 1) (x + a) (by omega)
    refine ⟨a + g, ?_, ?_⟩
    · unfold suF
      rw [a3, nI_add, g1, Nat.add_assoc]
    · rw [Nat.mul_succ]
      omega
theorem c_shareLoop {n : Nat} (hn8 : n ≤ 8) (h0 : (T.1.2.2 0).1 0 = nI n) (all : Int32) : ∀ (m k fuel : Nat) (x : Int32), k + m = n → m < fuel → f_X3_goodShare_26 (HT T) fuel 0 all x (nI k) = (fddiv (FP.i2d (suF (rowP (T.1.2.2 0)) 19 m k x)) (FP.i2d all)).bind (fun v => some v) := by
  intro m
  induction m with
  | zero =>
    intro k fuel x hk hf
    obtain ⟨fuel, rfl⟩ : ∃ f, fuel = f + 1 := ⟨fuel - 1, by omega⟩
    show b_X3_goodShare_26 _ _ _ _ _ _ = _
    unfold b_X3_goodShare_26
    rw [t_R0, obs, q_I0, obs, h0, if_pos (nI_le (by omega) (by omega))]
    rfl
  | succ m ih =>
    intro k fuel x hk hf
    obtain ⟨fuel, rfl⟩ : ∃ f, fuel = f + 1 := ⟨fuel - 1, by omega⟩
    show b_X3_goodShare_26 _ _ _ _ _ _ = _
    unfold b_X3_goodShare_26
    rw [t_R0, obs, q_I0, obs, h0, if_neg (nI_ge (by omega) (by omega)), obs, q_R13, obs, q_a13, ix4, ixa3, bd_nI (by omega) (by decide), obs, obs, nI_1, ih (k + 1) fuel _ (by omega) (by omega)]
    rfl
theorem v_share {n : Nat} (hn8 : n ≤ 8) (h0 : (T.1.2.2 0).1 0 = nI n) : f_X3_goodShare (HT T) 0 = if (T.1.2.2 0).1 1 * nI n = 0 then some 0 else (fddiv (FP.i2d (suF (rowP (T.1.2.2 0)) 19 n 0 0)) (FP.i2d ((T.1.2.2 0).1 1 * nI n))).bind (fun v => some v) := by
  unfold f_X3_goodShare
  rw [t_R0, obs, q_I1, obs, obs, q_I0, obs, obs, h0]
  have e := c_shareLoop (T := T) hn8 h0 ((T.1.2.2 0).1 1 * nI n) n 0 FU 0 (by omega) (by rw [FU_eq]; omega)
  rw [show nI 0 = (0 : Int32) from rfl] at e
  rw [e]
/-! patience -/
theorem pat_lt {ad c j : Nat} (hc : 0 < c) : j < ((ad + 99) / 100 + c - 1) / c ↔ j * (c * 100) < ad := by
  rw [← Nat.succ_le_iff, Nat.le_div_iff_mul_le hc]
  have e1 : (j + 1) * c = j * c + c := Nat.succ_mul j c
  have e2 : j * (c * 100) = j * c * 100 := (Nat.mul_assoc j c 100).symm
  rw [Nat.succ_eq_add_one, e1, e2]
  generalize j * c = p
  omega
theorem lp_eq {a c d : Nat} (hc : 0 < c) : ∀ m k, k ≤ ((a * d + 99) / 100 + c - 1) / c → lpF a c d m k = if ((a * d + 99) / 100 + c - 1) / c < k + m then nI (((a * d + 99) / 100 + c - 1) / c) else -1 := by
  intro m
  induction m with
  | zero =>
    intro k hk
    rw [if_neg (by omega)]
    rfl
  | succ m ih =>
    intro k hk
    unfold lpF
    by_cases h : k * (c * 100) < a * d
    · have h2 := (pat_lt (ad := a * d) (j := k) hc).2 h
      rw [if_pos h, ih (k + 1) (by omega), show k + 1 + m = k + (m + 1) by omega]
    · have h2 : ¬ k < ((a * d + 99) / 100 + c - 1) / c := fun hh => h ((pat_lt hc).1 hh)
      rw [if_neg h, if_pos (by omega), show ((a * d + 99) / 100 + c - 1) / c = k by omega]
theorem l_patience {G : GB} {c : Nat} {X : LX} (hc : CK G c) {r a u d : Nat} (hr : r < 6) (ha : 100 ≤ a ∧ a ≤ 5000) (hu : 1 ≤ u ∧ u ≤ 1000) (hd : 50 ≤ d ∧ d ≤ 100) (ea : rowX X r 0 = nI a) (eu : rowX X r 1 = nI u) (ed : rowX X r 3 = nI d) : f_L_patience (hl G c X) (nI r) 133 = some (lpF a u d 200 1) := by
  have h1 : a * d ≤ 5000 * 100 := Nat.mul_le_mul ha.2 hd.2
  have h2 : 100 * 50 ≤ a * d := Nat.mul_le_mul ha.1 hd.1
  have e0 : X 0 (7 * r) = nI a := ea
  have e1 : X 0 (7 * r + 1) = nI u := eu
  have e3 : X 0 (7 * r + 3) = nI d := ed
  unfold f_L_patience b_L_patience_56
  rw [jx7, l_a0 hc, bd_nI (by omega) (by decide), obs, ixa3, l_a0 hc, bd_nI (by omega) (by decide), obs, ixa1, l_a0 hc, bd_nI (by omega) (by decide), e0, e1, e3, pk_mul, show (99 : Int32) = nI 99 from rfl, nI_add, show (100 : Int32) = nI 100 from rfl, i_div (by omega) (by decide) (by decide), obs, obs, obs, nI_add, show (1 : Int32) = nI 1 from rfl, jm (by omega), i_div (by omega) (by omega) (by omega), obs]
  have hq1 : 1 ≤ ((a * d + 99) / 100 + u - 1) / u := by
    have := (pat_lt (ad := a * d) (c := u) (j := 0) (by omega)).2 (by omega)
    omega
  have hq2 : ((a * d + 99) / 100 + u - 1) / u < 2 ^ 31 := Nat.lt_of_le_of_lt (Nat.div_le_self _ _) (by omega)
  rw [lp_eq (by omega) 200 1 hq1]
  generalize ((a * d + 99) / 100 + u - 1) / u = q at hq1 hq2
  by_cases h : q ≤ 200
  · rw [if_pos (show nI q ≤ (200 : Int32) from nI_le h (by decide)), if_pos (by omega)]
  · rw [if_neg (show ¬ nI q ≤ (200 : Int32) from nI_ge (a := 200) (b := q) (by omega) hq2), if_neg (by omega)]
    rfl
/-! first blame -/
theorem fb_stable {bl : Nat → Int32} {n : Nat} (hn : n ≤ 8) (hbl : ∀ i, i < n → bl i = -1 ∨ ∃ k, k ≤ i ∧ bl i = nI k) : ∀ (N i m m' : Nat), i < N → i < n → i < m → i < m' → fbF bl m i = fbF bl m' i := by
  intro N
  induction N with
  | zero => intro i m m' h; omega
  | succ N ih =>
    intro i m m' hN hi hm hm'
    obtain ⟨m, rfl⟩ : ∃ q, m = q + 1 := ⟨m - 1, by omega⟩
    obtain ⟨m', rfl⟩ : ∃ q, m' = q + 1 := ⟨m' - 1, by omega⟩
    rcases hbl i hi with h | ⟨k, hk, h⟩
    · unfold fbF
      rw [if_pos h, if_pos h]
    · by_cases hki : k = i
      · subst hki
        rw [fb_self (by omega) h, fb_self (by omega) h]
      · unfold fbF
        rw [if_neg (by rw [h]; exact nI_m1 (by omega)), if_neg (by rw [h]; exact nI_m1 (by omega)), h, nI_toInt (by omega)]
        exact ih k m m' (by omega) (by omega) (by omega) (by omega)
