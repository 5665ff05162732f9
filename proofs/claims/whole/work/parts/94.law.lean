/-! the law -/
def IV (T : TS) : Prop := ∃ n s, INV T n s
theorem IV_0 : IV T0 := by
  refine ⟨0, 0, by omega, rfl, rfl, ⟨fun i hi => ?_, fun i j _ _ h => ?_⟩, ?_, ⟨by decide, fun q hq => absurd hq (by omega)⟩, fun i hi => absurd hi (by omega), 0, by omega, rfl, rfl, fun i hi => absurd hi (by omega)⟩
  · show 2 ≤ i + 2 ∧ i + 2 < 8
    omega
  · have h : i + 2 = j + 2 := h
    omega
  · exact ⟨by omega, rfl, rfl, rfl, rfl, fun q hq => absurd hq (by omega), fun q hq => absurd hq (by omega), ⟨0, by omega, rfl, rfl, fun j i hj => absurd hj (by omega)⟩, by decide, fun q hq => absurd hq (by omega)⟩
theorem z_thrown (T : TS) : f_X4_thrown (HT T) 133 = some (T.2.2.1.1.1 0) := by
  unfold f_X4_thrown
  rw [HT_m T, m_I0 b133, obs]
theorem lg_same (x : Int64) : lg_cmp x x = 0 := by
  unfold lg_cmp
  simp
theorem law_c {T : TS} {cl : Option (Int32 × MH)} {rf : MH → Option (Int32 × MH)} (hk : OKc T cl rf) (K : MH → Option Int32) : ∃ T2, IV T2 ∧ (cl.bind fun p6 => (rf p6.2).bind fun p11 => (vcall p11.2 4 133 (f_X4_thrown p11.2 133)).bind fun v12 => if v12 = p6.1 then (if p6.1 = 0 then ((aL p11.2 140 (0 : Int32)).bind fun v13 => if (lg_cmp v13 (Int32.toInt64 p11.1)) = 0 then K p11.2 else some (0 : Int32)) else K p11.2) else some (0 : Int32)) = K (HT T2) := by
  obtain ⟨T1, c, e1, T2, a, e2, e3, e4, hI⟩ := hk
  refine ⟨T2, hI, ?_⟩
  rw [e1, obs, e2, obs, t_vm, z_thrown, obs, e3, if_pos rfl]
  by_cases hc : c = 0
  · rw [if_pos hc, t_aL, obs, e4 hc, lg_same, if_pos rfl]
  · rw [if_neg hc]
theorem law_v {T : TS} {cl : Option (Int32 × MH)} {rf : MH → Option (Int32 × MH)} (hk : OKv T cl rf) (K : MH → Option Int32) : ∃ T2, IV T2 ∧ (cl.bind fun p6 => (rf p6.2).bind fun p11 => if p6.1 = p11.1 then K p11.2 else some (0 : Int32)) = K (HT T2) := by
  obtain ⟨T1, a, e1, T2, e2, hI⟩ := hk
  refine ⟨T2, hI, ?_⟩
  rw [e1, obs, e2, obs, if_pos rfl]
theorem law_l {T : TS} {cl : Option (Int64 × MH)} {rf : MH → Option (Int64 × MH)} (hk : OKv T cl rf) (K : MH → Option Int32) : ∃ T2, IV T2 ∧ (cl.bind fun p6 => (rf p6.2).bind fun p11 => if (lg_cmp p6.1 p11.1) = 0 then K p11.2 else some (0 : Int32)) = K (HT T2) := by
  obtain ⟨T1, a, e1, T2, e2, hI⟩ := hk
  refine ⟨T2, hI, ?_⟩
  rw [e1, obs, e2, obs, lg_same, if_pos rfl]
theorem law_step (L : Nat) (xs : Nat → Int32) {i fuel : Nat} {T : TS} (hT : IV T) (hi : i + 5 ≤ L) (hL : L ≤ 2560) (next : ∀ T2, IV T2 → f_L_law_23 (L, xs) fuel (HT T2) 0 133 140 (nI i + 5) = some 1) : f_L_law_23 (L, xs) (fuel + 1) (HT T) 0 133 140 (nI i) = some 1 := by
  obtain ⟨n, s, h⟩ := hT
  have a0 : rA (L, xs).1 (L, xs).2 (nI i) = some (xs i) := rA_nI (n := L) (by omega) (by omega)
  have a1 : rA (L, xs).1 (L, xs).2 (nI i + 1) = some (xs (i + 1)) := by rw [ixa1]; exact rA_nI (n := L) (by omega) (by omega)
  have a2 : rA (L, xs).1 (L, xs).2 (nI i + 2) = some (xs (i + 2)) := by rw [ixa2]; exact rA_nI (n := L) (by omega) (by omega)
  have a3 : rA (L, xs).1 (L, xs).2 (nI i + 3) = some (xs (i + 3)) := by rw [ixa3]; exact rA_nI (n := L) (by omega) (by omega)
  have a4 : rA (L, xs).1 (L, xs).2 (nI i + 4) = some (xs (i + 4)) := by rw [ixa4]; exact rA_nI (n := L) (by omega) (by omega)
  have hend : ¬ (Int32.ofNat (L, xs).1) - (5 : Int32) < nI i := by
    show ¬ nI L - nI 5 < nI i
    rw [pk_sub (by omega)]
    exact nI_nlt (by omega) (by omega)
  show b_L_law_23 _ _ _ _ _ _ _ = _
  unfold b_L_law_23
  rw [if_neg hend, a0, obs]
  by_cases c0 : xs i &&& 31 = 0
  · rw [if_pos c0]
    unfold b_L_law_245 b_L_law_1515
    simp only [a1, a2, a3, a4, obs]
    obtain ⟨T2, hT2, e⟩ := law_c (op_addRail h (xs (i + 1)) (xs (i + 2)) (xs (i + 3)) (xs (i + 4))) (fun hh => f_L_law_23 (L, xs) fuel hh 0 133 140 (nI i + 5))
    exact e.trans (next T2 hT2)
  rw [if_neg c0]
  by_cases c1 : xs i &&& 31 = 1
  · rw [if_pos c1]
    unfold b_L_law_325 b_L_law_1515
    simp only [a1, a2, a3, obs]
    obtain ⟨T2, hT2, e⟩ := law_c (op_set h (xs (i + 1)) (xs (i + 2)) (xs (i + 3))) (fun hh => f_L_law_23 (L, xs) fuel hh 0 133 140 (nI i + 5))
    exact e.trans (next T2 hT2)
  rw [if_neg c1]
  by_cases c2 : xs i &&& 31 = 2
  · rw [if_pos c2]
    unfold b_L_law_393 b_L_law_1515
    simp only [a1, a2, obs]
    obtain ⟨T2, hT2, e⟩ := law_c (op_setNeeds h (xs (i + 1)) (xs (i + 2))) (fun hh => f_L_law_23 (L, xs) fuel hh 0 133 140 (nI i + 5))
    exact e.trans (next T2 hT2)
  rw [if_neg c2]
  by_cases c3 : xs i &&& 31 = 3
  · rw [if_pos c3]
    unfold b_L_law_449 b_L_law_1515
    simp only [a1, obs]
    obtain ⟨T2, hT2, e⟩ := law_c (op_setResidue h (xs (i + 1))) (fun hh => f_L_law_23 (L, xs) fuel hh 0 133 140 (nI i + 5))
    exact e.trans (next T2 hT2)
  rw [if_neg c3]
  by_cases c4 : xs i &&& 31 = 4
  · rw [if_pos c4]
    unfold b_L_law_505 b_L_law_1515
    simp only [a1, obs]
    obtain ⟨T2, hT2, e⟩ := law_c (op_on h (xs (i + 1))) (fun hh => f_L_law_23 (L, xs) fuel hh 0 133 140 (nI i + 5))
    exact e.trans (next T2 hT2)
  rw [if_neg c4]
  by_cases c5 : xs i &&& 31 = 5
  · rw [if_pos c5]
    unfold b_L_law_561 b_L_law_1515
    simp only [a1, obs]
    obtain ⟨T2, hT2, e⟩ := law_c (op_off h (xs (i + 1))) (fun hh => f_L_law_23 (L, xs) fuel hh 0 133 140 (nI i + 5))
    exact e.trans (next T2 hT2)
  rw [if_neg c5]
  by_cases c6 : xs i &&& 31 = 6
  · rw [if_pos c6]
    unfold b_L_law_617 b_L_law_1515
    simp only [a1, obs]
    obtain ⟨T2, hT2, e⟩ := law_c (op_restart h (xs (i + 1))) (fun hh => f_L_law_23 (L, xs) fuel hh 0 133 140 (nI i + 5))
    exact e.trans (next T2 hT2)
  rw [if_neg c6]
  by_cases c7 : xs i &&& 31 = 7
  · rw [if_pos c7]
    unfold b_L_law_685 b_L_law_1515
    simp only [a1, a2, obs]
    obtain ⟨T2, hT2, e⟩ := law_c (op_shortCircuit h (xs (i + 1)) (xs (i + 2))) (fun hh => f_L_law_23 (L, xs) fuel hh 0 133 140 (nI i + 5))
    exact e.trans (next T2 hT2)
  rw [if_neg c7]
  by_cases c8 : xs i &&& 31 = 8
  · rw [if_pos c8]
    unfold b_L_law_753 b_L_law_1515
    simp only [a1, a2, obs]
    obtain ⟨T2, hT2, e⟩ := law_c (op_stick h (xs (i + 1)) (xs (i + 2))) (fun hh => f_L_law_23 (L, xs) fuel hh 0 133 140 (nI i + 5))
    exact e.trans (next T2 hT2)
  rw [if_neg c8]
  by_cases c9 : xs i &&& 31 = 9
  · rw [if_pos c9]
    unfold b_L_law_809 b_L_law_1515
    simp only [a1, obs]
    obtain ⟨T2, hT2, e⟩ := law_c (op_tick h (xs (i + 1))) (fun hh => f_L_law_23 (L, xs) fuel hh 0 133 140 (nI i + 5))
    exact e.trans (next T2 hT2)
  rw [if_neg c9]
  by_cases c10 : xs i &&& 31 = 10
  · rw [if_pos c10]
    unfold b_L_law_865 b_L_law_1515
    simp only [a1, obs]
    obtain ⟨T2, hT2, e⟩ := law_c (op_append h (xs (i + 1))) (fun hh => f_L_law_23 (L, xs) fuel hh 0 133 140 (nI i + 5))
    exact e.trans (next T2 hT2)
  rw [if_neg c10]
  by_cases c11 : xs i &&& 31 = 11
  · rw [if_pos c11]
    unfold b_L_law_1515
    rw [t_v3]
    obtain ⟨T2, hT2, e⟩ := law_v (op_clearBuffer h) (fun hh => f_L_law_23 (L, xs) fuel hh 0 133 140 (nI i + 5))
    exact e.trans (next T2 hT2)
  rw [if_neg c11]
  by_cases c12 : xs i &&& 31 = 12
  · rw [if_pos c12]
    unfold b_L_law_1515
    rw [t_v3]
    obtain ⟨T2, hT2, e⟩ := law_v (op_firstError h) (fun hh => f_L_law_23 (L, xs) fuel hh 0 133 140 (nI i + 5))
    exact e.trans (next T2 hT2)
  rw [if_neg c12]
  by_cases c13 : xs i &&& 31 = 13
  · rw [if_pos c13]
    unfold b_L_law_935 b_L_law_1515
    obtain ⟨T2, hT2, e⟩ := law_c (op_load h ) (fun hh => f_L_law_23 (L, xs) fuel hh 0 133 140 (nI i + 5))
    exact e.trans (next T2 hT2)
  rw [if_neg c13]
  by_cases c14 : xs i &&& 31 = 14
  · rw [if_pos c14]
    unfold b_L_law_979 b_L_law_1515
    obtain ⟨T2, hT2, e⟩ := law_c (op_undo h ) (fun hh => f_L_law_23 (L, xs) fuel hh 0 133 140 (nI i + 5))
    exact e.trans (next T2 hT2)
  rw [if_neg c14]
  by_cases c15 : xs i &&& 31 = 15
  · rw [if_pos c15]
    unfold b_L_law_1047 b_L_law_1515
    simp only [a1, a2, obs]
    obtain ⟨T2, hT2, e⟩ := law_c (op_rail h (xs (i + 1)) (xs (i + 2))) (fun hh => f_L_law_23 (L, xs) fuel hh 0 133 140 (nI i + 5))
    exact e.trans (next T2 hT2)
  rw [if_neg c15]
  by_cases c16 : xs i &&& 31 = 16
  · rw [if_pos c16]
    unfold b_L_law_1115 b_L_law_1515
    simp only [a1, a2, obs]
    obtain ⟨T2, hT2, e⟩ := law_c (op_account h (xs (i + 1)) (xs (i + 2))) (fun hh => f_L_law_23 (L, xs) fuel hh 0 133 140 (nI i + 5))
    exact e.trans (next T2 hT2)
  rw [if_neg c16]
  by_cases c17 : xs i &&& 31 = 17
  · rw [if_pos c17]
    unfold b_L_law_1183 b_L_law_1515
    simp only [a1, a2, obs]
    obtain ⟨T2, hT2, e⟩ := law_c (op_entry h (xs (i + 1)) (xs (i + 2))) (fun hh => f_L_law_23 (L, xs) fuel hh 0 133 140 (nI i + 5))
    exact e.trans (next T2 hT2)
  rw [if_neg c17]
  by_cases c18 : xs i &&& 31 = 18
  · rw [if_pos c18]
    unfold b_L_law_1239 b_L_law_1515
    simp only [a1, obs]
    obtain ⟨T2, hT2, e⟩ := law_c (op_forget h (xs (i + 1))) (fun hh => f_L_law_23 (L, xs) fuel hh 0 133 140 (nI i + 5))
    exact e.trans (next T2 hT2)
  rw [if_neg c18]
  by_cases c19 : xs i &&& 31 = 19
  · rw [if_pos c19]
    unfold b_L_law_1295 b_L_law_1515
    simp only [a1, obs]
    obtain ⟨T2, hT2, e⟩ := law_c (op_count h (xs (i + 1))) (fun hh => f_L_law_23 (L, xs) fuel hh 0 133 140 (nI i + 5))
    exact e.trans (next T2 hT2)
  rw [if_neg c19]
  by_cases c20 : xs i &&& 31 = 20
  · rw [if_pos c20]
    unfold b_L_law_1515
    rw [t_v3]
    obtain ⟨T2, hT2, e⟩ := law_v (op_allGoodIn h) (fun hh => f_L_law_23 (L, xs) fuel hh 0 133 140 (nI i + 5))
    exact e.trans (next T2 hT2)
  rw [if_neg c20]
  by_cases c21 : xs i &&& 31 = 21
  · rw [if_pos c21]
    unfold b_L_law_1515
    rw [t_v3]
    obtain ⟨T2, hT2, e⟩ := law_v (op_allOffIn h) (fun hh => f_L_law_23 (L, xs) fuel hh 0 133 140 (nI i + 5))
    exact e.trans (next T2 hT2)
  rw [if_neg c21]
  by_cases c22 : xs i &&& 31 = 22
  · rw [if_pos c22]
    unfold b_L_law_1401 b_L_law_1515
    simp only [a1, a2, a3, obs]
    obtain ⟨T2, hT2, e⟩ := law_c (op_ifShort h (xs (i + 1)) (xs (i + 2)) (xs (i + 3))) (fun hh => f_L_law_23 (L, xs) fuel hh 0 133 140 (nI i + 5))
    exact e.trans (next T2 hT2)
  rw [if_neg c22]
  by_cases c23 : xs i &&& 31 = 23
  · rw [if_pos c23]
    unfold b_L_law_1457 b_L_law_1515
    simp only [a1, obs]
    obtain ⟨T2, hT2, e⟩ := law_c (op_leastPatience h (xs (i + 1))) (fun hh => f_L_law_23 (L, xs) fuel hh 0 133 140 (nI i + 5))
    exact e.trans (next T2 hT2)
  rw [if_neg c23]
  by_cases c24 : xs i &&& 31 = 24
  · rw [if_pos c24]
    unfold b_L_law_1498 b_L_law_1515
    obtain ⟨v, e1, e2, e3⟩ := op_goodShare h
    rw [t_v3, e1, obs, t_vm, e2, obs, e3, if_pos rfl]
    exact next _ ⟨n, s, INV_no h 0⟩
  rw [if_neg c24]
  by_cases c25 : xs i &&& 31 = 25
  · rw [if_pos c25]
    unfold b_L_law_1515
    rw [t_v3]
    obtain ⟨T2, hT2, e⟩ := law_l (op_digest h) (fun hh => f_L_law_23 (L, xs) fuel hh 0 133 140 (nI i + 5))
    exact e.trans (next T2 hT2)
  rw [if_neg c25]
  unfold b_L_law_1515
  exact next T ⟨n, s, h⟩
theorem law_loop (L : Nat) (xs : Nat → Int32) (hL : L ≤ 2560) : ∀ (m i fuel : Nat) (T : TS), IV T → L ≤ i + 5 * m + 4 → i ≤ L → m < fuel → f_L_law_23 (L, xs) fuel (HT T) 0 133 140 (nI i) = some 1 := by
  intro m
  induction m with
  | zero =>
    intro i fuel T hT h1 hi hf
    obtain ⟨fuel, rfl⟩ : ∃ f, fuel = f + 1 := ⟨fuel - 1, by omega⟩
    show b_L_law_23 _ _ _ _ _ _ _ = _
    unfold b_L_law_23
    rw [if_pos]
    show nI L - nI 5 < nI i
    rw [Int32.lt_iff_toInt_lt, pk_sub_toInt (by omega) (by omega), nI_toInt (by omega)]
    omega
  | succ m ih =>
    intro i fuel T hT h1 hi hf
    obtain ⟨fuel, rfl⟩ : ∃ f, fuel = f + 1 := ⟨fuel - 1, by omega⟩
    by_cases h5 : i + 5 ≤ L
    · refine law_step L xs hT h5 hL (fun T2 hT2 => ?_)
      rw [show nI i + 5 = nI (i + 5) from nI_add i 5]
      exact ih (i + 5) fuel T2 hT2 (by omega) h5 (by omega)
    · show b_L_law_23 _ _ _ _ _ _ _ = _
      unfold b_L_law_23
      rw [if_pos]
      show nI L - nI 5 < nI i
      rw [Int32.lt_iff_toInt_lt, pk_sub_toInt (by omega) (by omega), nI_toInt (by omega)]
      omega
theorem law_true (L : Nat) (xs : Nat → Int32) (hL : L ≤ 2560) : f_L_law (L, xs) [] = some 1 := by
  rw [law_init]
  exact law_loop L xs hL 512 0 FU T0 IV_0 (by omega) (by omega) (by rw [FU_eq]; omega)
