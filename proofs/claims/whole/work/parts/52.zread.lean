/-! the model: a bit, a flag, a voltage's move, what is missing, what is used -/
theorem tb_has (x : Int32) {k : Nat} (hk : k < 31) : ((x >>> (nI k &&& 31)) &&& (1 : Int32)) = 1 ↔ tb x k = true := by
  have hs : ((nI k &&& 31).toBitVec.smod 32).toNat = k := by
    have key : ∀ r, r < 31 → ((nI r &&& 31).toBitVec.smod 32).toNat = r := by decide +kernel
    exact key k hk
  have h0 : ∀ i, i < 32 → ((x.toBitVec.sshiftRight k) &&& 1#32).getLsbD i = (decide (i = 0) && tb x k) := by
    intro i hi
    by_cases h : i = 0
    · subst h
      rw [BitVec.getLsbD_and, BitVec.getLsbD_sshiftRight, if_pos (by omega), show (1#32).getLsbD 0 = true from rfl]
      show ((true && tb x k) && true) = (true && tb x k)
      cases tb x k <;> rfl
    · simp [BitVec.getLsbD_one, h]
  have e : ((x >>> (nI k &&& 31)) &&& (1 : Int32)).toBitVec = (x.toBitVec.sshiftRight k) &&& 1#32 := by
    show (x.toBitVec.sshiftRight ((nI k &&& 31).toBitVec.smod 32).toNat) &&& 1#32 = _
    rw [hs]
  rw [← Int32.toBitVec_inj, e]
  constructor
  · intro h
    have := h0 0 (by omega)
    rw [h] at this
    simpa using this.symm
  · intro h
    apply BitVec.eq_of_getLsbD_eq
    intro i hi
    rw [h0 i hi, h]
    show _ = (1#32).getLsbD i
    simp [BitVec.getLsbD_one]
theorem i_small {x : Int} (h1 : -2147483648 ≤ x) (h2 : x < 2147483648) : x.bmod (2 ^ 32) = x := by
  rw [Int.bmod_def]
  omega
theorem i_add {a b : Int32} (h1 : -2147483648 ≤ a.toInt + b.toInt) (h2 : a.toInt + b.toInt < 2147483648) : (a + b).toInt = a.toInt + b.toInt := by
  rw [Int32.toInt_add, i_small h1 h2]
theorem i_sub {a b : Int32} (h1 : -2147483648 ≤ a.toInt - b.toInt) (h2 : a.toInt - b.toInt < 2147483648) : (a - b).toInt = a.toInt - b.toInt := by
  rw [Int32.toInt_sub, i_small h1 h2]
theorem i_neg {a : Int32} (h1 : -2147483648 ≤ -a.toInt) (h2 : -a.toInt < 2147483648) : (-a).toInt = -a.toInt := by
  rw [Int32.toInt_neg, i_small h1 h2]
/-- a small number -/
def sm (x : Int32) : Prop := 0 ≤ x.toInt ∧ x.toInt ≤ 1000000
theorem z_has (h : MH) (x : Int32) {k : Nat} (hk : k < 31) : f_X4_has h x (nI k) = some (if tb x k = true then 1 else 0) := by
  unfold f_X4_has
  by_cases hb : tb x k = true
  · rw [if_pos ((tb_has x hk).2 hb), if_pos hb]
    rfl
  · rw [if_neg (fun h => hb ((tb_has x hk).1 h)), if_neg hb]
    rfl
theorem z_towards (h : MH) {v g s : Int32} (hv : sm v) (hg : sm g) (hs : sm s) : f_X4_towards h v g s = some (mvV g s v) := by
  unfold f_X4_towards b_X4_towards_26 mvV mmax mmin sm at *
  have e1 : (g - v).toInt = g.toInt - v.toInt := i_sub (by omega) (by omega)
  have e2 : (-s).toInt = -s.toInt := i_neg (by omega) (by omega)
  have e3 : (v - s).toInt = v.toInt - s.toInt := i_sub (by omega) (by omega)
  have e4 : (v + s).toInt = v.toInt + s.toInt := i_add (by omega) (by omega)
  have e5 : (v + (g - v)).toInt = g.toInt := by rw [i_add (by omega) (by omega), e1]; omega
  have e6 : (v + -s).toInt = v.toInt - s.toInt := by rw [i_add (by omega) (by omega), e2]; omega
  simp only [Option.bind_some, Int32.le_iff_toInt_le, Int32.lt_iff_toInt_lt, e1, e2, e3, e4]
  split <;> (try split) <;> (try split) <;> (try split) <;> (try split) <;> refine congrArg some (Int32.toInt_inj.1 ?_) <;> omega
variable {G : Nat → MC} {b : Nat} {M : MV}
theorem z_flag (hb : b ≤ 134) {r : Nat} (hr : r < 8) : f_X4_isFlag (hm G b M) b (nI r) = some (if flgR (rowZ (M.2 1) r) = true then 1 else 0) := by
  simp only [f_X4_isFlag, b_X4_isFlag_31, b_X4_isFlag_62, Option.bind_some, b228_0, b228_1, b228_2, b228_3, m_v hb, m_R1 hb, m_R8 hb, m_a1 hb, m_a8 hb, m_of0 hb hr, m_of1 hb hr, m_of2 hb hr, m_of3 hb hr, m_of4 hb hr, m_of5 hb hr, m_of6 hb hr, m_of7 hb hr, m_of8 hb hr, m_of9 hb hr, m_of10 hb hr, m_of11 hb hr, m_of12 hb hr, m_of13 hb hr, m_of14 hb hr, m_of15 hb hr, m_of16 hb hr, m_of17 hb hr, m_of18 hb hr, m_of19 hb hr, m_lay0 hb hr, m_lay1 hb hr, m_lay2 hb hr, m_lay3 hb hr, m_lay4 hb hr, m_lay5 hb hr, m_lay6 hb hr, m_lay7 hb hr, m_lay8 hb hr, m_lay9 hb hr, m_lay10 hb hr, m_lay11 hb hr, m_lay12 hb hr, m_lay13 hb hr, m_lay14 hb hr, m_lay15 hb hr, m_lay16 hb hr, m_lay17 hb hr, m_lay18 hb hr, m_lay19 hb hr, m_add13 hb hr, m_add14 hb hr, m_add16 hb hr, m_add17 hb hr, m_add18 hb hr, m_add19 hb hr, wZ_1, wZ_z, wZ_8, wZ_wZ, i11, i01, flgR, flg]
  by_cases h1 : rowZ (M.2 1) r 11 = 0
  · by_cases h3 : rowZ (M.2 1) r 10 * 100 < rowZ (M.2 1) r 0 * rowZ (M.2 1) r 3
    · simp only [h1, h3, if_true, decide_true, Bool.not_true, Bool.false_eq_true, if_false, i01]
    · simp only [h1, h3, if_true, decide_false, Bool.not_false, if_false, i11]
  · by_cases h2 : rowZ (M.2 1) r 11 = 2 <;> simp [h1, h2]
theorem z_dis (hb : b ≤ 134) {r : Nat} (hr : r < 8) : f_X4_isDischarged (hm G b M) b (nI r) = some (if M.2 1 1 < rowZ (M.2 1) r 10 then 0 else 1) := by
  simp only [f_X4_isDischarged, b_X4_isDischarged_21, Option.bind_some, b228_0, b228_1, b228_2, b228_3, m_v hb, m_R1 hb, m_R8 hb, m_a1 hb, m_a8 hb, m_of0 hb hr, m_of1 hb hr, m_of2 hb hr, m_of3 hb hr, m_of4 hb hr, m_of5 hb hr, m_of6 hb hr, m_of7 hb hr, m_of8 hb hr, m_of9 hb hr, m_of10 hb hr, m_of11 hb hr, m_of12 hb hr, m_of13 hb hr, m_of14 hb hr, m_of15 hb hr, m_of16 hb hr, m_of17 hb hr, m_of18 hb hr, m_of19 hb hr, m_lay0 hb hr, m_lay1 hb hr, m_lay2 hb hr, m_lay3 hb hr, m_lay4 hb hr, m_lay5 hb hr, m_lay6 hb hr, m_lay7 hb hr, m_lay8 hb hr, m_lay9 hb hr, m_lay10 hb hr, m_lay11 hb hr, m_lay12 hb hr, m_lay13 hb hr, m_lay14 hb hr, m_lay15 hb hr, m_lay16 hb hr, m_lay17 hb hr, m_lay18 hb hr, m_lay19 hb hr, m_add13 hb hr, m_add14 hb hr, m_add16 hb hr, m_add17 hb hr, m_add18 hb hr, m_add19 hb hr, wZ_1, wZ_z, wZ_8, wZ_wZ, i11, i01, ite_some, bd_lit (n := 228) (r := 1) (by decide) (by decide)]
theorem z_missLoop (hb : b ≤ 134) {r : Nat} (hr : r < 8) : ∀ (k fuel m : Nat) (x : Int32), k + m = r → k < fuel → x = badF (M.2 8) (rowZ (M.2 1)) (rowZ (M.2 1) r 7) k m → f_X4_missing_6 (hm G b M) fuel b (nI r) x (nI k - 1) = some (badF (M.2 8) (rowZ (M.2 1)) (rowZ (M.2 1) r 7) 0 r) := by
  intro k
  induction k with
  | zero =>
    intro fuel m x hk hf hx
    obtain ⟨fuel, rfl⟩ : ∃ f, fuel = f + 1 := ⟨fuel - 1, by omega⟩
    show b_X4_missing_6 _ _ _ _ _ _ = _
    unfold b_X4_missing_6
    rw [if_pos (by decide), hx, show m = r by omega]
  | succ k ih =>
    intro fuel m x hk hf hx
    obtain ⟨fuel, rfl⟩ : ∃ f, fuel = f + 1 := ⟨fuel - 1, by omega⟩
    show b_X4_missing_6 _ _ _ _ _ _ = _
    unfold b_X4_missing_6
    have hk8 : k < 8 := by omega
    rw [show nI (k + 1) - 1 = nI k from by rw [← nI_1]; exact Int32.add_sub_cancel _ _, if_neg (by intro h; exact absurd h (by rw [Int32.not_lt]; exact nI_le (a := 0) (by omega) (by omega)))]
    have ih := fun x => ih fuel (m + 1) x (by omega) (by omega)
    rw [show nI k - 1 = nI k + -1 from Int32.sub_eq_add_neg _ _] at ih
    simp only [Option.bind_some, b228_0, b228_1, b228_2, b228_3, m_v hb, m_R1 hb, m_R8 hb, m_a1 hb, m_a8 hb, m_of0 hb hr, m_of1 hb hr, m_of2 hb hr, m_of3 hb hr, m_of4 hb hr, m_of5 hb hr, m_of6 hb hr, m_of7 hb hr, m_of8 hb hr, m_of9 hb hr, m_of10 hb hr, m_of11 hb hr, m_of12 hb hr, m_of13 hb hr, m_of14 hb hr, m_of15 hb hr, m_of16 hb hr, m_of17 hb hr, m_of18 hb hr, m_of19 hb hr, m_lay0 hb hr, m_lay1 hb hr, m_lay2 hb hr, m_lay3 hb hr, m_lay4 hb hr, m_lay5 hb hr, m_lay6 hb hr, m_lay7 hb hr, m_lay8 hb hr, m_lay9 hb hr, m_lay10 hb hr, m_lay11 hb hr, m_lay12 hb hr, m_lay13 hb hr, m_lay14 hb hr, m_lay15 hb hr, m_lay16 hb hr, m_lay17 hb hr, m_lay18 hb hr, m_lay19 hb hr, m_add13 hb hr, m_add14 hb hr, m_add16 hb hr, m_add17 hb hr, m_add18 hb hr, m_add19 hb hr, wZ_1, wZ_z, wZ_8, wZ_wZ, z_has _ _ (show k < 31 by omega), bd_nI (show k < 8 by omega) (by decide : 8 < 2 ^ 31), z_flag hb hk8, b_X4_missing_47, b_X4_missing_46, b_X4_missing_42, ite01]
    have hbad : badF (M.2 8) (rowZ (M.2 1)) (rowZ (M.2 1) r 7) k (m + 1) = if tb (rowZ (M.2 1) r 7) k = true ∧ (¬ M.2 8 k = 3 ∨ flgR (rowZ (M.2 1) k) = false) then nI k else x := by rw [hx]; rfl
    by_cases h1 : tb (rowZ (M.2 1) r 7) k = true
    · by_cases h2 : M.2 8 k = 3
      · rcases Bool.eq_false_or_eq_true (flgR (rowZ (M.2 1) k)) with h3 | h3
        · rw [if_pos h1, if_pos h2, if_pos h3]
          exact ih x (by rw [hbad, if_neg (by simp [h2, h3])])
        · rw [if_pos h1, if_pos h2, if_neg (by simp [h3])]
          exact ih _ (by rw [hbad, if_pos (by simp [h1, h3])])
      · rw [if_pos h1, if_neg h2]
        exact ih _ (by rw [hbad, if_pos (by simp [h1, h2])])
    · rw [if_neg h1]
      exact ih x (by rw [hbad, if_neg (by simp [h1])])
theorem z_miss (hb : b ≤ 134) {r : Nat} (hr : r < 8) : f_X4_missing (hm G b M) b (nI r) = some (badR (M.2 8) (rowZ (M.2 1)) r) := by
  unfold f_X4_missing
  simp only [Option.bind_some]
  exact z_missLoop hb hr r FU 0 (-1) (by omega) (by rw [FU_eq]; omega) rfl
theorem z_usedLoop (hb : b ≤ 134) {r n : Nat} (hr : r < 8) (hn : M.2 1 0 = nI n) (hn8 : n ≤ 8) : ∀ (m k fuel : Nat) (u : Bool), k + m = n → m < fuel → f_X4_isUsed_6 (hm G b M) fuel b (nI r) (if u = true then 1 else 0) (nI k) = some (if (u || !restF (M.2 8) (rowZ (M.2 1)) (M.2 1 1) r k m) = true then 1 else 0) := by
  intro m
  induction m with
  | zero =>
    intro k fuel u hk hf
    obtain ⟨fuel, rfl⟩ : ∃ f, fuel = f + 1 := ⟨fuel - 1, by omega⟩
    show b_X4_isUsed_6 _ _ _ _ _ _ = _
    simp only [b_X4_isUsed_6, Option.bind_some, b228_0, b228_1, b228_2, b228_3, m_v hb, m_R1 hb, m_R8 hb, m_a1 hb, m_a8 hb, m_of0 hb hr, m_of1 hb hr, m_of2 hb hr, m_of3 hb hr, m_of4 hb hr, m_of5 hb hr, m_of6 hb hr, m_of7 hb hr, m_of8 hb hr, m_of9 hb hr, m_of10 hb hr, m_of11 hb hr, m_of12 hb hr, m_of13 hb hr, m_of14 hb hr, m_of15 hb hr, m_of16 hb hr, m_of17 hb hr, m_of18 hb hr, m_of19 hb hr, m_lay0 hb hr, m_lay1 hb hr, m_lay2 hb hr, m_lay3 hb hr, m_lay4 hb hr, m_lay5 hb hr, m_lay6 hb hr, m_lay7 hb hr, m_lay8 hb hr, m_lay9 hb hr, m_lay10 hb hr, m_lay11 hb hr, m_lay12 hb hr, m_lay13 hb hr, m_lay14 hb hr, m_lay15 hb hr, m_lay16 hb hr, m_lay17 hb hr, m_lay18 hb hr, m_lay19 hb hr, m_add13 hb hr, m_add14 hb hr, m_add16 hb hr, m_add17 hb hr, m_add18 hb hr, m_add19 hb hr, wZ_1, wZ_z, wZ_8, wZ_wZ, hn, bd_lit (n := 228) (r := 0) (by decide) (by decide)]
    rw [if_pos (nI_le (by omega) (by omega))]
    cases u <;> rfl
  | succ m ih =>
    intro k fuel u hk hf
    obtain ⟨fuel, rfl⟩ : ∃ f, fuel = f + 1 := ⟨fuel - 1, by omega⟩
    have hk8 : k < 8 := by omega
    have ih := fun u => ih (k + 1) fuel u (by omega) (by omega)
    show b_X4_isUsed_6 _ _ _ _ _ _ = _
    simp only [b_X4_isUsed_6, Option.bind_some, b228_0, b228_1, b228_2, b228_3, m_v hb, m_R1 hb, m_R8 hb, m_a1 hb, m_a8 hb, m_of0 hb hr, m_of1 hb hr, m_of2 hb hr, m_of3 hb hr, m_of4 hb hr, m_of5 hb hr, m_of6 hb hr, m_of7 hb hr, m_of8 hb hr, m_of9 hb hr, m_of10 hb hr, m_of11 hb hr, m_of12 hb hr, m_of13 hb hr, m_of14 hb hr, m_of15 hb hr, m_of16 hb hr, m_of17 hb hr, m_of18 hb hr, m_of19 hb hr, m_lay0 hb hr, m_lay1 hb hr, m_lay2 hb hr, m_lay3 hb hr, m_lay4 hb hr, m_lay5 hb hr, m_lay6 hb hr, m_lay7 hb hr, m_lay8 hb hr, m_lay9 hb hr, m_lay10 hb hr, m_lay11 hb hr, m_lay12 hb hr, m_lay13 hb hr, m_lay14 hb hr, m_lay15 hb hr, m_lay16 hb hr, m_lay17 hb hr, m_lay18 hb hr, m_lay19 hb hr, m_add13 hb hr, m_add14 hb hr, m_add16 hb hr, m_add17 hb hr, m_add18 hb hr, m_add19 hb hr, wZ_1, wZ_z, wZ_8, wZ_wZ, hn, bd_lit (n := 228) (r := 0) (by decide) (by decide)]
    rw [if_neg (nI_ge (by omega) (by omega))]
    have ih1 : f_X4_isUsed_6 (hm G b M) fuel b (nI r) 1 (nI (k + 1)) = some 1 := by have := ih true; simpa using this
    have key : ∀ s0 : Int32, b_X4_isUsed_48 (hm G b M) (f_X4_isUsed_6 (hm G b M) fuel) b (nI r) (if u = true then 1 else 0) (nI k) s0 = some (if (u || ((tb (rowZ (M.2 1) k 7) r && decide (s0 = 0)) || !restF (M.2 8) (rowZ (M.2 1)) (M.2 1 1) r (k + 1) m)) = true then 1 else 0) := by
      intro s0
      simp only [b_X4_isUsed_48, b_X4_isUsed_73, b_X4_isUsed_77, b_X4_isUsed_78, m_v hb, m_of7 hb hk8, Option.bind_some, z_has _ _ (show r < 31 by omega), ite01, nI_1]
      cases u with
      | true => simpa using ih1
      | false =>
        rw [if_neg (by simp)]
        rcases Bool.eq_false_or_eq_true (tb (rowZ (M.2 1) k 7) r) with h1 | h1
        · by_cases h0 : s0 = 0
          · simpa [h1, h0] using ih1
          · simpa [h1, h0] using ih false
        · simpa [h1] using ih false
    simp only [z_dis hb hk8, ite01, Option.bind_some, bd_nI (show k < 8 by omega) (by decide : 8 < 2 ^ 31), b_X4_isUsed_43, b_X4_isUsed_47, key, restF]
    by_cases h1 : M.2 1 1 < rowZ (M.2 1) k 10
    · simp [h1, Bool.or_assoc]
    · by_cases h2 : M.2 8 k = 0
      · simp [h1, h2, n10]
      · by_cases h3 : M.2 8 k = 5
        · simp [h1, h3, n10]
        · simp [h1, h2, h3]
theorem z_used (hb : b ≤ 134) {r n : Nat} (hr : r < n) (hn : M.2 1 0 = nI n) (hn8 : n ≤ 8) : f_X4_isUsed (hm G b M) b (nI r) = some (if restF (M.2 8) (rowZ (M.2 1)) (M.2 1 1) r (r + 1) (n - (r + 1)) = true then 0 else 1) := by
  simp only [f_X4_isUsed, Option.bind_some, nI_1]
  have := z_usedLoop (G := G) hb (show r < 8 by omega) hn hn8 _ (r + 1) FU false (by omega : r + 1 + (n - (r + 1)) = n) (by rw [FU_eq]; omega)
  rw [if_neg (by simp)] at this
  rw [this]
  cases restF (M.2 8) (rowZ (M.2 1)) (M.2 1 1) r (r + 1) (n - (r + 1)) <;> rfl
