/-! what is only read: the least patience -/
theorem rA_5L : rA 7 roL (5 : Int32) = some 1 := rfl
theorem rA_5M : rA 7 roM (5 : Int32) = some 200 := rfl
def lpF (a c d : Nat) : Nat → Nat → Int32
  | 0, _ => -1
  | m + 1, k => if k * (c * 100) < a * d then lpF a c d m (k + 1) else nI k
theorem mvV_nat {a c u : Nat} (ha : a ≤ 5000) (hc : 1 ≤ c) (hc2 : c ≤ 1000) (hu : u ≤ a) : mvV (nI a) (nI c) (nI u) = nI (min a (u + c)) := by
  unfold mvV mmax mmin
  by_cases h : a ≤ u
  · obtain rfl : a = u := by omega
    rw [if_pos (nI_le (Nat.le_refl _) (by omega)), if_neg, show min a (a + c) = a by omega]
    rw [Int32.lt_iff_toInt_lt, pk_sub_toInt (by omega) (by omega), nI_toInt (by omega)]
    omega
  · rw [if_neg (nI_ge (by omega) (by omega)), nI_add]
    by_cases h2 : u + c < a
    · rw [if_pos (nI_lt h2 (by omega)), show min a (u + c) = u + c by omega]
    · rw [if_neg, show min a (u + c) = a by omega]
      rw [nI_ltI (by omega) (by omega)]
      omega
theorem sm_nat {u : Nat} (h : u ≤ 1000000) : sm (nI u) := by
  unfold sm
  rw [nI_toInt (by omega)]
  omega
variable {G : Nat → MC} {b : Nat}
theorem a_patLoop (h : MH) {a c d : Nat} (ha : a ≤ 5000) (hc2 : c ≤ 1000) (hd : d ≤ 100) : ∀ (m k fuel : Nat), k + m = 201 → m < fuel → f_X1_leastPatienceOf_31 h fuel (nI (a * d)) (nI (c * 100)) (nI k) = some (lpF a c d m k) := by
  intro m
  induction m with
  | zero =>
    intro k fuel hk hf
    obtain ⟨fuel, rfl⟩ : ∃ f, fuel = f + 1 := ⟨fuel - 1, by omega⟩
    show b_X1_leastPatienceOf_31 h (f_X1_leastPatienceOf_31 h fuel) _ _ _ = _
    unfold b_X1_leastPatienceOf_31
    rw [rA_5M, obs, if_pos (by rw [show (200 : Int32) = nI 200 from rfl]; exact nI_lt (by omega) (by omega))]
    rfl
  | succ m ih =>
    intro k fuel hk hf
    obtain ⟨fuel, rfl⟩ : ∃ f, fuel = f + 1 := ⟨fuel - 1, by omega⟩
    show b_X1_leastPatienceOf_31 h (f_X1_leastPatienceOf_31 h fuel) _ _ _ = _
    unfold b_X1_leastPatienceOf_31 lpF
    have h1 : a * d ≤ 5000 * 100 := Nat.mul_le_mul ha hd
    have h2 : k * (c * 100) ≤ 201 * (1000 * 100) := Nat.mul_le_mul (by omega) (by omega)
    have hlt : nI k * nI (c * 100) < nI (a * d) ↔ k * (c * 100) < a * d := by
      rw [pk_mul, nI_ltI (by omega) (by omega)]
    rw [rA_5M, obs, if_neg (by rw [show (200 : Int32) = nI 200 from rfl, nI_ltI (by omega) (by omega)]; omega)]
    by_cases hx : k * (c * 100) < a * d
    · rw [if_pos (hlt.2 hx), if_pos hx, nI_1]
      exact ih (k + 1) fuel (by omega) (by omega)
    · rw [if_neg (fun hh => hx (hlt.1 hh)), if_neg hx]
theorem z_patLoop (hb : b ≤ 134) {M : MV} {r a c d : Nat} (hr : r < 8) (ha : a ≤ 5000) (hc : 1 ≤ c) (hc2 : c ≤ 1000) (hd : d ≤ 100) (e0 : rowZ (M.2 1) r 0 = nI a) (e1 : rowZ (M.2 1) r 1 = nI c) (e3 : rowZ (M.2 1) r 3 = nI d) : ∀ (m k fuel : Nat), k + m = 201 → 1 ≤ k → m < fuel → f_X4_patienceFor_4 (hm G b M) fuel b (nI r) (nI (min a ((k - 1) * c))) (nI k) = some (lpF a c d m k) := by
  intro m
  induction m with
  | zero =>
    intro k fuel hk hk1 hf
    obtain ⟨fuel, rfl⟩ : ∃ f, fuel = f + 1 := ⟨fuel - 1, by omega⟩
    show b_X4_patienceFor_4 _ _ _ _ _ _ = _
    unfold b_X4_patienceFor_4
    rw [if_pos (by rw [show (200 : Int32) = nI 200 from rfl]; exact nI_lt (by omega) (by omega))]
    rfl
  | succ m ih =>
    intro k fuel hk hk1 hf
    obtain ⟨fuel, rfl⟩ : ∃ f, fuel = f + 1 := ⟨fuel - 1, by omega⟩
    have ih := ih (k + 1) fuel (by omega) (by omega) (by omega)
    show b_X4_patienceFor_4 _ _ _ _ _ _ = _
    unfold b_X4_patienceFor_4 lpF
    have h1 : a * d ≤ a * 100 := Nat.mul_le_mul (Nat.le_refl _) hd
    have ek : (k - 1) * c + c = k * c := by
      obtain ⟨j, rfl⟩ : ∃ j, k = j + 1 := ⟨k - 1, by omega⟩
      rw [Nat.add_sub_cancel, Nat.succ_mul]
    have em : min a (min a ((k - 1) * c) + c) = min a (k * c) := by omega
    have hlt : nI (min a (k * c)) * (100 : Int32) < nI a * nI d ↔ k * (c * 100) < a * d := by
      rw [show (100 : Int32) = nI 100 from rfl, pk_mul, pk_mul, nI_ltI (by omega) (by omega), ← Nat.mul_assoc]
      omega
    rw [if_neg (by rw [show (200 : Int32) = nI 200 from rfl, nI_ltI (by omega) (by omega)]; omega)]
    rw [m_v hb, m_of0 hb hr, obs, m_v hb, m_of1 hb hr, obs, e0, e1, z_towards _ (sm_nat (by omega)) (sm_nat (by omega)) (sm_nat (by omega)), obs, mvV_nat ha hc hc2 (by omega), em, obs, m_v hb, m_of3 hb hr, obs, e3]
    by_cases hx : k * (c * 100) < a * d
    · rw [if_pos (hlt.2 hx), if_pos hx, nI_1]
      exact ih
    · rw [if_neg (fun hh => hx (hlt.1 hh)), if_neg hx]
variable {T : TS}
theorem nat_of {x : Int32} {lo hi : Int} (h0 : 0 ≤ lo) (h : lo ≤ x.toInt ∧ x.toInt ≤ hi) : ∃ a : Nat, lo ≤ a ∧ (a : Int) ≤ hi ∧ x = nI a := by
  have hx : ¬ x < 0 := by
    rw [Int32.lt_iff_toInt_lt]
    have e0 : (0 : Int32).toInt = 0 := rfl
    omega
  obtain ⟨a, ha, rfl⟩ := nI_of hx
  rw [nI_toInt ha] at h
  exact ⟨a, h.1, h.2, rfl⟩
theorem op_leastPatience {n s : Nat} (h : INV T n s) (x : Int32) : OKc T (f_L_leastPatience (HT T) 0 x 140) (fun h => vcall h 4 133 (f_X4_leastPatience h 133 x)) := by
  have h' := h
  obtain ⟨hs, hS, hM, hσ, hz, ha, hv, hbf⟩ := h'
  have hz' := hz
  obtain ⟨hn8, h0, z0, z1, z2, hrow, hw, hl, hwn, hok⟩ := hz'
  have hb : 133 ≤ 134 := by decide
  have e14 : ∀ (G : Nat → MC) (c : Int32), b_X4_leastPatience_14 (hm G 133 T.2.2.1) 133 x 133 c = if c ≤ 0 then (f_X4_patienceFor (hm G 133 (mS T.2.2.1 0 c)) 133 x).bind (fun v => some (v, hm G 133 (mS T.2.2.1 0 c))) else some (0, hm G 133 (mS T.2.2.1 0 c)) := by
    intro G c
    unfold b_X4_leastPatience_14 b_X4_leastPatience_33
    simp only [m_P0 hb, m_I0 hb, m_v hb, obs, mS_0]
  unfold f_L_leastPatience
  rw [t_v3]
  rcases rail_cases hn8 x with ⟨r, hr, rfl⟩ | hx
  · have hR := rail_not hn8 hr
    obtain ⟨b0, b1, b2, b3, b7, b9, b10, b12, b15⟩ := hok r hr
    obtain ⟨a, a1, a2, a3⟩ := nat_of (by decide) b0
    obtain ⟨c, c1, c2, c3⟩ := nat_of (by decide) b1
    obtain ⟨d, d1, d2, d3⟩ := nat_of (by decide) b3
    have e1 : f_X3_leastPatience (HT T) 0 (nI r) = some (.inr (lpF a c d 200 1, HT T)) := by
      unfold f_X3_leastPatience
      rw [t_v3, c_isRail h0, obs, if_neg hR, if_neg n10, t_R0, obs, q_v1]
      unfold f_X1_leastPatienceOf
      rw [q_v1, q_v1, q_v1, HT0, a_prop0 (by decide) (by omega), obs]
      have p3 : f_X1_propertyOf (hp (gT T) 1 (T.1.2.2 0)) 1 (nI r) 3 = some (rowP (T.1.2.2 0) r 3) := by
        unfold f_X1_propertyOf
        rw [p_R4 (by decide), obs, p_a4 (by decide), ix7, ixa3, bd_nI (by omega) (by decide), obs]
        rfl
      rw [p3, obs, obs, a_prop1 (by decide) (by omega), obs, obs, rA_5L, obs, a3, c3, d3, pk_mul, show (100 : Int32) = nI 100 from rfl, pk_mul]
      rw [show (1 : Int32) = nI 1 from rfl, a_patLoop _ (by omega) (by omega) (by omega) 200 1 FU (by omega) (by rw [FU_eq]; omega), obs]
    rw [e1]
    refine OK_see h (a := lpF a c d 200 1) ?_ (fun G => ?_)
    · rw [obs, Sum.elim_inr, t_sL, obs]
    · unfold f_X4_leastPatience
      rw [m_v hb, z_isRail hb z0 hn8, obs, if_neg hR, if_neg n10, e14, if_pos (by decide)]
      unfold f_X4_patienceFor
      have t := z_patLoop (G := G) hb (M := mS T.2.2.1 0 0) (r := r) (a := a) (c := c) (d := d) (by omega) (by omega) (by omega) (by omega) (by omega) (by rw [← a3, hrow r hr]; rfl) (by rw [← c3, hrow r hr]; rfl) (by rw [← d3, hrow r hr]; rfl) 200 1 FU (by omega) (by omega) (by rw [FU_eq]; omega)
      rw [show min a ((1 - 1) * c) = 0 by omega, show nI 0 = (0 : Int32) from rfl, show nI 1 = (1 : Int32) from rfl] at t
      rw [t, obs]
  · have e1 : f_X3_leastPatience (HT T) 0 x = some (.inl (2, HT T)) := by
      unfold f_X3_leastPatience
      rw [t_v3, c_isRail h0, obs, if_pos hx, if_pos rfl]
    rw [e1]
    refine OK_no h (c := 1) (by decide) rfl (fun G => ?_)
    unfold f_X4_leastPatience
    rw [m_v hb, z_isRail hb z0 hn8, obs, if_pos hx, if_pos rfl, e14, if_neg (by decide)]
