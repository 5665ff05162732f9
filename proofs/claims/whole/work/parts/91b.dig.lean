/-! digest -/
def dgF (f : Nat → Int32) : Nat → Nat → Int64 → Int64
  | 0, _, h => h
  | m + 1, k, h => dgF f m (k + 1) ((31 : Int64) * h + Int32.toInt64 (f k))
theorem dgF_add (f : Nat → Int32) : ∀ (a b k : Nat) (h : Int64), dgF f (a + b) k h = dgF f b (k + a) (dgF f a k h) := by
  intro a
  induction a with
  | zero => intro b k h; rw [Nat.zero_add]; rfl
  | succ a ih =>
    intro b k h
    rw [show a + 1 + b = (a + b) + 1 by omega]
    show dgF f (a + b) (k + 1) _ = dgF f b (k + (a + 1)) (dgF f a (k + 1) _)
    rw [ih, show k + 1 + a = k + (a + 1) by omega]
theorem dgF_congr {f g : Nat → Int32} : ∀ (m k : Nat) (h : Int64), (∀ i, k ≤ i → i < k + m → f i = g i) → dgF f m k h = dgF g m k h := by
  intro m
  induction m with
  | zero => exact fun _ _ _ => rfl
  | succ m ih =>
    intro k h hfg
    unfold dgF
    rw [hfg k (by omega) (by omega)]
    exact ih (k + 1) _ (fun i h1 h2 => hfg i (by omega) (by omega))
/-- the model while it mixes -/
def MLh (M M' : MV) : Prop := (∀ k, k ≠ 6 → k ≠ 7 → M'.1.1 k = M.1.1 k) ∧ (∀ k, k < 228 → M'.2 1 k = M.2 1 k) ∧ ∀ k, k ≠ 1 → k ≠ 8 → k ≠ 9 → M'.2 k = M.2 k
theorem MLh_refl (M : MV) : MLh M M := ⟨fun _ _ _ => rfl, fun _ _ => rfl, fun _ _ _ _ => rfl⟩
theorem MLh_trans {A B C : MV} (h1 : MLh A B) (h2 : MLh B C) : MLh A C := ⟨fun k a c => (h2.1 k a c).trans (h1.1 k a c), fun k a => (h2.2.1 k a).trans (h1.2.1 k a), fun k a c d => (h2.2.2 k a c d).trans (h1.2.2 k a c d)⟩
theorem MLh_k {A B : MV} (h : MLk A B) : MLh A B := ⟨h.1, h.2.2.1, h.2.2.2⟩
theorem MLh_H (M : MV) (x : Int64) : MLh M (mH M x) := MLh_refl M
variable {G : Nat → MC}
theorem z_mix {M : MV} (x : Int64) : f_X4_mix (hm G 133 M) 133 x = some (hm G 133 (mH M ((31 : Int64) * M.1.2 + x))) := by
  unfold f_X4_mix
  rw [m_L b133, obs, m_PL b133, obs]
theorem mH_mH (M : MV) (x y : Int64) : mH (mH M x) y = mH M y := rfl
theorem RZ_h {n : Nat} {P : PV} {M M' : MV} (h : RZ n P (M.2 1)) (hq : MLh M M') : RZ n P (M'.2 1) := RZ_congr hq.2.1 h
variable {T : TS}
theorem INV_uP {n s : Nat} (h : INV T n s) (Q : PV) : INV (uP T 1 Q) n s := by
  have hq : MLk (mS T.2.2.1 0 (T.2.2.1.1.1 0)) T.2.2.1 := by
    refine ⟨fun k _ _ => ?_, rfl, fun _ _ => rfl, fun _ _ _ _ => rfl⟩
    show T.2.2.1.1.1 k = if k = 0 then T.2.2.1.1.1 0 else T.2.2.1.1.1 k
    by_cases hk : k = 0
    · rw [if_pos hk, hk]
    · rw [if_neg hk]
  exact INV_look h Q T.2.2.2 hq
/-- the ten counts -/
theorem dig_counts {n s : Nat} (h : INV T n s) : ∀ (m k fuel fu : Nat) (hh : Int64) (Q : PV), k + m = 10 → m < fuel → m < fu → ∃ Q' hh', f_X3_digest_6 fuel (HT (uP T 1 Q)) 0 hh (nI k) = f_X3_digest_33 FU (HT (uP T 1 Q')) 0 hh' 0 ∧ ∀ (G : Nat → MC) (M : MV), RZ n (T.1.2.2 0) (M.2 1) → M.1.1 2 = nI s → M.1.2 = hh → ∃ M', f_X4_digest_14 fu (hm G 133 M) 133 (nI k) = f_X4_digest_38 FU (hm G 133 M') 133 0 ∧ MLh M M' ∧ M'.1.2 = hh' := by
  intro m
  induction m with
  | zero =>
    intro k fuel fu hh Q hk hf hfu
    obtain ⟨fuel, rfl⟩ : ∃ f, fuel = f + 1 := ⟨fuel - 1, by omega⟩
    obtain ⟨fu, rfl⟩ : ∃ f, fu = f + 1 := ⟨fu - 1, by omega⟩
    have h10 : (10 : Int32) ≤ nI k := by
      rw [show (10 : Int32) = nI 10 from rfl, nI_leI (by decide) (by omega)]
      omega
    refine ⟨Q, hh, ?_, fun G M hz hM hH => ⟨M, ?_, MLh_refl M, hH⟩⟩
    · show b_X3_digest_6 _ _ _ _ _ = _
      unfold b_X3_digest_6
      rw [if_pos h10]
    · show b_X4_digest_14 _ _ _ _ = _
      unfold b_X4_digest_14
      rw [if_pos h10]
  | succ m ih =>
    intro k fuel fu hh Q hk hf hfu
    obtain ⟨fuel, rfl⟩ : ∃ f, fuel = f + 1 := ⟨fuel - 1, by omega⟩
    obtain ⟨fu, rfl⟩ : ∃ f, fu = f + 1 := ⟨fu - 1, by omega⟩
    have h10 : ¬ (10 : Int32) ≤ nI k := by
      rw [show (10 : Int32) = nI 10 from rfl, nI_leI (by decide) (by omega)]
      omega
    obtain ⟨Q2, v, c1, c2⟩ := both_count (INV_uP h Q) (w := k) (by omega)
    rw [uP_uP] at c1
    obtain ⟨Q', hh', i1, i2⟩ := ih (k + 1) fuel fu ((31 : Int64) * hh + Int32.toInt64 v) Q2 (by omega) (by omega) (by omega)
    refine ⟨Q', hh', ?_, fun G M hz hM hH => ?_⟩
    · show b_X3_digest_6 _ _ _ _ _ = _
      unfold b_X3_digest_6
      rw [if_neg h10, t_v3, c1, obs, obs, nI_1]
      exact i1
    · obtain ⟨M1, k1, k2⟩ := c2 G M hz hM
      have hk2 := MLh_k k2
      obtain ⟨M', j1, j2, j3⟩ := i2 G (mH M1 ((31 : Int64) * M1.1.2 + Int32.toInt64 v)) (RZ_h hz hk2) ((k2.1 2 (by decide) (by decide)).trans hM) (by show (31 : Int64) * M1.1.2 + Int32.toInt64 v = _; rw [k2.2.1, hH])
      refine ⟨M', ?_, MLh_trans (MLh_trans hk2 (MLh_H _ _)) j2, j3⟩
      show b_X4_digest_14 _ _ _ _ = _
      unfold b_X4_digest_14
      rw [if_neg h10, m_v b133, k1, obs, m_v b133, z_mix, obs, nI_1]
      exact j1
/-- the least patience of a rail -/
def lpV (P : PV) (r : Nat) : Int32 := lpF (rowP P r 0).toInt.toNat (rowP P r 1).toInt.toNat (rowP P r 3).toInt.toNat 200 1
theorem nat_toInt {x : Int32} {a : Nat} (ha : a < 2 ^ 31) (h : x = nI a) : x.toInt.toNat = a := by
  rw [h, nI_toInt ha, Int.toNat_natCast]
theorem c_pat {n s r : Nat} (h : INV T n s) (hr : r < n) : f_X1_leastPatienceOf (HT T) 1 (nI r) = some (lpV (T.1.2.2 0) r) := by
  obtain ⟨hs, hS, hM, hσ, hz, ha, hv, hbf⟩ := h
  obtain ⟨hn8, h0, z0, z1, z2, hrow, hw, hl, hwn, hok⟩ := hz
  obtain ⟨b0, b1, b2, b3, b7, b9, b10, b12, b15⟩ := hok r hr
  obtain ⟨a, a1, a2, a3⟩ := nat_of (by decide) b0
  obtain ⟨c, c1, c2, c3⟩ := nat_of (by decide) b1
  obtain ⟨d, d1, d2, d3⟩ := nat_of (by decide) b3
  unfold f_X1_leastPatienceOf lpV
  rw [q_v1, q_v1, q_v1, HT0, a_prop0 (by decide) (by omega), obs]
  have p3 : f_X1_propertyOf (hp (gT T) 1 (T.1.2.2 0)) 1 (nI r) 3 = some (rowP (T.1.2.2 0) r 3) := by
    unfold f_X1_propertyOf
    rw [p_R4 (by decide), obs, p_a4 (by decide), ix7, ixa3, bd_nI (by omega) (by decide), obs]
    rfl
  rw [p3, obs, obs, a_prop1 (by decide) (by omega), obs, obs, rA_5L, obs, nat_toInt (by omega) a3, nat_toInt (by omega) c3, nat_toInt (by omega) d3, a3, c3, d3, pk_mul, show (100 : Int32) = nI 100 from rfl, pk_mul]
  exact a_patLoop _ (by omega) (by omega) (by omega) 200 1 FU (by omega) (by rw [FU_eq]; omega)
theorem z_pat {P : PV} {M : MV} {n r : Nat} (h : RZ n P (M.2 1)) (hr : r < n) : f_X4_patienceFor (hm G 133 M) 133 (nI r) = some (lpV P r) := by
  obtain ⟨hn8, h0, z0, z1, z2, hrow, hw, hl, hwn, hok⟩ := h
  obtain ⟨b0, b1, b2, b3, b7, b9, b10, b12, b15⟩ := hok r hr
  obtain ⟨a, a1, a2, a3⟩ := nat_of (by decide) b0
  obtain ⟨c, c1, c2, c3⟩ := nat_of (by decide) b1
  obtain ⟨d, d1, d2, d3⟩ := nat_of (by decide) b3
  unfold f_X4_patienceFor lpV
  have t := z_patLoop (G := G) b133 (M := M) (r := r) (a := a) (c := c) (d := d) (by omega) (by omega) (by omega) (by omega) (by omega) (by rw [← a3, hrow r hr]) (by rw [← c3, hrow r hr]) (by rw [← d3, hrow r hr]) 200 1 FU (by omega) (by omega) (by rw [FU_eq]; omega)
  rw [show min a ((1 - 1) * c) = 0 by omega, show nI 0 = (0 : Int32) from rfl, show nI 1 = (1 : Int32) from rfl] at t
  rw [t, nat_toInt (by omega) a3, nat_toInt (by omega) c3, nat_toInt (by omega) d3]
/-- one rail in the hash -/
def hR1 (P : PV) (n r : Nat) (h : Int64) : Int64 := (31 : Int64) * dgF (fun p => rowP P r (16 + p)) 4 0 (dgF (nuF P n r) 19 0 h) + Int32.toInt64 (lpV P r)
theorem c_accLoop {n s r : Nat} (h : INV T n s) (hr : r < n) : ∀ (m k fuel : Nat) (hh : Int64), k + m = 4 → m < fuel → f_X3_hashOfRail_42 (HT T) fuel 0 (nI r) hh (nI k) = some ((31 : Int64) * dgF (fun p => rowP (T.1.2.2 0) r (16 + p)) m k hh + Int32.toInt64 (lpV (T.1.2.2 0) r)) := by
  have hn8 := h.2.2.2.2.1.1
  intro m
  induction m with
  | zero =>
    intro k fuel hh hk hf
    obtain ⟨fuel, rfl⟩ : ∃ f, fuel = f + 1 := ⟨fuel - 1, by omega⟩
    show b_X3_hashOfRail_42 _ _ _ _ _ _ = _
    unfold b_X3_hashOfRail_42
    rw [if_pos (by rw [show (4 : Int32) = nI 4 from rfl, nI_leI (by decide) (by omega)]; omega), t_R0, obs, q_v1, c_pat h hr, obs]
    rfl
  | succ m ih =>
    intro k fuel hh hk hf
    obtain ⟨fuel, rfl⟩ : ∃ f, fuel = f + 1 := ⟨fuel - 1, by omega⟩
    show b_X3_hashOfRail_42 _ _ _ _ _ _ = _
    unfold b_X3_hashOfRail_42
    rw [if_neg (by rw [show (4 : Int32) = nI 4 from rfl, nI_leI (by decide) (by omega)]; omega), t_R0, obs, q_R13, obs, q_a13, ix4, nI_add, bd_nI (by omega) (by decide), obs, obs, nI_1, ih (k + 1) fuel _ (by omega) (by omega), ← rd_a (T.1.2.2 0) r (show k < 4 by omega)]
    rfl
theorem c_numLoop {n s r : Nat} (h : INV T n s) (hr : r < n) : ∀ (m k fuel : Nat) (hh : Int64), k + m = 19 → m < fuel → f_X3_hashOfRail_6 (HT T) fuel 0 (nI r) hh (nI k) = some ((31 : Int64) * dgF (fun p => rowP (T.1.2.2 0) r (16 + p)) 4 0 (dgF (nuF (T.1.2.2 0) n r) m k hh) + Int32.toInt64 (lpV (T.1.2.2 0) r)) := by
  have hz := h.2.2.2.2.1
  intro m
  induction m with
  | zero =>
    intro k fuel hh hk hf
    obtain ⟨fuel, rfl⟩ : ∃ f, fuel = f + 1 := ⟨fuel - 1, by omega⟩
    show b_X3_hashOfRail_6 _ _ _ _ _ _ = _
    unfold b_X3_hashOfRail_6
    rw [if_pos (by rw [show (19 : Int32) = nI 19 from rfl, nI_leI (by decide) (by omega)]; omega), show (0 : Int32) = nI 0 from rfl, c_accLoop h hr 4 0 FU hh (by omega) (by rw [FU_eq]; omega)]
    rfl
  | succ m ih =>
    intro k fuel hh hk hf
    obtain ⟨fuel, rfl⟩ : ∃ f, fuel = f + 1 := ⟨fuel - 1, by omega⟩
    have hnum : f_X1_numberOf (HT T) 1 (nI r) (nI k) = some (nuF (T.1.2.2 0) n r k) := by
      rw [HT0 T]
      exact a_number (by decide) hz.1 hz.2.1 (fun i hi => (hz.2.2.2.2.2.2.2.2.2 i hi).2.2.2.2.2.2.2.2) hr (by omega)
    show b_X3_hashOfRail_6 _ _ _ _ _ _ = _
    unfold b_X3_hashOfRail_6
    rw [if_neg (by rw [show (19 : Int32) = nI 19 from rfl, nI_leI (by decide) (by omega)]; omega), t_R0, obs, q_v1, hnum, obs, obs, nI_1, ih (k + 1) fuel _ (by omega) (by omega)]
    rfl
theorem c_hashRail {n s r : Nat} (h : INV T n s) (hr : r < n) (hh : Int64) : f_X3_hashOfRail (HT T) 0 hh (nI r) = some (hR1 (T.1.2.2 0) n r hh) := c_numLoop h hr 19 0 FU hh (by omega) (by rw [FU_eq]; omega)
theorem z_accLoop {P : PV} {n r : Nat} (hr : r < n) : ∀ (m k fuel : Nat) (M : MV), RZ n P (M.2 1) → k + m = 4 → m < fuel → f_X4_mixRail_27 fuel (hm G 133 M) 133 (nI r) (nI k) = some (hm G 133 (mH M ((31 : Int64) * dgF (fun p => rowP P r (16 + p)) m k M.1.2 + Int32.toInt64 (lpV P r)))) := by
  intro m
  induction m with
  | zero =>
    intro k fuel M hz hk hf
    obtain ⟨fuel, rfl⟩ : ∃ f, fuel = f + 1 := ⟨fuel - 1, by omega⟩
    show b_X4_mixRail_27 _ _ _ _ _ = _
    unfold b_X4_mixRail_27
    rw [if_pos (by rw [show (4 : Int32) = nI 4 from rfl, nI_leI (by decide) (by omega)]; omega), m_v b133, z_pat hz hr, obs, m_v b133, z_mix, obs]
    rfl
  | succ m ih =>
    intro k fuel M hz hk hf
    obtain ⟨fuel, rfl⟩ : ∃ f, fuel = f + 1 := ⟨fuel - 1, by omega⟩
    have hn8 := hz.1
    have e : M.2 1 (68 + 20 * r + (16 + k)) = rowP P r (16 + k) := by
      rw [hz.2.2.2.2.2.1 r hr, rz_in (by omega)]
    show b_X4_mixRail_27 _ _ _ _ _ = _
    unfold b_X4_mixRail_27
    rw [if_neg (by rw [show (4 : Int32) = nI 4 from rfl, nI_leI (by decide) (by omega)]; omega), m_v b133, show (16 : Int32) + nI k = nI (16 + k) from nI_add 16 k, m_ofG b133 (by omega) (by omega), obs, m_v b133, z_mix, obs, nI_1, e]
    exact ih (k + 1) fuel (mH M ((31 : Int64) * M.1.2 + Int32.toInt64 (rowP P r (16 + k)))) hz (by omega) (by omega)
theorem z_numLoop {P : PV} {n r : Nat} (hr : r < n) : ∀ (m k fuel : Nat) (M : MV), RZ n P (M.2 1) → k + m = 19 → m < fuel → f_X4_mixRail_2 fuel (hm G 133 M) 133 (nI r) (nI k) = some (hm G 133 (mH M ((31 : Int64) * dgF (fun p => rowP P r (16 + p)) 4 0 (dgF (nuF P n r) m k M.1.2) + Int32.toInt64 (lpV P r)))) := by
  intro m
  induction m with
  | zero =>
    intro k fuel M hz hk hf
    obtain ⟨fuel, rfl⟩ : ∃ f, fuel = f + 1 := ⟨fuel - 1, by omega⟩
    show b_X4_mixRail_2 _ _ _ _ _ = _
    unfold b_X4_mixRail_2
    rw [if_pos (by rw [show (19 : Int32) = nI 19 from rfl, nI_leI (by decide) (by omega)]; omega), show (0 : Int32) = nI 0 from rfl, z_accLoop hr 4 0 FU M hz (by omega) (by rw [FU_eq]; omega)]
    rfl
  | succ m ih =>
    intro k fuel M hz hk hf
    obtain ⟨fuel, rfl⟩ : ∃ f, fuel = f + 1 := ⟨fuel - 1, by omega⟩
    show b_X4_mixRail_2 _ _ _ _ _ = _
    unfold b_X4_mixRail_2
    rw [if_neg (by rw [show (19 : Int32) = nI 19 from rfl, nI_leI (by decide) (by omega)]; omega), m_v b133, z_number b133 hz hr (by omega), obs, m_v b133, z_mix, obs, nI_1]
    exact ih (k + 1) fuel (mH M ((31 : Int64) * M.1.2 + Int32.toInt64 (nuF P n r k))) hz (by omega) (by omega)
theorem z_mixRail {P : PV} {n r : Nat} {M : MV} (hr : r < n) (hz : RZ n P (M.2 1)) : f_X4_mixRail (hm G 133 M) 133 (nI r) = some (hm G 133 (mH M (hR1 P n r M.1.2))) := z_numLoop hr 19 0 FU M hz (by omega) (by rw [FU_eq]; omega)
/-- all rails in the hash -/
def hRs (P : PV) (n : Nat) : Nat → Nat → Int64 → Int64
  | 0, _, h => h
  | m + 1, k, h => hRs P n m (k + 1) (hR1 P n k h)
theorem z_digRails {P : PV} {n : Nat} : ∀ (m k fuel : Nat) (M : MV), RZ n P (M.2 1) → k + m = n → m < fuel → f_X4_digest_38 fuel (hm G 133 M) 133 (nI k) = f_X4_digest_61 FU (hm G 133 (mH M (hRs P n m k M.1.2))) 133 0 := by
  intro m
  induction m with
  | zero =>
    intro k fuel M hz hk hf
    obtain ⟨fuel, rfl⟩ : ∃ f, fuel = f + 1 := ⟨fuel - 1, by omega⟩
    have hn8 := hz.1
    show b_X4_digest_38 _ _ _ _ = _
    unfold b_X4_digest_38
    rw [m_R1 b133, obs, m_a1 b133, b228_0, obs, hz.2.2.1, if_pos (nI_le (by omega) (by omega))]
    rfl
  | succ m ih =>
    intro k fuel M hz hk hf
    obtain ⟨fuel, rfl⟩ : ∃ f, fuel = f + 1 := ⟨fuel - 1, by omega⟩
    have hn8 := hz.1
    show b_X4_digest_38 _ _ _ _ = _
    unfold b_X4_digest_38
    rw [m_R1 b133, obs, m_a1 b133, b228_0, obs, hz.2.2.1, if_neg (nI_ge (by omega) (by omega)), m_v b133, z_mixRail (by omega) hz, obs, nI_1]
    exact ih (k + 1) fuel (mH M (hR1 P n k M.1.2)) hz (by omega) (by omega)
/-! the log in the hash -/
theorem c_logIn {l : Nat} (hl : l ≤ 16) (k : Nat) (hk : k < l) (rec5 : Nat → Int64 → Int32 → Option Int64) : ∀ (m i fuel : Nat) (hh : Int64), i + m = 4 → m < fuel → f_X3_hashOfLog_23 (HT T) rec5 fuel 0 hh (nI k) (nI i) = rec5 0 (dgF ((T.1.2.2 0).2 14) m (4 * k + i) hh) (nI (k + 1)) := by
  intro m
  induction m with
  | zero =>
    intro i fuel hh hi hf
    obtain ⟨fuel, rfl⟩ : ∃ f, fuel = f + 1 := ⟨fuel - 1, by omega⟩
    show b_X3_hashOfLog_23 _ _ _ _ _ _ _ = _
    unfold b_X3_hashOfLog_23
    rw [if_pos (by rw [show (4 : Int32) = nI 4 from rfl, nI_leI (by decide) (by omega)]; omega), nI_1]
    rfl
  | succ m ih =>
    intro i fuel hh hi hf
    obtain ⟨fuel, rfl⟩ : ∃ f, fuel = f + 1 := ⟨fuel - 1, by omega⟩
    have en : f_X0_numberAt (HT T) 12 (nI k) (nI i) = some ((T.1.2.2 0).2 14 (4 * k + i)) := by
      unfold f_X0_numberAt
      rw [q_lR, obs, q_a14, ix4, nI_add, bd_nI (by omega) (by decide), obs, Nat.mul_comm]
    show b_X3_hashOfLog_23 _ _ _ _ _ _ _ = _
    unfold b_X3_hashOfLog_23
    rw [if_neg (by rw [show (4 : Int32) = nI 4 from rfl, nI_leI (by decide) (by omega)]; omega), t_R0, obs, q_R14, obs, q_v0, en, obs, obs, nI_1, ih (i + 1) fuel _ (by omega) (by omega)]
    rfl
theorem c_logLoop {l : Nat} (hl : l ≤ 16) (h4 : (T.1.2.2 0).1 4 = nI l) : ∀ (m k fuel : Nat) (hh : Int64), k + m = l → m < fuel → f_X3_hashOfLog_5 (HT T) fuel 0 hh (nI k) = some (dgF ((T.1.2.2 0).2 14) (4 * m) (4 * k) hh) := by
  intro m
  induction m with
  | zero =>
    intro k fuel hh hk hf
    obtain ⟨fuel, rfl⟩ : ∃ f, fuel = f + 1 := ⟨fuel - 1, by omega⟩
    show b_X3_hashOfLog_5 _ _ _ _ _ = _
    unfold b_X3_hashOfLog_5
    rw [t_R0, obs, q_R14, obs, q_lI, obs, h4, if_pos (nI_le (by omega) (by omega))]
    rfl
  | succ m ih =>
    intro k fuel hh hk hf
    obtain ⟨fuel, rfl⟩ : ∃ f, fuel = f + 1 := ⟨fuel - 1, by omega⟩
    show b_X3_hashOfLog_5 _ _ _ _ _ = _
    unfold b_X3_hashOfLog_5
    rw [t_R0, obs, q_R14, obs, q_lI, obs, h4, if_neg (nI_ge (by omega) (by omega)), show (0 : Int32) = nI 0 from rfl, c_logIn hl k (by omega) _ 4 0 FU hh (by omega) (by rw [FU_eq]; omega), ih (k + 1) fuel _ (by omega) (by omega), show 4 * (m + 1) = 4 + 4 * m by omega, dgF_add, Nat.add_zero, show 4 * (k + 1) = 4 * k + 4 by omega]
    rfl
theorem z_div4 {k : Nat} (hk : k < 1000) : fidiv (nI k) (4 : Int32) = some (nI (k / 4)) ∧ firem (nI k) (4 : Int32) = some (nI (k % 4)) := by
  unfold fidiv firem
  rw [if_neg (by decide), if_neg (by decide), show (4 : Int32) = nI 4 from rfl, pk_rem (by omega) (by decide) (by decide), pk_div (by omega) (by decide) (by decide)]
  exact ⟨rfl, rfl⟩
/-- behind the log, the model -/
def zTail (G : Nat → MC) (M : MV) : Option (Int64 × MH) := (f_X4_goesIn (hm G 133 M) 133 0).bind fun p8 =>
    (vcall p8.2 4 133 (f_X4_mix p8.2 133 (Int32.toInt64 p8.1))).bind fun h9 =>
    (vcall h9 4 133 (f_X4_goesIn h9 133 (1 : Int32))).bind fun p10 =>
    (vcall p10.2 4 133 (f_X4_mix p10.2 133 (Int32.toInt64 p10.1))).bind fun h11 =>
    (vcall h11 4 133 (f_X4_shareNow h11 133)).bind fun v12 =>
    (f_Jxe99ae_doubleToLongBits_ccdee h11 v12).bind fun v13 =>
    (vcall h11 4 133 (f_X4_mix h11 133 v13)).bind fun h14 =>
    (hI h14 4 133 4).bind fun v15 =>
    (vcall h14 4 133 (f_X4_mix h14 133 (Int32.toInt64 v15))).bind fun h16 =>
    f_X4_digest_136 FU h16 133 (0 : Int32)
theorem z_digLog {f : Nat → Int32} {l : Nat} (hl : l ≤ 16) : ∀ (m k fuel : Nat) (M : MV), M.2 1 3 = nI l → (∀ j i, j < l → i < 4 → f (4 * j + i) = M.2 1 (4 + 4 * (l - 1 - j) + i)) → k + m = 4 * l → m < fuel → f_X4_digest_61 fuel (hm G 133 M) 133 (nI k) = zTail G (mH M (dgF f m k M.1.2)) := by
  intro m
  induction m with
  | zero =>
    intro k fuel M h3 hf4 hk hf
    obtain ⟨fuel, rfl⟩ : ∃ f, fuel = f + 1 := ⟨fuel - 1, by omega⟩
    show b_X4_digest_61 _ _ _ _ = _
    unfold b_X4_digest_61
    rw [m_R1 b133, obs, m_a1 b133, b228_3, obs, h3, ix4l, if_pos (nI_le (by omega) (by omega)), m_v b133]
    rfl
  | succ m ih =>
    intro k fuel M h3 hf4 hk hf
    obtain ⟨fuel, rfl⟩ : ∃ f, fuel = f + 1 := ⟨fuel - 1, by omega⟩
    obtain ⟨d1, d2⟩ := z_div4 (k := k) (by omega)
    have e := hf4 (k / 4) (k % 4) (by omega) (by omega)
    rw [show 4 * (k / 4) + k % 4 = k by omega] at e
    show b_X4_digest_61 _ _ _ _ = _
    unfold b_X4_digest_61
    rw [m_R1 b133, obs, m_a1 b133, b228_3, obs, h3, ix4l, if_neg (nI_ge (by omega) (by omega)), d1, obs, d2, obs, m_v b133, z_entryNow b133 h3 hl (by omega) (by omega), if_neg (by omega), obs, m_v b133, z_mix, obs, nI_1, ← e]
    exact ih (k + 1) fuel (mH M ((31 : Int64) * M.1.2 + Int32.toInt64 (f k))) h3 hf4 (by omega) (by omega)
/-! the buffer in the hash -/
theorem c_bufLoop {l : Nat} (hl : l ≤ 60) (h5 : T.1.1 5 = nI l) : ∀ (m k fuel : Nat) (hh : Int64), k + m = l → m < fuel → f_X3_hashOfBuffer_15 (HT T) fuel 0 hh (nI k) = some (dgF T.2.1.1 m k hh) := by
  intro m
  induction m with
  | zero =>
    intro k fuel hh hk hf
    obtain ⟨fuel, rfl⟩ : ∃ f, fuel = f + 1 := ⟨fuel - 1, by omega⟩
    show b_X3_hashOfBuffer_15 _ _ _ _ _ = _
    unfold b_X3_hashOfBuffer_15
    rw [t_I5, obs, h5, if_pos (nI_le (by omega) (by omega))]
    rfl
  | succ m ih =>
    intro k fuel hh hk hf
    obtain ⟨fuel, rfl⟩ : ∃ f, fuel = f + 1 := ⟨fuel - 1, by omega⟩
    show b_X3_hashOfBuffer_15 _ _ _ _ _ = _
    unfold b_X3_hashOfBuffer_15
    rw [t_I5, obs, h5, if_neg (nI_ge (by omega) (by omega)), t_R4, obs, t_aB, bd_nI (by omega) (by decide), obs, obs, nI_1, ih (k + 1) fuel _ (by omega) (by omega)]
    rfl
theorem z_bufLoop {B : Nat → Int32} {l : Nat} (hl : l ≤ 60) : ∀ (m k fuel : Nat) (M : MV), M.1.1 4 = nI l → (∀ i, i < l → M.2 5 i = B i) → k + m = l → m < fuel → f_X4_digest_136 fuel (hm G 133 M) 133 (nI k) = some (dgF B m k M.1.2, hm G 133 (mH M (dgF B m k M.1.2))) := by
  intro m
  induction m with
  | zero =>
    intro k fuel M h4 hB hk hf
    obtain ⟨fuel, rfl⟩ : ∃ f, fuel = f + 1 := ⟨fuel - 1, by omega⟩
    show b_X4_digest_136 _ _ _ _ = _
    unfold b_X4_digest_136
    rw [m_I4 b133, obs, h4, if_pos (nI_le (by omega) (by omega)), m_L b133, obs]
    rfl
  | succ m ih =>
    intro k fuel M h4 hB hk hf
    obtain ⟨fuel, rfl⟩ : ∃ f, fuel = f + 1 := ⟨fuel - 1, by omega⟩
    show b_X4_digest_136 _ _ _ _ = _
    unfold b_X4_digest_136
    rw [m_I4 b133, obs, h4, if_neg (nI_ge (by omega) (by omega)), m_R5 b133, obs, m_a5 b133, bd_nI (by omega) (by decide), obs, m_v b133, z_mix, obs, nI_1, hB k (by omega)]
    exact ih (k + 1) fuel (mH M ((31 : Int64) * M.1.2 + Int32.toInt64 (B k))) h4 hB (by omega) (by omega)
/-- both, from behind the rails on -/
theorem dig_tail {n s : Nat} (h : INV T n s) (fuel : Nat) (hh : Int64) : ∃ Q a, f_X3_digest_33 (fuel + 1) (HT T) 0 hh (nI n) = some (a, HT (uP T 1 Q)) ∧ ∀ (G : Nat → MC) (M : MV), RZ n (T.1.2.2 0) (M.2 1) → M.1.1 4 = T.2.2.1.1.1 4 → M.2 5 = T.2.2.1.2 5 → M.1.2 = hh → ∃ M', f_X4_digest_61 FU (hm G 133 M) 133 0 = some (a, hm G 133 M') ∧ MLh M M' := by
  have hz := h.2.2.2.2.1
  have hz' := hz
  obtain ⟨hn8, h0, z0, z1, z2, hrow, hw, ⟨l, hl16, l1, l2, l3⟩, hwn, hok⟩ := hz'
  have l1 : (T.1.2.2 0).1 4 = nI l := l1
  obtain ⟨bl, b1, b2, b3, b4⟩ := h.2.2.2.2.2.2.2
  obtain ⟨Qa, va, ga1, ga2⟩ := both_good h
  obtain ⟨Qb, vb, gb1, gb2⟩ := both_off (INV_uP h Qa)
  rw [uP_uP] at gb1
  obtain ⟨x, x1, x2, x3, x4⟩ := both_share (INV_uP h Qb)
  have hlog : f_X3_hashOfLog (HT T) 0 hh = some (dgF ((T.1.2.2 0).2 14) (4 * l) 0 hh) := c_logLoop hl16 l1 l 0 FU hh (by omega) (by rw [FU_eq]; omega)
  have hbuf : ∀ y : Int64, f_X3_hashOfBuffer (HT (uP T 1 Qb)) 0 y = some (dgF T.2.1.1 bl 0 ((31 : Int64) * y + Int32.toInt64 (nI bl))) := by
    intro y
    unfold f_X3_hashOfBuffer
    rw [t_I5, obs, show (uP T 1 Qb).1.1 5 = nI bl from b2, obs]
    exact c_bufLoop (T := uP T 1 Qb) b1 b2 bl 0 FU _ (by omega) (by rw [FU_eq]; omega)
  refine ⟨Qb, dgF T.2.1.1 bl 0 ((31 : Int64) * ((31 : Int64) * ((31 : Int64) * ((31 : Int64) * dgF ((T.1.2.2 0).2 14) (4 * l) 0 hh + Int32.toInt64 va) + Int32.toInt64 vb) + UInt64.toInt64 x) + Int32.toInt64 (nI bl)), ?_, fun G M hzM h4 h5 hH => ?_⟩
  · show b_X3_digest_33 _ _ _ _ _ = _
    unfold b_X3_digest_33
    rw [t_R0, obs, q_I0, obs, h0, if_pos (nI_le (Nat.le_refl _) (by omega)), t_v3, hlog, obs, t_v3, ga1, obs, obs, t_v3, gb1, obs, obs, t_v3, x1, obs, x4, obs, obs, t_v3, hbuf, obs]
  · have hzM' := hzM
    obtain ⟨-, -, -, -, -, -, -, ⟨l', hl16', l1', l2', l3'⟩, -, -⟩ := hzM'
    have l1' : (T.1.2.2 0).1 4 = nI l' := l1'
    obtain rfl : l' = l := by
      rw [l1] at l1'
      exact ((nI_eq (by omega) (by omega)).mp l1').symm
    have e1 := z_digLog (G := G) (f := (T.1.2.2 0).2 14) hl16' (4 * l') 0 FU M l2' l3' (by omega) (by rw [FU_eq]; omega)
    rw [hH, show nI 0 = (0 : Int32) from rfl] at e1
    have hzL : RZ n (T.1.2.2 0) ((mH M (dgF ((T.1.2.2 0).2 14) (4 * l') 0 hh)).2 1) := hzM
    obtain ⟨M1, k1, k2⟩ := ga2 G (mH M (dgF ((T.1.2.2 0).2 14) (4 * l') 0 hh)) hzL
    have hz1 : RZ n (T.1.2.2 0) (M1.2 1) := RZ_h hzL (MLh_k k2)
    have eh1 : M1.1.2 = dgF ((T.1.2.2 0).2 14) (4 * l') 0 hh := k2.2.1
    obtain ⟨M2, j1, j2⟩ := gb2 G (mH M1 ((31 : Int64) * M1.1.2 + Int32.toInt64 va)) hz1
    have hz2 : RZ n (T.1.2.2 0) (M2.2 1) := RZ_h (M := mH M1 ((31 : Int64) * M1.1.2 + Int32.toInt64 va)) hz1 (MLh_k j2)
    have eh2 : M2.1.2 = (31 : Int64) * M1.1.2 + Int32.toInt64 va := j2.2.1
    have m4 : M2.1.1 4 = nI bl := by
      rw [j2.1 4 (by decide) (by decide)]
      show M1.1.1 4 = _
      rw [k2.1 4 (by decide) (by decide)]
      show M.1.1 4 = _
      rw [h4, b3]
    have m5 : M2.2 5 = T.2.2.1.2 5 := by
      rw [j2.2.2.2 5 (by decide) (by decide) (by decide)]
      show M1.2 5 = _
      rw [k2.2.2.2 5 (by decide) (by decide) (by decide)]
      exact h5
    have hb := z_bufLoop (G := G) (B := T.2.1.1) b1 bl 0 FU (mH M2 ((31 : Int64) * ((31 : Int64) * ((31 : Int64) * M2.1.2 + Int32.toInt64 vb) + UInt64.toInt64 x) + Int32.toInt64 (nI bl))) m4 (fun i hi => by
      show M2.2 5 i = _
      rw [m5]
      exact (b4 i hi).symm) (by omega) (by rw [FU_eq]; omega)
    have fin : f_X4_digest_61 FU (hm G 133 M) 133 0 = some (dgF T.2.1.1 bl 0 ((31 : Int64) * ((31 : Int64) * ((31 : Int64) * M2.1.2 + Int32.toInt64 vb) + UInt64.toInt64 x) + Int32.toInt64 (nI bl)), hm G 133 (mH M2 (dgF T.2.1.1 bl 0 ((31 : Int64) * ((31 : Int64) * ((31 : Int64) * M2.1.2 + Int32.toInt64 vb) + UInt64.toInt64 x) + Int32.toInt64 (nI bl))))) := by
      rw [e1]
      unfold zTail
      have ed : ∀ h : MH, f_Jxe99ae_doubleToLongBits_ccdee h x = some (UInt64.toInt64 x) := by
        intro h
        unfold f_Jxe99ae_doubleToLongBits_ccdee f_Jxe99ae_isNaN_b9ae7 b_Jxe99ae_isNaN_b9ae7_11
        rw [if_pos x3, i01, obs, if_pos rfl]
      have x2' : ∀ y : Int64, f_X4_shareNow (hm G 133 (mH M2 y)) 133 = some x := fun y => x2 G (mH M2 y) hz2
      rw [k1, obs, m_v b133, z_mix, obs, m_v b133, j1, obs, m_v b133, z_mix, obs, m_v b133, x2', obs, ed, obs, m_v b133, z_mix, obs, m_I4 b133, obs, show (mH (mH M2 ((31 : Int64) * M2.1.2 + Int32.toInt64 vb)) ((31 : Int64) * (mH M2 ((31 : Int64) * M2.1.2 + Int32.toInt64 vb)).1.2 + UInt64.toInt64 x)).1.1 4 = nI bl from m4, m_v b133, z_mix, obs]
      exact hb
    rw [eh2, eh1] at fin
    exact ⟨_, fin, MLh_trans (MLh_trans (MLh_trans (MLh_H M _) (MLh_k k2)) (MLh_trans (MLh_H M1 _) (MLh_k j2))) (MLh_H M2 _)⟩
