/-! the class tells what the law holds: all -/
variable {T : TS} {X : LX} {n s : Nat}
variable {rec9 : MH → Nat → Nat → Nat → Nat → Nat → Nat → Int32 → Int32 → Int32 → Option (Int32 × MH)} {v g : Int32}
theorem fb_none {bl : Nat → Int32} {i : Nat} (h : bl i = -1) (m : Nat) : fbF bl m i = nI i := by
  cases m with
  | zero => rfl
  | succ m => exact if_pos h
/-- the law's eight steps along the blames -/
theorem told_100 (h : RLT T X n s) {r : Nat} (hr : r < n) {F : Option (Int32 × MH)} (hF : b_L_told_148 rec9 (HT (uL T 134 X)) 0 133 134 135 136 137 v g (nI r) (nI (9 * r)) (fbO ((T.1.2.2 0).2 12) r) = F) : ∀ (m k fuel i : Nat), k + m = 8 → m < fuel → i < n → fbF ((T.1.2.2 0).2 12) m i = fbO ((T.1.2.2 0).2 12) r → f_L_told_100 rec9 fuel (HT (uL T 134 X)) 0 133 134 135 136 137 v g (nI r) (nI (9 * r)) (nI i) (nI k) = F := by
  obtain ⟨⟨hn6, h0, x0, x1, x2, hrow, hw, hlg, hwn, hok, htb⟩, hi, ha⟩ := h
  intro m
  induction m with
  | zero =>
    intro k fuel i hk hf hin hfb
    obtain ⟨fuel, rfl⟩ : ∃ f, fuel = f + 1 := ⟨fuel - 1, by omega⟩
    obtain rfl : k = 8 := by omega
    show b_L_told_100 _ _ _ _ _ _ _ _ _ _ _ _ _ _ _ = _
    unfold b_L_told_100
    rw [if_pos (by decide)]
    have e : nI i = fbO ((T.1.2.2 0).2 12) r := hfb
    rw [e]
    exact hF
  | succ m ih =>
    intro k fuel i hk hf hin hfb
    obtain ⟨fuel, rfl⟩ : ∃ f, fuel = f + 1 := ⟨fuel - 1, by omega⟩
    have e8 : X 1 (9 * i + 8) = (T.1.2.2 0).2 12 i := (congrFun (hrow i hin) 15).symm
    show b_L_told_100 _ _ _ _ _ _ _ _ _ _ _ _ _ _ _ = _
    unfold b_L_told_100 b_L_told_140
    rw [if_neg (show ¬ (8 : Int32) ≤ nI k from nI_ge (a := k) (b := 8) (by omega) (by decide)), if_neg (nI_pos (by omega)), jx9, ixa8, y_a1, bd_nI (by omega) (by decide), obs, obs, e8, nI_1]
    rcases (hok i hin).2.2.2.2.2.2.2.2 with hb | ⟨j, hj, hb⟩
    · have hb : (T.1.2.2 0).2 12 i = -1 := hb
      rw [hb, if_pos m1_lt]
      refine ih (k + 1) fuel i (by omega) (by omega) hin ?_
      rw [← hfb, fb_none hb, fb_none hb]
    · have hb : (T.1.2.2 0).2 12 i = nI j := hb
      rw [hb, if_neg (nI_pos (by omega))]
      refine ih (k + 1) fuel j (by omega) (by omega) (by omega) ?_
      rw [← hfb]
      show _ = (if (T.1.2.2 0).2 12 i = -1 then nI i else fbF ((T.1.2.2 0).2 12) m ((T.1.2.2 0).2 12 i).toInt.toNat)
      rw [hb, if_neg (nI_m1 (by omega)), nI_toInt (by omega)]
      rfl
theorem told_blame (h : RLT T X n s) {r : Nat} (hr : r < n) : f_L_told_100 rec9 FU (HT (uL T 134 X)) 0 133 134 135 136 137 v g (nI r) (nI (9 * r)) ((T.1.2.2 0).2 12 r) 0 = rec9 (HT (uL T 134 X)) 0 133 134 135 136 137 v g (nI (r + 1)) := by
  have h' := h
  obtain ⟨⟨hn6, h0, x0, x1, x2, hrow, hw, hlg, hwn, hok, htb⟩, hi, ha⟩ := h'
  have e148 := told_148 (rec9 := rec9) (v := v) (g := g) h hr
  have hbl : ∀ i, i < n → (T.1.2.2 0).2 12 i = -1 ∨ ∃ k, k ≤ i ∧ (T.1.2.2 0).2 12 i = nI k := fun i hi' => (hok i hi').2.2.2.2.2.2.2.2
  rcases hbl r hr with hb | ⟨k, hk, hb⟩
  · obtain ⟨f, hf⟩ : ∃ f, FU = f + 1 := ⟨2999, FU_eq⟩
    have e0 : fbO ((T.1.2.2 0).2 12) r = -1 := if_pos hb
    rw [e0] at e148
    rw [hf, hb]
    show b_L_told_100 _ _ _ _ _ _ _ _ _ _ _ _ _ _ _ = _
    unfold b_L_told_100
    rw [if_neg (by decide), if_pos m1_lt]
    exact e148
  · rw [hb]
    refine told_100 h hr e148 8 0 FU k (by omega) (by rw [FU_eq]; omega) (by omega) ?_
    have e1 : fbO ((T.1.2.2 0).2 12) r = fbF ((T.1.2.2 0).2 12) 8 r := if_neg (by rw [hb]; exact nI_m1 (by omega))
    have e2 : fbF ((T.1.2.2 0).2 12) 8 r = fbF ((T.1.2.2 0).2 12) 7 k := by
      show (if (T.1.2.2 0).2 12 r = -1 then nI r else fbF ((T.1.2.2 0).2 12) 7 ((T.1.2.2 0).2 12 r).toInt.toNat) = _
      rw [hb, if_neg (nI_m1 (by omega)), nI_toInt (by omega)]
      rfl
    rw [e1, e2]
    exact fb_stable (Nat.le_trans hn6 (by decide)) hbl (k + 1) k 8 7 (by omega) (by omega) (by omega) (by omega)
theorem told_52 (h : RLT T X n s) {r : Nat} (hr : r < n) : ∀ (m k fuel : Nat), k + m = 7 → m < fuel → f_L_told_52 rec9 fuel (HT (uL T 134 X)) 0 133 134 135 136 137 v g (nI r) (nI (9 * r)) (nI k) = rec9 (HT (uL T 134 X)) 0 133 134 135 136 137 v g (nI (r + 1)) := by
  have h' := h
  obtain ⟨⟨hn6, h0, x0, x1, x2, hrow, hw, hlg, hwn, hok, htb⟩, hi, ha⟩ := h'
  have hn8 : n ≤ 8 := Nat.le_trans hn6 (by decide)
  have eb := told_blame (rec9 := rec9) (v := v) (g := g) h hr
  intro m
  induction m with
  | zero =>
    intro k fuel hk hf
    obtain ⟨fuel, rfl⟩ : ∃ f, fuel = f + 1 := ⟨fuel - 1, by omega⟩
    obtain rfl : k = 7 := by omega
    have e8 : X 1 (9 * r + 8) = (T.1.2.2 0).2 12 r := (congrFun (hrow r hr) 15).symm
    show b_L_told_52 _ _ _ _ _ _ _ _ _ _ _ _ _ _ = _
    unfold b_L_told_52
    rw [if_pos (by decide), ixa8, y_a1, bd_nI (by omega) (by decide), obs, e8]
    exact eb
  | succ m ih =>
    intro k fuel hk hf
    obtain ⟨fuel, rfl⟩ : ∃ f, fuel = f + 1 := ⟨fuel - 1, by omega⟩
    have ih := ih (k + 1) fuel (by omega) (by omega)
    have er : f_X3_rail (HT (uL T 134 X)) 0 (nI r) (nI k) = some (nuF (T.1.2.2 0) n r k, HT (uL T 134 X)) := v_rail (T := uL T 134 X) hn8 h0 hok hr (by omega)
    have e : X 0 (7 * r + k) = nuF (T.1.2.2 0) n r k := by
      rw [rx_p X r (by omega), ← hrow r hr]
      unfold nuF
      rw [if_neg (by omega), if_neg (by omega), if_neg (by omega), if_neg (by omega), if_pos (by omega)]
    show b_L_told_52 _ _ _ _ _ _ _ _ _ _ _ _ _ _ = _
    unfold b_L_told_52
    generalize f_L_told_100 rec9 FU = F
    rw [if_neg (show ¬ (7 : Int32) ≤ nI k from nI_ge (a := k) (b := 7) (by omega) (by decide)), t_v3, er, obs, jx7, nI_add, nI_1]
    simp only [y_a0]
    rw [bd_nI (by omega) (by decide), obs, if_pos e.symm]
    exact ih
theorem su_s (V : Nat → Nat → Int32) (c k m : Nat) (x : Int32) : suF V c m (k + 1) (x + V k c) = suF V c (m + 1) k x := rfl
theorem told_9 (h : RLT T X n s) : ∀ (m r fuel : Nat) (v g : Int32), r + m = n → m < fuel → suF (rowP (T.1.2.2 0)) 10 m r v = suF (rowP (T.1.2.2 0)) 10 n 0 0 → suF (rowP (T.1.2.2 0)) 19 m r g = suF (rowP (T.1.2.2 0)) 19 n 0 0 → f_L_told_9 fuel (HT (uL T 134 X)) 0 133 134 135 136 137 v g (nI r) = okT T X := by
  have h' := h
  obtain ⟨⟨hn6, h0, x0, x1, x2, hrow, hw, hlg, hwn, hok, htb⟩, hi, ha⟩ := h'
  intro m
  induction m with
  | zero =>
    intro r fuel v g hk hf hv hg
    obtain ⟨fuel, rfl⟩ : ∃ f, fuel = f + 1 := ⟨fuel - 1, by omega⟩
    obtain rfl : r = n := by omega
    have ee := told_entries h 64 0 FU (by omega) (by rw [FU_eq]; omega)
    rw [← hv, ← hg] at ee
    show b_L_told_9 _ _ _ _ _ _ _ _ _ _ _ = _
    unfold b_L_told_9
    rw [y_a4, l6_0, obs, x0, if_pos (nI_le (by omega) (by omega))]
    exact ee
  | succ m ih =>
    intro r fuel v g hk hf hv hg
    obtain ⟨fuel, rfl⟩ : ∃ f, fuel = f + 1 := ⟨fuel - 1, by omega⟩
    have hrn : r < n := by omega
    have e10 : X 1 (9 * r + 3) = rowP (T.1.2.2 0) r 10 := (congrFun (hrow r hrn) 10).symm
    have e19 : X 2 (4 * r + 3) = rowP (T.1.2.2 0) r 19 := (congrFun (hrow r hrn) 19).symm
    have ih := ih (r + 1) fuel (v + rowP (T.1.2.2 0) r 10) (g + rowP (T.1.2.2 0) r 19) (by omega) (by omega) hv hg
    have e52 := told_52 (rec9 := f_L_told_9 fuel) (v := v + rowP (T.1.2.2 0) r 10) (g := g + rowP (T.1.2.2 0) r 19) h hrn 7 0 FU (by omega) (by rw [FU_eq]; omega)
    show b_L_told_9 _ _ _ _ _ _ _ _ _ _ _ = _
    unfold b_L_told_9
    rw [y_a4, l6_0, obs, x0, if_neg (nI_ge (by omega) (by omega)), jx9, obs, ixa3, y_a1, bd_nI (by omega) (by decide), obs, obs, ix4l, ixa3, y_a2, bd_nI (by omega) (by decide), obs, obs, e10, e19]
    exact e52.trans ih
theorem told (h : RLT T X n s) : f_L_told (HT (uL T 134 X)) 0 133 134 135 136 137 = some (1, HT (uL T 134 X)) := by
  unfold f_L_told
  exact told_9 h n 0 FU 0 0 (by omega) (by rw [FU_eq]; have := h.1.1; omega) rfl rfl
