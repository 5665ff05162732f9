/-! looking ahead: the whole method -/
variable {T : TS} {X Y : LX} {c n s : Nat}
/-- the same, the class's other plant aside -/
def SM (T T' : TS) : Prop := T'.1.2.2 0 = T.1.2.2 0 ∧ T'.1.1 = T.1.1 ∧ T'.1.2.1 = T.1.2.1 ∧ T'.2 = T.2
theorem SM_P {T T' : TS} (h : SM T T') (Q : PV) : SM T (uP T' 1 Q) := ⟨h.1, h.2.1, h.2.2.1, h.2.2.2⟩
theorem SM_RLT {T T' : TS} (h : SM T T') (hr : RLT T X n s) : RLT T' X n s := by
  obtain ⟨h1, h2, h3, h4⟩ := h
  obtain ⟨r1, ⟨r2, r3, r4⟩, r5⟩ := hr
  exact ⟨by rw [h1]; exact r1, ⟨r2, by rw [h2]; exact r3, by rw [h3]; exact r4⟩, by rw [h1]; exact r5⟩
theorem SM_KC {T T' : TS} (h : SM T T') (hc : KC T c) : KC T' c := by
  obtain ⟨h1, h2, h3, h4⟩ := h
  unfold KC
  rw [h4]
  exact hc
theorem l_27 (hc : KC T c) (h : RLT T X n s) (hn1 : 1 ≤ n) {a b : Nat} (ha31 : a < 2 ^ 31) (hb31 : b < 2 ^ 31) : ∀ (m p fuel : Nat) (T' : TS) (Y : LX), SM T T' → p + m = 4 → m < fuel → Y 0 = X 0 → ∃ T'' Y'', f_L_ahead_27 fuel (HT (uC T' X c Y)) 0 (nI a) (nI b) 133 134 137 c (c + 1) (c + 2) (c + 3) (nI p) = some (1, HT (uC T'' X c Y'')) ∧ SM T T'' ∧ Y'' 0 = X 0 := by
  intro m
  induction m with
  | zero =>
    intro p fuel T' Y hs hp hf hY
    obtain ⟨fuel, rfl⟩ : ∃ f, fuel = f + 1 := ⟨fuel - 1, by omega⟩
    refine ⟨T', Y, ?_, hs, hY⟩
    show b_L_ahead_27 _ _ _ _ _ _ _ _ _ _ _ _ _ = _
    unfold b_L_ahead_27
    rw [if_pos (by rw [show (4 : Int32) = nI 4 from rfl]; exact nI_le (by omega) (by omega)), i1]
  | succ m ih =>
    intro p fuel T' Y hs hp hf hY
    obtain ⟨fuel, rfl⟩ : ∃ f, fuel = f + 1 := ⟨fuel - 1, by omega⟩
    have hc' := SM_KC hs hc
    have h' := SM_RLT hs h
    obtain ⟨Y1, k1, k2⟩ := l_copies (T := T') (X := X) (Y := Y) (x := nI a) (y := nI b) hc' (f_L_ahead_27 fuel) (nI p) hY
    have hpass : ∃ T1 Y2, dispA (f_L_ahead_27 fuel) (nI a) (nI b) c (HT (uC T' X c Y1)) (nI p) = b_L_ahead_585 (f_L_ahead_27 fuel) (HT (uC T1 X c Y2)) 0 (nI a) (nI b) 133 134 137 c (c + 1) (c + 2) (c + 3) (nI p) ∧ Y2 0 = X 0 ∧ ∃ Q, T1 = uP T' 1 Q := by
      by_cases p0 : p = 0
      · subst p0
        obtain ⟨Q, Y2, d1, d2⟩ := pass_0 (x := nI a) (y := nI b) (f_L_ahead_27 fuel) hc' h' k2
        exact ⟨_, Y2, d1, d2, Q, rfl⟩
      · by_cases p1 : p = 1
        · subst p1
          obtain ⟨Q, Y2, d1, d2⟩ := pass_1 (x := nI a) (y := nI b) (f_L_ahead_27 fuel) hc' h' k2
          exact ⟨_, Y2, d1, d2, Q, rfl⟩
        · by_cases p2 : p = 2
          · subst p2
            obtain ⟨T1, Y2, d1, d2, d3⟩ := pass_2 (f_L_ahead_27 fuel) hc' h' hn1 ha31 hb31 k2
            exact ⟨T1, Y2, d1, d2, d3⟩
          · obtain rfl : p = 3 := by omega
            obtain ⟨Q, Y2, d1, d2⟩ := pass_3 (x := nI a) (y := nI b) (f_L_ahead_27 fuel) hc' h' k2
            exact ⟨_, Y2, d1, d2, Q, rfl⟩
    obtain ⟨T1, Y2, d1, d2, Q, rfl⟩ := hpass
    obtain ⟨T'', Y'', i1, i2, i3⟩ := ih (p + 1) fuel (uP T' 1 Q) Y2 (SM_P hs Q) (by omega) (by omega) d2
    refine ⟨T'', Y'', ?_, i2, i3⟩
    rw [← i1]
    show b_L_ahead_27 _ _ _ _ _ _ _ _ _ _ _ _ _ = _
    unfold b_L_ahead_27
    rw [if_neg (by rw [show (4 : Int32) = nI 4 from rfl]; exact nI_ge (by omega) (by omega)), k1, d1]
    unfold b_L_ahead_585
    rw [nI_1]
theorem uC_back (hc : 138 ≤ c) (hY : Y 0 = X 0) : uC T X c Y = uL (uL T c Y) 134 X := by
  refine Prod.ext rfl (Prod.ext rfl (Prod.ext rfl (funext fun i => ?_)))
  show (if i = 133 then lx Y 0 else if c ≤ i ∧ i < c + 4 then lx Y (i - c + 1) else if i = 133 then lx X 0 else if 134 ≤ i ∧ i < 134 + 4 then lx X (i - 134 + 1) else T.2.2.2 i) = (if i = 133 then lx X 0 else if 134 ≤ i ∧ i < 134 + 4 then lx X (i - 134 + 1) else if i = 133 then lx Y 0 else if c ≤ i ∧ i < c + 4 then lx Y (i - c + 1) else T.2.2.2 i)
  have e0 : lx Y 0 = lx X 0 := by
    show (Sum.inl (0, 42, Sum.inl (Y 0)) : MC) = .inl (0, 42, .inl (X 0))
    rw [hY]
  by_cases h1 : i = 133
  · rw [if_pos h1, if_pos h1, e0]
  · rw [if_neg h1, if_neg h1, if_neg h1, if_neg h1]
    by_cases h2 : c ≤ i ∧ i < c + 4
    · rw [if_pos h2, if_neg (show ¬ (134 ≤ i ∧ i < 134 + 4) by omega), if_pos h2]
    · rw [if_neg h2, if_neg h2]
/-- the copies as they are made -/
def zY (X : LX) : LX := fun q => if q = 0 then X 0 else fun _ => 0
def nP4 (T : TS) : TS := nP (nP (nP (nP T (.inl (0, 54, .inl fun _ => 0))) (.inl (0, 24, .inl fun _ => 0))) (.inl (0, 64, .inl fun _ => 0))) (.inl (0, 6, .inl fun _ => 0))
theorem nP4_uC (T : TS) (X : LX) : uL (nP4 T) 134 X = uC (nP4 T) X (138 + T.2.2.1) (zY X) := by
  refine Prod.ext rfl (Prod.ext rfl (Prod.ext rfl (funext fun i => ?_)))
  show (if i = 133 then lx X 0 else if 134 ≤ i ∧ i < 134 + 4 then lx X (i - 134 + 1) else (nP4 T).2.2.2 i) = (if i = 133 then lx (zY X) 0 else if 138 + T.2.2.1 ≤ i ∧ i < 138 + T.2.2.1 + 4 then lx (zY X) (i - (138 + T.2.2.1) + 1) else if i = 133 then lx X 0 else if 134 ≤ i ∧ i < 134 + 4 then lx X (i - 134 + 1) else (nP4 T).2.2.2 i)
  by_cases h1 : i = 133
  · rw [if_pos h1, if_pos h1]
    rfl
  · rw [if_neg h1, if_neg h1]
    by_cases h2 : 138 + T.2.2.1 ≤ i ∧ i < 138 + T.2.2.1 + 4
    · rw [if_pos h2, if_neg (show ¬ (134 ≤ i ∧ i < 134 + 4) by omega)]
      have e : (nP4 T).2.2.2 i = if i = 138 + (T.2.2.1 + 3) then .inl (0, 6, .inl fun _ => 0) else if i = 138 + (T.2.2.1 + 2) then .inl (0, 64, .inl fun _ => 0) else if i = 138 + (T.2.2.1 + 1) then .inl (0, 24, .inl fun _ => 0) else if i = 138 + T.2.2.1 then .inl (0, 54, .inl fun _ => 0) else T.2.2.2 i := rfl
      rw [e]
      by_cases q0 : i = 138 + T.2.2.1
      · rw [if_neg (by omega), if_neg (by omega), if_neg (by omega), if_pos q0, show i - (138 + T.2.2.1) + 1 = 1 by omega]
        rfl
      · by_cases q1 : i = 138 + (T.2.2.1 + 1)
        · rw [if_neg (by omega), if_neg (by omega), if_pos q1, show i - (138 + T.2.2.1) + 1 = 2 by omega]
          rfl
        · by_cases q2 : i = 138 + (T.2.2.1 + 2)
          · rw [if_neg (by omega), if_pos q2, show i - (138 + T.2.2.1) + 1 = 3 by omega]
            rfl
          · rw [if_pos (by omega), show i - (138 + T.2.2.1) + 1 = 4 by omega]
            rfl
    · rw [if_neg h2]
theorem v_ahead (h : RLT T X n s) (hn1 : 1 ≤ n) (hl : 138 + T.2.2.1 + 4 < 1000) {a b : Nat} (ha31 : a < 2 ^ 31) (hb31 : b < 2 ^ 31) : ∃ T', f_L_ahead (HT (uL T 134 X)) 0 (nI a) (nI b) 133 134 137 = some (1, HT (uL T' 134 X)) ∧ RLT T' X n s ∧ T'.2.2.1 = T.2.2.1 + 4 ∧ T'.1.2.2 0 = T.1.2.2 0 := by
  have hr4 : RLT (nP4 T) X n s := h
  have hc : KC (nP4 T) (138 + T.2.2.1) := ⟨by omega, by show 138 + T.2.2.1 + 4 ≤ 138 + (T.2.2.1 + 4); omega⟩
  obtain ⟨T', Y', e1, e2, e3⟩ := l_27 hc hr4 hn1 ha31 hb31 4 0 FU (nP4 T) (zY X) ⟨rfl, rfl, rfl, rfl⟩ (by omega) (by rw [FU_eq]; omega) rfl
  have hR : RLT T' X n s := SM_RLT e2 hr4
  refine ⟨uL T' (138 + T.2.2.1) Y', ?_, hR, ?_, e2.1⟩
  · rw [← uC_back (T := T') (by omega) e3, ← e1, ← nP4_uC, show nI 0 = (0 : Int32) from rfl]
    have l0 : (HT (uL T 134 X)).length = 138 + T.2.2.1 := hh_len
    unfold f_L_ahead
    rw [nA_T (T := uL T 134 X) (by show 138 + T.2.2.1 < 1000; omega), obs, obs, l0, nP_uL]
    have l1 : (HT (uL (nP T (.inl (0, 54, .inl fun _ => 0))) 134 X)).length = 138 + T.2.2.1 + 1 := hh_len
    rw [nA_T (T := uL (nP T (.inl (0, 54, .inl fun _ => 0))) 134 X) (by show 138 + (T.2.2.1 + 1) < 1000; omega), obs, obs, l1, nP_uL]
    have l2 : (HT (uL (nP (nP T (.inl (0, 54, .inl fun _ => 0))) (.inl (0, 24, .inl fun _ => 0))) 134 X)).length = 138 + T.2.2.1 + 2 := hh_len
    rw [nA_T (T := uL (nP (nP T (.inl (0, 54, .inl fun _ => 0))) (.inl (0, 24, .inl fun _ => 0))) 134 X) (by show 138 + (T.2.2.1 + 2) < 1000; omega), obs, obs, l2, nP_uL]
    have l3 : (HT (uL (nP (nP (nP T (.inl (0, 54, .inl fun _ => 0))) (.inl (0, 24, .inl fun _ => 0))) (.inl (0, 64, .inl fun _ => 0))) 134 X)).length = 138 + T.2.2.1 + 3 := hh_len
    rw [nA_T (T := uL (nP (nP (nP T (.inl (0, 54, .inl fun _ => 0))) (.inl (0, 24, .inl fun _ => 0))) (.inl (0, 64, .inl fun _ => 0))) 134 X) (by show 138 + (T.2.2.1 + 3) < 1000; omega), obs, obs, l3, nP_uL]
    rfl
  · show T'.2.2.1 = _
    rw [e2.2.2.2]
    rfl
