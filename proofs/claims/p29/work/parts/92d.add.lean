/-! rows that the law makes later; the law's action: a rail added -/
variable {T : TS} {X : LX} {n s : Nat}
theorem gT_hi (T : TS) {i : Nat} (h : 133 ≤ i) : (gT T).2 i = T.2.2.2 i := by
  unfold gT
  dsimp only
  rw [if_neg (by omega), if_neg (by omega), if_neg (by omega), if_neg (by omega), if_neg (by omega), if_neg (by omega), if_neg (by omega)]
theorem gT_lo {T U : TS} (h1 : T.1 = U.1) (h2 : T.2.1 = U.2.1) {i : Nat} (h : i < 133) : (gT T).2 i = (gT U).2 i := by
  unfold gT
  dsimp only
  rw [if_pos h, if_pos h, h1, h2]
/-- one more cell -/
def nP (T : TS) (c : MC) : TS := (T.1, T.2.1, T.2.2.1 + 1, fun i => if i = 138 + T.2.2.1 then c else T.2.2.2 i)
theorem HT_push (T : TS) (c : MC) : HT T ++ [c] = HT (nP T c) := by
  apply List.ext_getElem?
  intro j
  have hl : (HT T).length = 138 + T.2.2.1 := hh_len
  by_cases h1 : j < 138 + T.2.2.1
  · rw [List.getElem?_append_left (by rw [hl]; exact h1)]
    refine (hh_get (G := gT T) h1).trans (Eq.trans ?_ (hh_get (G := gT (nP T c)) (show j < 138 + (T.2.2.1 + 1) by omega)).symm)
    refine congrArg some ?_
    by_cases h : j < 133
    · exact gT_lo (T := T) (U := nP T c) rfl rfl h
    · rw [gT_hi T (by omega), gT_hi (nP T c) (by omega)]
      exact (if_neg (by omega)).symm
  · rw [List.getElem?_append_right (by rw [hl]; omega), hl]
    by_cases h2 : j = 138 + T.2.2.1
    · subst h2
      rw [Nat.sub_self]
      refine Eq.trans ?_ (hh_get (G := gT (nP T c)) (show 138 + T.2.2.1 < 138 + (T.2.2.1 + 1) by omega)).symm
      rw [gT_hi (nP T c) (by omega)]
      exact congrArg some (if_pos rfl).symm
    · rw [List.getElem?_eq_none (by simp; omega), List.getElem?_eq_none]
      have : (HT (nP T c)).length = 138 + (T.2.2.1 + 1) := hh_len
      omega
theorem nA_T {t : Nat} {x : vp_A} (h : 138 + T.2.2.1 < 1000) : nA (HT T) t x = some (HT (nP T (.inl (t, x)))) := by
  unfold nA
  rw [if_pos (by rw [show (HT T).length = 138 + T.2.2.1 from hh_len]; exact h), HT_push]
theorem nP_uL (T : TS) (X : LX) (c : MC) : nP (uL T 134 X) c = uL (nP T c) 134 X := by
  refine Prod.ext rfl (Prod.ext rfl (Prod.ext rfl (funext fun i => ?_)))
  show (if i = 138 + T.2.2.1 then c else if i = 133 then lx X 0 else if 134 ≤ i ∧ i < 134 + 4 then lx X (i - 134 + 1) else T.2.2.2 i) = (if i = 133 then lx X 0 else if 134 ≤ i ∧ i < 134 + 4 then lx X (i - 134 + 1) else if i = 138 + T.2.2.1 then c else T.2.2.2 i)
  by_cases h : i = 138 + T.2.2.1
  · rw [if_pos h, if_neg (by omega), if_neg (by omega), if_pos h]
  · rw [if_neg h, if_neg h]
def rw7 (V : Nat → Int32) : MC := .inl (0, (7, .inl V))
theorem r7_at (T : TS) (X : LX) (V : Nat → Int32) : (HT (uL (nP T (rw7 V)) 134 X))[138 + T.2.2.1]? = some (rw7 V) := by
  refine (hh_get (show 138 + T.2.2.1 < 138 + (T.2.2.1 + 1) by omega)).trans ?_
  rw [gT_hi _ (by omega)]
  show some (if 138 + T.2.2.1 = 133 then _ else if 134 ≤ 138 + T.2.2.1 ∧ 138 + T.2.2.1 < 134 + 4 then _ else if 138 + T.2.2.1 = 138 + T.2.2.1 then rw7 V else _) = _
  rw [if_neg (by omega), if_neg (by omega), if_pos rfl]
theorem r7_C (T : TS) (X : LX) (V : Nat → Int32) : aC (HT (uL (nP T (rw7 V)) 134 X)) 0 (138 + T.2.2.1) = some (7, .inl V) := by
  have hg := r7_at T X V
  simp only [aC, hg]
  rfl
theorem r7_a {j : Int32} {V : Nat → Int32} : aI (HT (uL (nP T (rw7 V)) 134 X)) (138 + T.2.2.1) j = bd 7 j V := by
  simp only [aI, r7_C]
  rfl
theorem r7_s {j x : Int32} {V : Nat → Int32} : sI (HT (uL (nP T (rw7 V)) 134 X)) (138 + T.2.2.1) j x = bd 7 j (fun i => HT (uL (nP T (rw7 (upd V i x))) 134 X)) := by
  simp only [sI, r7_C, bd]
  split
  · rfl
  · congr 1
    refine (hh_set).trans (congrArg hh (Prod.ext rfl (funext fun i => ?_)))
    show (if i = 138 + T.2.2.1 then _ else (gT (uL (nP T (rw7 V)) 134 X)).2 i) = _
    by_cases h : i = 138 + T.2.2.1
    · rw [if_pos h, h, gT_hi _ (by omega)]
      show _ = (if 138 + T.2.2.1 = 133 then _ else if 134 ≤ 138 + T.2.2.1 ∧ 138 + T.2.2.1 < 134 + 4 then _ else if 138 + T.2.2.1 = 138 + T.2.2.1 then rw7 _ else _)
      rw [if_neg (by omega), if_neg (by omega), if_pos rfl]
      rfl
    · rw [if_neg h]
      by_cases h1 : i < 133
      · exact gT_lo (T := uL (nP T (rw7 V)) 134 X) (U := uL (nP T (rw7 (upd V j.toNatClampNeg x))) 134 X) rfl rfl h1
      · rw [gT_hi _ (by omega), gT_hi _ (by omega)]
        show (if i = 133 then _ else if 134 ≤ i ∧ i < 134 + 4 then _ else if i = 138 + T.2.2.1 then _ else _) = (if i = 133 then _ else if 134 ≤ i ∧ i < 134 + 4 then _ else if i = 138 + T.2.2.1 then _ else _)
        rw [if_neg h, if_neg h]
theorem l7_0 {α : Type} {k : Nat → α} : bd 7 (0 : Int32) k = some (k 0) := bd_nI (r := 0) (by decide) (by decide)
theorem l7_1 {α : Type} {k : Nat → α} : bd 7 (1 : Int32) k = some (k 1) := bd_nI (r := 1) (by decide) (by decide)
theorem l7_2 {α : Type} {k : Nat → α} : bd 7 (2 : Int32) k = some (k 2) := bd_nI (r := 2) (by decide) (by decide)
theorem l7_3 {α : Type} {k : Nat → α} : bd 7 (3 : Int32) k = some (k 3) := bd_nI (r := 3) (by decide) (by decide)
theorem l7_4 {α : Type} {k : Nat → α} : bd 7 (4 : Int32) k = some (k 4) := bd_nI (r := 4) (by decide) (by decide)
theorem l7_5 {α : Type} {k : Nat → α} : bd 7 (5 : Int32) k = some (k 5) := bd_nI (r := 5) (by decide) (by decide)
theorem l7_6 {α : Type} {k : Nat → α} : bd 7 (6 : Int32) k = some (k 6) := bd_nI (r := 6) (by decide) (by decide)
/-- the properties written so far -/
def pr7 (X : LX) (n : Nat) (V : Nat → Int32) (j : Nat) : LX := fun q => if q = 0 then (fun i => if 7 * n ≤ i ∧ i < 7 * n + j then V (i - 7 * n) else X 0 i) else X q
theorem pr7_0 (X : LX) (n : Nat) (V : Nat → Int32) : pr7 X n V 0 = X := by
  funext q i
  unfold pr7
  by_cases h : q = 0
  · rw [if_pos h, h]
    show (if _ then _ else _) = _
    rw [if_neg (by omega)]
  · rw [if_neg h]
theorem pr7_s (X : LX) (n : Nat) (V : Nat → Int32) (j : Nat) : ux (pr7 X n V j) 0 (7 * n + j) (V j) = pr7 X n V (j + 1) := by
  funext q i
  unfold ux
  by_cases h : q = 0
  · subst h
    rw [if_pos rfl]
    show (if i = 7 * n + j then V j else if 7 * n ≤ i ∧ i < 7 * n + j then V (i - 7 * n) else X 0 i) = (if 7 * n ≤ i ∧ i < 7 * n + (j + 1) then V (i - 7 * n) else X 0 i)
    by_cases hi : i = 7 * n + j
    · rw [if_pos hi, if_pos (by omega), hi, Nat.add_sub_cancel_left]
    · rw [if_neg hi]
      by_cases h2 : 7 * n ≤ i ∧ i < 7 * n + j
      · rw [if_pos h2, if_pos (by omega)]
      · rw [if_neg h2, if_neg (by omega)]
  · rw [if_neg h]
    unfold pr7
    rw [if_neg h, if_neg h]
/-- the state row written so far -/
def zr9 (X : LX) (n j : Nat) : LX := fun q => if q = 1 then (fun i => if 9 * n ≤ i ∧ i < 9 * n + j then (if i = 9 * n + 8 then -1 else 0) else X 1 i) else X q
theorem zr9_0 (X : LX) (n : Nat) : zr9 X n 0 = X := by
  funext q i
  unfold zr9
  by_cases h : q = 1
  · rw [if_pos h, h]
    show (if _ then _ else _) = _
    rw [if_neg (by omega)]
  · rw [if_neg h]
theorem zr9_s (X : LX) (n j : Nat) : ux (zr9 X n j) 1 (9 * n + j) (if j = 8 then -1 else 0) = zr9 X n (j + 1) := by
  funext q i
  unfold ux
  by_cases h : q = 1
  · subst h
    rw [if_pos rfl]
    show (if i = 9 * n + j then (if j = 8 then -1 else 0) else if 9 * n ≤ i ∧ i < 9 * n + j then (if i = 9 * n + 8 then -1 else 0) else X 1 i) = (if 9 * n ≤ i ∧ i < 9 * n + (j + 1) then (if i = 9 * n + 8 then (-1 : Int32) else 0) else X 1 i)
    by_cases hi : i = 9 * n + j
    · rw [if_pos hi]
      by_cases h8 : j = 8
      · rw [if_pos h8, if_pos (show 9 * n ≤ i ∧ i < 9 * n + (j + 1) by omega), if_pos (show i = 9 * n + 8 by omega)]
      · rw [if_neg h8, if_pos (show 9 * n ≤ i ∧ i < 9 * n + (j + 1) by omega), if_neg (show ¬ i = 9 * n + 8 by omega)]
    · rw [if_neg hi]
      by_cases h2 : 9 * n ≤ i ∧ i < 9 * n + j
      · rw [if_pos h2, if_pos (show 9 * n ≤ i ∧ i < 9 * n + (j + 1) by omega)]
      · rw [if_neg h2, if_neg (show ¬ (9 * n ≤ i ∧ i < 9 * n + (j + 1)) by omega)]
  · rw [if_neg h]
    unfold zr9
    rw [if_neg h, if_neg h]
theorem l_pr7 (hn6 : n < 6) {V : Nat → Int32} {y : Int32} : ∀ (m j fuel : Nat), j + m = 7 → m < fuel → f_L_act_97 fuel (HT (uL (nP T (rw7 V)) 134 (pr7 X n V j))) 0 y 133 134 137 (nI n) (138 + T.2.2.1) (nI j) = f_L_act_129 FU (HT (uL (nP T (rw7 V)) 134 (pr7 X n V 7))) 0 y 134 137 (nI n) (138 + T.2.2.1) 0 := by
  intro m
  induction m with
  | zero =>
    intro j fuel hj hf
    obtain ⟨fuel, rfl⟩ : ∃ f, fuel = f + 1 := ⟨fuel - 1, by omega⟩
    obtain rfl : j = 7 := by omega
    show b_L_act_97 _ _ _ _ _ _ _ _ _ _ = _
    unfold b_L_act_97
    rw [if_pos (by decide)]
  | succ m ih =>
    intro j fuel hj hf
    obtain ⟨fuel, rfl⟩ : ∃ f, fuel = f + 1 := ⟨fuel - 1, by omega⟩
    show b_L_act_97 _ _ _ _ _ _ _ _ _ _ = _
    unfold b_L_act_97
    rw [if_neg (by rw [show (7 : Int32) = nI 7 from rfl]; exact nI_ge (by omega) (by omega)), r7_a, bd_nI (by omega) (by decide), obs, jx7, nI_add, y_s0, bd_nI (by omega) (by decide), obs, pr7_s, nI_1]
    exact ih (j + 1) fuel (by omega) (by omega)
/-- what comes after the state row -/
def finA (h : MH) (y nn : Int32) (c : Nat) : Option (Int32 × MH) :=
  (f_L_at h (y >>> ((4 : Int32) &&& 31)) ((1 : Int32) <<< (nn &&& 31))).bind fun v2 =>
  (sI h 134 ((9 : Int32) * nn) v2).bind fun h3 =>
  (aI h3 137 (0 : Int32)).bind fun v4 =>
  (sI h3 137 (0 : Int32) (v4 + (1 : Int32))).bind fun h5 =>
  (aI h5 c (0 : Int32)).bind fun v6 =>
  (aI h5 c (1 : Int32)).bind fun v7 =>
  (aI h5 c (2 : Int32)).bind fun v8 =>
  (aI h5 134 ((9 : Int32) * nn)).bind fun v9 =>
  (vcall h5 3 0 (f_X3_addRail h5 0 v6 v7 v8 v9)).bind fun p10 =>
  if p10.1 = nn then b_L_act_225 p10.2 1 else b_L_act_225 p10.2 0
theorem l_zr9 (hn6 : n < 6) {c : Nat} {y : Int32} : ∀ (m j fuel : Nat), j + m = 9 → m < fuel → f_L_act_129 fuel (HT (uL T 134 (zr9 X n j))) 0 y 134 137 (nI n) c (nI j) = finA (HT (uL T 134 (zr9 X n 9))) y (nI n) c := by
  intro m
  induction m with
  | zero =>
    intro j fuel hj hf
    obtain ⟨fuel, rfl⟩ : ∃ f, fuel = f + 1 := ⟨fuel - 1, by omega⟩
    obtain rfl : j = 9 := by omega
    show b_L_act_129 _ _ _ _ _ _ _ _ _ = _
    unfold b_L_act_129 finA
    rw [if_pos (by decide)]
  | succ m ih =>
    intro j fuel hj hf
    obtain ⟨fuel, rfl⟩ : ∃ f, fuel = f + 1 := ⟨fuel - 1, by omega⟩
    show b_L_act_129 _ _ _ _ _ _ _ _ _ = _
    unfold b_L_act_129 b_L_act_158
    rw [if_neg (by rw [show (9 : Int32) = nI 9 from rfl]; exact nI_ge (by omega) (by omega)), jx9, nI_add, y_s1, bd_nI (by omega) (by decide), obs, y_s1, bd_nI (by omega) (by decide), obs, nI_1]
    have h9 := zr9_s X n j
    by_cases h8 : j = 8
    · rw [if_pos (by rw [h8]; rfl)]
      rw [if_pos h8] at h9
      rw [h9]
      exact ih (j + 1) fuel (by omega) (by omega)
    · rw [if_neg (by rw [show (8 : Int32) = nI 8 from rfl, nI_eq (by omega) (by omega)]; exact h8)]
      rw [if_neg h8] at h9
      rw [h9]
      exact ih (j + 1) fuel (by omega) (by omega)
theorem v_addRail (hn6 : n < 6) (hi : IC T s) (h0 : (T.1.2.2 0).1 0 = nI n) {x1 x2 x3 x4 : Int32} (a0 : ¬ (x1 < roL 0 ∨ roM 0 < x1)) (a1 : ¬ (x2 < roL 1 ∨ roM 1 < x2)) (a2 : ¬ (x3 < roL 2 ∨ roM 2 < x3)) (a3 : x4.toBitVec.toNat < 2 ^ n) : f_X3_addRail (HT T) 0 x1 x2 x3 x4 = some (nI n, HT (uP (svT T s) 0 (add2 (T.1.2.2 0) n x1 x2 x3 x4))) := by
  obtain ⟨hs, hS, hσ⟩ := hi
  have hn8 : n ≤ 8 := by omega
  have r0 := c_range (HT T) (p := 0) (by decide) x1
  have r1 := c_range (HT T) (p := 1) (by decide) x2
  have r2 := c_range (HT T) (p := 2) (by decide) x3
  have r3 : f_X3_areRails (HT T) 0 x4 = some (if x4.toBitVec.toNat < 2 ^ n then 1 else 0) := by
    simp only [f_X3_areRails, t_R0, q_I0, h0, obs, c_below _ _ hn8]
    split <;> rfl
  rw [show nI 0 = (0 : Int32) from rfl] at r0
  rw [show nI 1 = (1 : Int32) from rfl] at r1
  rw [show nI 2 = (2 : Int32) from rfl] at r2
  unfold f_X3_addRail
  rw [r0, obs, if_neg a0, if_neg n10, r1, obs, if_neg a1, if_neg n10, r2, obs, if_neg a2, if_neg n10, t_v3, r3, obs, if_pos a3, if_neg n10, t_R0, obs, q_I0, obs, h0]
  have hlt : nI n < (8 : Int32) := by
    rw [show (8 : Int32) = nI 8 from rfl, nI_ltI (by omega) (by omega)]
    omega
  rw [if_pos hlt, t_v3, t_save T hs hS hσ, obs, t_R0, obs, q_v1, q_add (by rw [sv_pl T hσ]; exact h0) (by omega), obs, t_R0, obs, q_I0, obs, uP_pl, sv_pl T hσ]
  rw [show (add2 (T.1.2.2 0) n x1 x2 x3 x4).1 0 = nI (n + 1) from rfl]
  rw [show nI (n + 1) - 1 = nI n from by rw [← nI_1]; exact Int32.add_sub_cancel _ _]
/-- accounts of rails that are not yet there -/
def Z0 (n : Nat) (X : LX) : Prop := ∀ q, n ≤ q → ∀ i, i < 4 → rowX X q (16 + i) = 0
theorem RX_add {P : PV} (h : RX n P X) (hn6 : n < 6) (hz : Z0 n X) {V : Nat → Int32} {x1 x2 x3 x4 : Int32} (hV : ∀ i, i < 7 → V i = addR x1 x2 x3 x4 i) (a0 : ¬ (x1 < roL 0 ∨ roM 0 < x1)) (a1 : ¬ (x2 < roL 1 ∨ roM 1 < x2)) (a2 : ¬ (x3 < roL 2 ∨ roM 2 < x3)) (a3 : x4.toBitVec.toNat < 2 ^ n) : RX (n + 1) (add2 P n x1 x2 x3 x4) (ux (ux (zr9 (pr7 X n V 7) n 9) 1 (9 * n) x4) 4 0 (nI (n + 1))) ∧ ∀ q, n + 1 ≤ q → rowX (ux (ux (zr9 (pr7 X n V 7) n 9) 1 (9 * n) x4) 4 0 (nI (n + 1))) q = rowX X q := by
  have key : ∀ q, q ≠ n → rowX (ux (ux (zr9 (pr7 X n V 7) n 9) 1 (9 * n) x4) 4 0 (nI (n + 1))) q = rowX X q := by
    intro q hq
    rw [qx_o _ (by decide), qx_7, sr_ne _ _ hq]
    have z9 : ∀ i, i < 9 → zr9 (pr7 X n V 7) n 9 1 (9 * q + i) = X 1 (9 * q + i) := by
      intro i hi
      show (if 9 * n ≤ 9 * q + i ∧ 9 * q + i < 9 * n + 9 then _ else X 1 (9 * q + i)) = _
      rw [if_neg (by omega)]
    have z7 : ∀ i, i < 7 → zr9 (pr7 X n V 7) n 9 0 (7 * q + i) = X 0 (7 * q + i) := by
      intro i hi
      show (if 7 * n ≤ 7 * q + i ∧ 7 * q + i < 7 * n + 7 then _ else X 0 (7 * q + i)) = _
      rw [if_neg (by omega)]
    funext k
    match k with
    | 0 => exact z7 0 (by decide)
    | 1 => exact z7 1 (by decide)
    | 2 => exact z7 2 (by decide)
    | 3 => exact z7 3 (by decide)
    | 4 => exact z7 4 (by decide)
    | 5 => exact z7 5 (by decide)
    | 6 => exact z7 6 (by decide)
    | 7 => exact z9 0 (by decide)
    | 8 => rfl
    | 9 => exact z9 2 (by decide)
    | 10 => exact z9 3 (by decide)
    | 11 => exact z9 4 (by decide)
    | 12 => exact z9 5 (by decide)
    | 13 => exact z9 6 (by decide)
    | 14 => exact z9 7 (by decide)
    | 15 => exact z9 8 (by decide)
    | 16 => rfl
    | 17 => rfl
    | 18 => rfl
    | 19 => rfl
    | j + 20 => rfl
  have keyn : rowX (ux (ux (zr9 (pr7 X n V 7) n 9) 1 (9 * n) x4) 4 0 (nI (n + 1))) n = addR x1 x2 x3 x4 := by
    rw [qx_o _ (by decide), qx_7, sr_at]
    have z9 : ∀ i, i < 9 → zr9 (pr7 X n V 7) n 9 1 (9 * n + i) = if i = 8 then -1 else 0 := by
      intro i hi
      show (if 9 * n ≤ 9 * n + i ∧ 9 * n + i < 9 * n + 9 then (if 9 * n + i = 9 * n + 8 then (-1 : Int32) else 0) else X 1 (9 * n + i)) = _
      rw [if_pos (by omega)]
      by_cases h8 : i = 8
      · rw [if_pos h8, if_pos (by omega)]
      · rw [if_neg h8, if_neg (by omega)]
    have z7 : ∀ i, i < 7 → zr9 (pr7 X n V 7) n 9 0 (7 * n + i) = addR x1 x2 x3 x4 i := by
      intro i hi
      show (if 7 * n ≤ 7 * n + i ∧ 7 * n + i < 7 * n + 7 then V (7 * n + i - 7 * n) else X 0 (7 * n + i)) = _
      rw [if_pos (by omega), Nat.add_sub_cancel_left]
      exact hV i hi
    have hz' := hz n (Nat.le_refl _)
    funext k
    match k with
    | 0 => exact (upd_n (by decide)).trans (z7 0 (by decide))
    | 1 => exact (upd_n (by decide)).trans (z7 1 (by decide))
    | 2 => exact (upd_n (by decide)).trans (z7 2 (by decide))
    | 3 => exact (upd_n (by decide)).trans (z7 3 (by decide))
    | 4 => exact (upd_n (by decide)).trans (z7 4 (by decide))
    | 5 => exact (upd_n (by decide)).trans (z7 5 (by decide))
    | 6 => exact (upd_n (by decide)).trans (z7 6 (by decide))
    | 7 => exact upd_s
    | 8 => exact (upd_n (by decide)).trans rfl
    | 9 => exact (upd_n (by decide)).trans (z9 2 (by decide))
    | 10 => exact (upd_n (by decide)).trans (z9 3 (by decide))
    | 11 => exact (upd_n (by decide)).trans (z9 4 (by decide))
    | 12 => exact (upd_n (by decide)).trans (z9 5 (by decide))
    | 13 => exact (upd_n (by decide)).trans (z9 6 (by decide))
    | 14 => exact (upd_n (by decide)).trans (z9 7 (by decide))
    | 15 => exact (upd_n (by decide)).trans (z9 8 (by decide))
    | 16 => exact (upd_n (by decide)).trans (hz' 0 (by decide))
    | 17 => exact (upd_n (by decide)).trans (hz' 1 (by decide))
    | 18 => exact (upd_n (by decide)).trans (hz' 2 (by decide))
    | 19 => exact (upd_n (by decide)).trans (hz' 3 (by decide))
    | j + 20 => exact (upd_n (by omega)).trans (by simp [addR, rowX])
  refine ⟨?_, fun q hq => key q (by omega)⟩
  obtain ⟨hn6', h0, x0, x1', x2', hrow, hw, ⟨g1, g2, g3⟩, hwn, hok, ⟨t0, t13⟩⟩ := h
  refine ⟨hn6, rfl, rfl, x1', x2', fun q hq => ?_, fun q hq => ?_, ⟨g1, g2, g3⟩, Nat.lt_of_lt_of_le hwn (Nat.pow_le_pow_right (by decide) (Nat.le_succ n)), fun q hq => ?_, t0, fun q hq => ?_⟩
  · rw [add_row]
    by_cases hqn : q = n
    · rw [hqn, sr_at, keyn]
    · rw [sr_ne _ _ hqn, key q hqn]
      exact hrow q (by omega)
  · show upd (zr9 (pr7 X n V 7) n 9 1) (9 * n) x4 (9 * q + 1) = if tb (P.1 3) q = true then 1 else 0
    rw [upd_n (by omega)]
    show (if 9 * n ≤ 9 * q + 1 ∧ 9 * q + 1 < 9 * n + 9 then (if 9 * q + 1 = 9 * n + 8 then (-1 : Int32) else 0) else X 1 (9 * q + 1)) = _
    by_cases hqn : q = n
    · rw [if_pos (by omega), if_neg (by omega), hqn, if_neg]
      have hf : tb (P.1 3) n = false := Nat.testBit_lt_two_pow hwn
      rw [hf]
      decide
    · rw [if_neg (by omega)]
      exact hw q (by omega)
  · rw [add_row]
    by_cases hqn : q = n
    · rw [hqn, sr_at]
      exact RowOK_add a0 a1 a2 a3
    · rw [sr_ne _ _ hqn]
      exact hok q (by omega)
  · rw [add_row]
    by_cases hqn : q = n
    · rw [hqn, sr_at]
      exact ⟨by show 0 ≤ (0 : Int32).toInt; decide, t0.1⟩
    · rw [sr_ne _ _ hqn]
      exact t13 q (by omega)
theorem upd7 (V : Nat → Int32) (v0 v1 v2 v3 v4 v5 v6 : Int32) : ∀ i, i < 7 → upd (upd (upd (upd (upd (upd (upd V 0 v0) 1 v1) 2 v2) 3 v3) 4 v4) 5 v5) 6 v6 i = ([v0, v1, v2, v3, v4, v5, v6] : List Int32).getD i 0 := by
  intro i hi
  match i, hi with
  | 0, _ => rfl
  | 1, _ => rfl
  | 2, _ => rfl
  | 3, _ => rfl
  | 4, _ => rfl
  | 5, _ => rfl
  | 6, _ => rfl
theorem act_add (h : RLT T X n s) (hn6 : n < 6) (hz : Z0 n X) (hl : 138 + T.2.2.1 < 1000) {a : Int32} (h2 : ¬ (2 : Int32) ≤ a) {x y : Nat} (hx : x < 2 ^ 31) (hy : y < 2 ^ 31) : ∃ T' X' s', f_L_act (HT (uL T 134 X)) 0 a (nI x) (nI y) 133 134 135 136 137 = some (1, HT (uL T' 134 X')) ∧ RLT T' X' (n + 1) s' ∧ T'.2.2.1 ≤ T.2.2.1 + 1 ∧ s ≤ s' ∧ 1 ≤ s' ∧ ((T'.1.2.2 0).1 1).toInt ≤ ((T.1.2.2 0).1 1).toInt + 60 ∧ ∀ q, n + 1 ≤ q → rowX X' q = rowX X q := by
  have h' := h
  obtain ⟨hrx, hi, ha⟩ := h'
  have hs := hi.1
  have h0 := hrx.2.1
  have x0 := hrx.2.2.1
  have e3 : nI x >>> ((3 : Int32) &&& 31) = nI (x / 8) := pk_shrN hx _ 3 (by decide)
  have e4 : nI y >>> ((4 : Int32) &&& 31) = nI (y / 16) := pk_shrN hy _ 4 (by decide)
  have hp : 2 ^ n ≤ 2 ^ 6 := Nat.pow_le_pow_right (by decide) (by omega)
  have en : ∀ h : MH, f_L_at h (nI (y / 16)) ((1 : Int32) <<< (nI n &&& 31)) = some (nI (y / 16 / 2 % 2 ^ n)) := by
    intro h
    rw [nI_bit (by omega)]
    exact l_at _ (by omega) (Nat.two_pow_pos n) (by omega)
  have hv : y / 16 / 2 % 2 ^ n < 2 ^ n := Nat.mod_lt _ (Nat.two_pow_pos n)
  generalize y / 16 / 2 % 2 ^ n = d at en hv
  have a3 : (nI d).toBitVec.toNat < 2 ^ n := by rw [pk_tn (by omega)]; exact hv
  have g0 : ∀ h : MH, ∃ z, f_L_value h 0 (nI x) = some (nI z) ∧ ¬ (nI z < roL 0 ∨ roM 0 < nI z) ∧ z ≤ 5000 := fun h => l_value h (k := 0) (by decide) hx
  have g1 : ∀ h : MH, ∃ z, f_L_value h 1 (nI y) = some (nI z) ∧ ¬ (nI z < roL 1 ∨ roM 1 < nI z) ∧ z ≤ 5000 := fun h => l_value h (k := 1) (by decide) hy
  have g2 : ∀ h : MH, ∃ z, f_L_value h 2 (nI (x / 8)) = some (nI z) ∧ ¬ (nI z < roL 2 ∨ roM 2 < nI z) ∧ z ≤ 5000 := fun h => l_value h (k := 2) (by decide) (by omega)
  have m900 : ∀ z : Nat, z ≤ 5000 → firem (nI z) 900 = some (nI (z % 900)) := fun z hz => i_mod (c := 900) (by omega) (by decide) (by decide)
  have p20 : ∀ z : Nat, (20 : Int32) + nI z = nI (20 + z) := fun z => nI_add 20 z
  have hR : ∀ z : Nat, 20 + z % 900 ≤ 1000 := fun z => by have := Nat.mod_lt z (show 0 < 900 by decide); omega
  have hlen : (HT (uL T 134 X)).length = 138 + T.2.2.1 := hh_len
  unfold f_L_act
  rw [if_neg h2, y_a4, l6_0, obs, x0, if_neg (by rw [show (6 : Int32) = nI 6 from rfl, nI_eq (by omega) (by omega)]; omega), obs, nA_T (T := uL T 134 X) hl, obs, obs, hlen, nP_uL]
  rw [show (.inl (0, 7, .inl fun _ => 0) : MC) = rw7 (fun _ => 0) from rfl]
  obtain ⟨z0, c0, b0, d0⟩ := g0 (HT (uL (nP T (rw7 (fun _ => 0))) 134 X))
  rw [c0, obs, r7_s, l7_0, obs]
  obtain ⟨z1, c1, b1, d1⟩ := g1 (HT (uL (nP T (rw7 (upd (fun _ => 0) 0 (nI z0)))) 134 X))
  rw [c1, obs, m900 z1 d1, obs, p20, r7_s, l7_1, obs]
  obtain ⟨z2, c2, b2, d2⟩ := g2 (HT (uL (nP T (rw7 (upd (upd (fun _ => 0) 0 (nI z0)) 1 (nI (20 + z1 % 900))))) 134 X))
  rw [e3, c2, obs, m900 z2 d2, obs, p20, r7_s, l7_2, obs, r7_s, l7_3, obs, r7_s, l7_4, obs, r7_s, l7_5, obs, r7_s, l7_6, obs]
  have a1 : ¬ (nI (20 + z1 % 900) < roL 1 ∨ roM 1 < nI (20 + z1 % 900)) := in_r (lo := 1) (hi := 1000) (by omega) (hR z1) (by decide)
  have a2 : ¬ (nI (20 + z2 % 900) < roL 2 ∨ roM 2 < nI (20 + z2 % 900)) := in_r (lo := 1) (hi := 1000) (by omega) (hR z2) (by decide)
  generalize nI (20 + z1 % 900) = w1 at a1
  generalize nI (20 + z2 % 900) = w2 at a2
  generalize hW : nI z0 = w0 at b0
  have hV := upd7 (fun _ => 0) w0 w1 w2 90 2 40 2
  generalize upd (upd (upd (upd (upd (upd (upd (fun _ => 0) 0 w0) 1 w1) 2 w2) 3 90) 4 2) 5 40) 6 2 = V at hV
  have hV' : ∀ i, i < 7 → V i = addR w0 w1 w2 (nI d) i := by
    intro i hi
    rw [hV i hi]
    match i, hi with
    | 0, _ => rfl
    | 1, _ => rfl
    | 2, _ => rfl
    | 3, _ => rfl
    | 4, _ => rfl
    | 5, _ => rfl
    | 6, _ => rfl
  have l1 := l_pr7 (T := T) (X := X) (V := V) (y := nI y) hn6 7 0 FU (by omega) (by rw [FU_eq]; omega)
  rw [pr7_0, show nI 0 = (0 : Int32) from rfl] at l1
  have l2 := l_zr9 (T := nP T (rw7 V)) (X := pr7 X n V 7) (n := n) (c := 138 + T.2.2.1) (y := nI y) hn6 9 0 FU (by omega) (by rw [FU_eq]; omega)
  rw [zr9_0, show nI 0 = (0 : Int32) from rfl] at l2
  rw [l1, l2]
  obtain ⟨k1, k2⟩ := RX_add hrx hn6 hz hV' b0 a1 a2 a3
  generalize hX : ux (ux (zr9 (pr7 X n V 7) n 9) 1 (9 * n) (nI d)) 4 0 (nI (n + 1)) = X' at k1 k2
  have es := v_addRail (T := uL (nP T (rw7 V)) 134 X') (s := s) hn6 hi h0 b0 a1 a2 a3
  rw [uL_sv] at es
  refine ⟨uP (svT (nP T (rw7 V)) s) 0 (add2 (T.1.2.2 0) n w0 w1 w2 (nI d)), X', min (s + 1) 6, ?_, ⟨k1, IC_sv (T := nP T (rw7 V)) hi _, AZ_add ha _ _ _ _⟩, Nat.le_refl _, by omega, by omega, by show ((T.1.2.2 0).1 1).toInt ≤ _; omega, k2⟩
  unfold finA
  rw [e4, en, obs, jx9, y_s1, bd_nI (by omega) (by decide), obs, y_a4, l6_0, obs, y_s4, l6_0, obs]
  rw [show ux (zr9 (pr7 X n V 7) n 9) 1 (9 * n) (nI d) 4 0 = nI n from x0, nI_1, hX, r7_a, l7_0, obs, r7_a, l7_1, obs, r7_a, l7_2, obs, y_a1, bd_nI (by omega) (by decide), obs, t_v3]
  rw [show X' 1 (9 * n) = nI d from by rw [← hX]; exact upd_s, hV' 0 (by decide), hV' 1 (by decide), hV' 2 (by decide)]
  rw [show addR w0 w1 w2 (nI d) 0 = w0 from rfl, show addR w0 w1 w2 (nI d) 1 = w1 from rfl, show addR w0 w1 w2 (nI d) 2 = w2 from rfl, es, obs]
  unfold b_L_act_225
  rw [if_pos rfl, i1]
  rfl
