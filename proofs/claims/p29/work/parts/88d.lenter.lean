/-! the law: a rail enters a state, and the log -/
theorem ux_00 {X : LX} {i : Nat} {x : Int32} : ux X 0 i x 0 = upd (X 0) i x := rfl
theorem ux_01 {X : LX} {i : Nat} {x : Int32} : ux X 0 i x 1 = X 1 := rfl
theorem ux_02 {X : LX} {i : Nat} {x : Int32} : ux X 0 i x 2 = X 2 := rfl
theorem ux_03 {X : LX} {i : Nat} {x : Int32} : ux X 0 i x 3 = X 3 := rfl
theorem ux_04 {X : LX} {i : Nat} {x : Int32} : ux X 0 i x 4 = X 4 := rfl
theorem ux_10 {X : LX} {i : Nat} {x : Int32} : ux X 1 i x 0 = X 0 := rfl
theorem ux_11 {X : LX} {i : Nat} {x : Int32} : ux X 1 i x 1 = upd (X 1) i x := rfl
theorem ux_12 {X : LX} {i : Nat} {x : Int32} : ux X 1 i x 2 = X 2 := rfl
theorem ux_13 {X : LX} {i : Nat} {x : Int32} : ux X 1 i x 3 = X 3 := rfl
theorem ux_14 {X : LX} {i : Nat} {x : Int32} : ux X 1 i x 4 = X 4 := rfl
theorem ux_20 {X : LX} {i : Nat} {x : Int32} : ux X 2 i x 0 = X 0 := rfl
theorem ux_21 {X : LX} {i : Nat} {x : Int32} : ux X 2 i x 1 = X 1 := rfl
theorem ux_22 {X : LX} {i : Nat} {x : Int32} : ux X 2 i x 2 = upd (X 2) i x := rfl
theorem ux_23 {X : LX} {i : Nat} {x : Int32} : ux X 2 i x 3 = X 3 := rfl
theorem ux_24 {X : LX} {i : Nat} {x : Int32} : ux X 2 i x 4 = X 4 := rfl
theorem ux_30 {X : LX} {i : Nat} {x : Int32} : ux X 3 i x 0 = X 0 := rfl
theorem ux_31 {X : LX} {i : Nat} {x : Int32} : ux X 3 i x 1 = X 1 := rfl
theorem ux_32 {X : LX} {i : Nat} {x : Int32} : ux X 3 i x 2 = X 2 := rfl
theorem ux_33 {X : LX} {i : Nat} {x : Int32} : ux X 3 i x 3 = upd (X 3) i x := rfl
theorem ux_34 {X : LX} {i : Nat} {x : Int32} : ux X 3 i x 4 = X 4 := rfl
theorem ux_40 {X : LX} {i : Nat} {x : Int32} : ux X 4 i x 0 = X 0 := rfl
theorem ux_41 {X : LX} {i : Nat} {x : Int32} : ux X 4 i x 1 = X 1 := rfl
theorem ux_42 {X : LX} {i : Nat} {x : Int32} : ux X 4 i x 2 = X 2 := rfl
theorem ux_43 {X : LX} {i : Nat} {x : Int32} : ux X 4 i x 3 = X 3 := rfl
theorem ux_44 {X : LX} {i : Nat} {x : Int32} : ux X 4 i x 4 = upd (X 4) i x := rfl
def shY (Y : LX) (j : Nat) : LX := fun q => if q = 3 then (fun i => if 4 ≤ i ∧ i < j + 4 then Y 3 (i - 4) else Y 3 i) else Y q
def enZ (Y : LX) (r : Nat) (s : Int32) : LX := ux (ux (ux (ux Y 3 0 (Y 4 2)) 3 1 (nI r)) 3 2 s) 3 3 (Y 1 (9 * r + 8))
def enY (Y : LX) (r : Nat) (s : Int32) : LX := if 16 ≤ Y 4 3 then enZ Y r s else ux (enZ Y r s) 4 3 (Y 4 3 + 1)
theorem sh_0 (Y : LX) : shY Y 0 = Y := by
  funext q
  unfold shY
  by_cases h : q = 3
  · subst h
    rw [if_pos rfl]
    funext i
    exact if_neg (by omega)
  · exact if_neg h
theorem sh_s (Y : LX) (j : Nat) : shY (ux Y 3 (j + 4) (Y 3 j)) j = shY Y (j + 1) := by
  funext q
  unfold shY
  by_cases h : q = 3
  · subst h
    rw [if_pos rfl, if_pos rfl]
    funext i
    rw [ux_33]
    by_cases h1 : 4 ≤ i ∧ i < j + 4
    · rw [if_pos h1, if_pos (by omega), upd_n (by omega)]
    · rw [if_neg h1]
      by_cases h2 : i = j + 4
      · subst h2
        rw [upd_s, if_pos (by omega)]
        exact congrArg (Y 3) (by omega)
      · rw [upd_n h2, if_neg (by omega)]
  · rw [if_neg h, if_neg h, ux_n h]
variable {G : GB} {c : Nat} {X : LX}
theorem l_en59 (hc : CK G c) {r : Nat} (hr : r < 6) (s : Int32) : ∀ (j fuel : Nat) (Y : LX), j ≤ 60 → j < fuel → f_L_enter_59 fuel (hl G c Y) (nI r) s c (c + 2) (c + 3) (nI j - 1) = some (hl G c (enY (shY Y j) r s)) := by
  intro j
  induction j with
  | zero =>
    intro fuel Y hj hf
    obtain ⟨fuel, rfl⟩ : ∃ f, fuel = f + 1 := ⟨fuel - 1, by omega⟩
    show b_L_enter_59 _ _ _ _ _ _ _ _ = _
    rw [sh_0]
    unfold b_L_enter_59 b_L_enter_130
    rw [if_pos (by decide)]
    simp (disch := omega) only [obs, l_a0 hc, l_a1 hc, l_a2 hc, l_a3 hc, l_a4 hc, l_s0 hc, l_s1 hc, l_s2 hc, l_s3 hc, l_s4 hc, jx9, jx7, jx3, ix4l, ixa0, ixa1, ixa2, ixa3, ixa4, ixa5, ixa6, ixa7, ixa8, ixa9, ixa10, ixa11, ixa12, ixa13, ixa14, ixa15, ixa16, ixa17, ixa18, ixa19, ixa20, l6_0, l6_1, l6_2, l6_3, l6_4, l6_5, l64_0, l64_1, l64_2, l64_3, ux_00, ux_01, ux_02, ux_03, ux_04, ux_10, ux_11, ux_12, ux_13, ux_14, ux_20, ux_21, ux_22, ux_23, ux_24, ux_30, ux_31, ux_32, ux_33, ux_34, ux_40, ux_41, ux_42, ux_43, ux_44, upd_s, upd_n, bd_nI]
    unfold enY enZ
    by_cases h : 16 ≤ Y 4 3
    · rw [if_pos h, if_pos h]
    · rw [if_neg h, if_neg h]
  | succ j ih =>
    intro fuel Y hj hf
    obtain ⟨fuel, rfl⟩ : ∃ f, fuel = f + 1 := ⟨fuel - 1, by omega⟩
    show b_L_enter_59 _ _ _ _ _ _ _ _ = _
    unfold b_L_enter_59
    rw [nI_pred, if_neg (nI_pos (by omega))]
    simp (disch := omega) only [obs, l_a0 hc, l_a1 hc, l_a2 hc, l_a3 hc, l_a4 hc, l_s0 hc, l_s1 hc, l_s2 hc, l_s3 hc, l_s4 hc, jx9, jx7, jx3, ix4l, ixa0, ixa1, ixa2, ixa3, ixa4, ixa5, ixa6, ixa7, ixa8, ixa9, ixa10, ixa11, ixa12, ixa13, ixa14, ixa15, ixa16, ixa17, ixa18, ixa19, ixa20, l6_0, l6_1, l6_2, l6_3, l6_4, l6_5, l64_0, l64_1, l64_2, l64_3, bd_nI]
    rw [show nI j + (-1 : Int32) = nI j - 1 from (Int32.sub_eq_add_neg _ _).symm, ih fuel _ (by omega) (by omega), sh_s]
def enA (X : LX) (r : Nat) (s : Int32) : LX := ux (ux X 1 (9 * r + 2) s) 4 4 (X 4 4 + 1)
def enB (X : LX) (r : Nat) (s : Int32) : LX := if s ≤ 3 then enA X r s else ux (enA X r s) 4 5 (X 4 5 ||| ((1 : Int32) <<< (nI r &&& 31)))
def enC (X : LX) (r : Nat) (s : Int32) : LX := if s = 2 then ux (enB X r s) 2 (4 * r) (X 2 (4 * r) + 1) else if s = 3 then ux (enB X r s) 2 (4 * r + 1) (X 2 (4 * r + 1) + 1) else enB X r s
theorem enB_2 (X : LX) (r : Nat) (s : Int32) : enB X r s 2 = X 2 := by
  unfold enB
  split <;> rfl
theorem l_enter_eq (hc : CK G c) {r : Nat} (hr : r < 6) (s : Int32) : f_L_enter (hl G c X) (nI r) s c (c + 1) (c + 2) (c + 3) = some (hl G c (enY (shY (enC X r s) 60) r s)) := by
  have e55 : ∀ Y : LX, b_L_enter_55 (hl G c Y) (nI r) s c (c + 2) (c + 3) = some (hl G c (enY (shY Y 60) r s)) := by
    intro Y
    unfold b_L_enter_55
    rw [show (59 : Int32) = nI 60 - 1 from by decide]
    exact l_en59 hc hr s 60 FU Y (by omega) (by rw [FU_eq]; omega)
  have e32 : b_L_enter_32 (hl G c (enB X r s)) (nI r) s c (c + 1) (c + 2) (c + 3) = some (hl G c (enY (shY (enC X r s) 60) r s)) := by
    have h2 := enB_2 X r s
    unfold b_L_enter_32 enC b_L_enter_42
    by_cases c2 : s = 2
    · rw [if_pos c2, if_pos c2]
      subst c2
      simp (disch := omega) only [obs, l_a0 hc, l_a1 hc, l_a2 hc, l_a3 hc, l_a4 hc, l_s0 hc, l_s1 hc, l_s2 hc, l_s3 hc, l_s4 hc, jx9, jx7, jx3, ix4l, ixa0, ixa1, ixa2, ixa3, ixa4, ixa5, ixa6, ixa7, ixa8, ixa9, ixa10, ixa11, ixa12, ixa13, ixa14, ixa15, ixa16, ixa17, ixa18, ixa19, ixa20, l6_0, l6_1, l6_2, l6_3, l6_4, l6_5, l64_0, l64_1, l64_2, l64_3, jm2, bd_nI, e55, h2]
    · rw [if_neg c2, if_neg c2]
      by_cases c3 : s = 3
      · rw [if_pos c3, if_pos c3]
        subst c3
        simp (disch := omega) only [obs, l_a0 hc, l_a1 hc, l_a2 hc, l_a3 hc, l_a4 hc, l_s0 hc, l_s1 hc, l_s2 hc, l_s3 hc, l_s4 hc, jx9, jx7, jx3, ix4l, ixa0, ixa1, ixa2, ixa3, ixa4, ixa5, ixa6, ixa7, ixa8, ixa9, ixa10, ixa11, ixa12, ixa13, ixa14, ixa15, ixa16, ixa17, ixa18, ixa19, ixa20, l6_0, l6_1, l6_2, l6_3, l6_4, l6_5, l64_0, l64_1, l64_2, l64_3, jm3, bd_nI, e55, h2]
      · rw [if_neg c3, if_neg c3]
        exact e55 _
  unfold f_L_enter
  simp (disch := omega) only [obs, l_a0 hc, l_a1 hc, l_a2 hc, l_a3 hc, l_a4 hc, l_s0 hc, l_s1 hc, l_s2 hc, l_s3 hc, l_s4 hc, jx9, jx7, jx3, ix4l, ixa0, ixa1, ixa2, ixa3, ixa4, ixa5, ixa6, ixa7, ixa8, ixa9, ixa10, ixa11, ixa12, ixa13, ixa14, ixa15, ixa16, ixa17, ixa18, ixa19, ixa20, l6_0, l6_1, l6_2, l6_3, l6_4, l6_5, l64_0, l64_1, l64_2, l64_3, ux_00, ux_01, ux_02, ux_03, ux_04, ux_10, ux_11, ux_12, ux_13, ux_14, ux_20, ux_21, ux_22, ux_23, ux_24, ux_30, ux_31, ux_32, ux_33, ux_34, ux_40, ux_41, ux_42, ux_43, ux_44, upd_s, upd_n, bd_nI]
  by_cases h3 : s ≤ 3
  · rw [if_pos h3]
    rw [← e32]
    unfold enB
    rw [if_pos h3]
    rfl
  · rw [if_neg h3]
    rw [← e32]
    unfold enB
    rw [if_neg h3]
    rfl
/-- what entering does -/
def EN (X X' : LX) (r : Nat) (s : Int32) : Prop := X' 0 = X 0 ∧ rowX X' = setRow (rowX X) r (becR s (rowX X r)) ∧ (∀ w n, wnX X w n → wnX X' w n) ∧ (∀ i, i < 64 → X' 3 i = logIn (X 3) (X 4 2) (nI r) s (rowX X r 15) i) ∧ X' 4 0 = X 4 0 ∧ X' 4 1 = X 4 1 ∧ X' 4 2 = X 4 2 ∧ X' 4 3 = (if 16 ≤ X 4 3 then X 4 3 else X 4 3 + 1) ∧ X' 4 4 = X 4 4 + 1 ∧ X' 4 5 = falE (X 4 5) (nI r, s, rowX X r 15)
theorem rowX_sh (Y : LX) (j : Nat) : rowX (shY Y j) = rowX Y := by
  funext r k
  match k with
  | 0 => rfl
  | 1 => rfl
  | 2 => rfl
  | 3 => rfl
  | 4 => rfl
  | 5 => rfl
  | 6 => rfl
  | 7 => rfl
  | 8 => rfl
  | 9 => rfl
  | 10 => rfl
  | 11 => rfl
  | 12 => rfl
  | 13 => rfl
  | 14 => rfl
  | 15 => rfl
  | 16 => rfl
  | 17 => rfl
  | 18 => rfl
  | 19 => rfl
  | k + 20 => rfl
theorem rowX_enY (Y : LX) (r : Nat) (s : Int32) : rowX (enY Y r s) = rowX Y := by
  unfold enY enZ
  split
  · rw [qx_o _ (by decide), qx_o _ (by decide), qx_o _ (by decide), qx_o _ (by decide)]
  · rw [qx_o _ (by decide), qx_o _ (by decide), qx_o _ (by decide), qx_o _ (by decide), qx_o _ (by decide)]
theorem rowX_enB (X : LX) (r : Nat) (s : Int32) : rowX (enB X r s) = setRow (rowX X) r (upd (rowX X r) 9 s) := by
  have e : rowX (enA X r s) = setRow (rowX X) r (upd (rowX X r) 9 s) := by
    unfold enA
    rw [qx_o _ (by decide), qx_9]
  unfold enB
  split
  · exact e
  · rw [qx_o _ (by decide), e]
theorem rowX_enC (X : LX) (r : Nat) (s : Int32) : rowX (enC X r s) = setRow (rowX X) r (becR s (rowX X r)) := by
  unfold enC becR
  by_cases c2 : s = 2
  · rw [if_pos c2, if_pos c2, qx_16, rowX_enB, sr_sr, sr_at]
    rfl
  · rw [if_neg c2, if_neg c2]
    by_cases c3 : s = 3
    · rw [if_pos c3, if_pos c3, qx_17, rowX_enB, sr_sr, sr_at]
      rfl
    · rw [if_neg c3, if_neg c3, rowX_enB]
theorem enC_4 (X : LX) (r : Nat) (s : Int32) : enC X r s 4 = enB X r s 4 := by
  unfold enC
  split
  · rfl
  · split <;> rfl
theorem enC_3 (X : LX) (r : Nat) (s : Int32) : enC X r s 3 = X 3 := by
  unfold enC enB
  split
  · rw [ux_23]; split <;> rfl
  · split
    · rw [ux_23]; split <;> rfl
    · split <;> rfl
theorem enC_0 (X : LX) (r : Nat) (s : Int32) : enC X r s 0 = X 0 := by
  unfold enC enB
  split
  · rw [ux_20]; split <;> rfl
  · split
    · rw [ux_20]; split <;> rfl
    · split <;> rfl
theorem enC_1 (X : LX) (r : Nat) (s : Int32) : enC X r s 1 = upd (X 1) (9 * r + 2) s := by
  unfold enC enB
  split
  · rw [ux_21]; split <;> rfl
  · split
    · rw [ux_21]; split <;> rfl
    · split <;> rfl
theorem l_enter (hc : CK G c) {r : Nat} (hr : r < 6) {s : Int32} (hs : st6 s) : ∃ X', f_L_enter (hl G c X) (nI r) s c (c + 1) (c + 2) (c + 3) = some (hl G c X') ∧ EN X X' r s := by
  refine ⟨_, l_enter_eq hc hr s, ?_, ?_, ?_, ?_, ?_⟩
  · have e : ∀ Y : LX, enY Y r s 0 = Y 0 := by
      intro Y
      unfold enY
      split <;> rfl
    rw [e]
    show enC X r s 0 = X 0
    exact enC_0 X r s
  · rw [rowX_enY, rowX_sh, rowX_enC]
  · intro w n hw
    have e : ∀ Y : LX, enY Y r s 1 = Y 1 := by
      intro Y
      unfold enY
      split <;> rfl
    intro q hq
    rw [e]
    show enC X r s 1 (9 * q + 1) = _
    rw [enC_1, upd_n (by omega)]
    exact hw q hq
  · intro i hi
    have e : ∀ Y : LX, enY Y r s 3 = upd (upd (upd (upd (Y 3) 0 (Y 4 2)) 1 (nI r)) 2 s) 3 (Y 1 (9 * r + 8)) := by
      intro Y
      unfold enY
      split <;> rfl
    rw [e]
    have e3 : shY (enC X r s) 60 3 = fun i => if 4 ≤ i ∧ i < 60 + 4 then enC X r s 3 (i - 4) else enC X r s 3 i := rfl
    have e4 : shY (enC X r s) 60 4 2 = X 4 2 := by
      show enC X r s 4 2 = X 4 2
      rw [enC_4]
      unfold enB
      split <;> rfl
    have e1 : shY (enC X r s) 60 1 (9 * r + 8) = rowX X r 15 := by
      show enC X r s 1 (9 * r + 8) = _
      rw [enC_1, upd_n (by omega)]
      rfl
    rw [e3, e4, e1, enC_3]
    unfold logIn upd
    by_cases i0 : i = 0
    · subst i0; rfl
    by_cases i1 : i = 1
    · subst i1; rfl
    by_cases i2 : i = 2
    · subst i2; rfl
    by_cases i3 : i = 3
    · subst i3; rfl
    rw [if_neg i3, if_neg i2, if_neg i1, if_neg i0, if_neg i0, if_neg i1, if_neg i2, if_neg i3, if_pos hi]
    exact if_pos (by omega)
  · have e : ∀ Y : LX, enY Y r s 4 = (if 16 ≤ Y 4 3 then Y 4 else upd (Y 4) 3 (Y 4 3 + 1)) := by
      intro Y
      unfold enY
      split <;> rfl
    have e4 : shY (enC X r s) 60 4 = upd (fun i => if ¬ s ≤ 3 ∧ i = 5 then X 4 5 ||| ((1 : Int32) <<< (nI r &&& 31)) else X 4 i) 4 (X 4 4 + 1) := by
      show enC X r s 4 = _
      rw [enC_4]
      unfold enB
      by_cases h3 : s ≤ 3
      · rw [if_pos h3]
        funext i
        simp [enA, ux, upd, h3]
      · rw [if_neg h3]
        funext i
        simp only [enA, ux, upd, h3, if_true, not_false_eq_true, true_and]
        by_cases i5 : i = 5
        · subst i5; rfl
        · rw [if_neg i5]
          by_cases i4 : i = 4
          · rw [if_pos i4, if_pos i4]
          · rw [if_neg i4, if_neg i4, if_neg i5]
            rfl
    have e43 : shY (enC X r s) 60 4 3 = X 4 3 := by
      rw [e4]
      simp [upd]
    have key : ∀ i, i ≠ 3 → enY (shY (enC X r s) 60) r s 4 i = shY (enC X r s) 60 4 i := by
      intro i hi
      rw [e]
      split
      · rfl
      · exact upd_n hi
    have key3 : enY (shY (enC X r s) 60) r s 4 3 = (if 16 ≤ X 4 3 then X 4 3 else X 4 3 + 1) := by
      rw [e, e43]
      split
      · exact e43
      · rw [upd_s]
    refine ⟨?_, ?_, ?_, key3, ?_, ?_⟩
    · rw [key 0 (by decide), e4]; simp [upd]
    · rw [key 1 (by decide), e4]; simp [upd]
    · rw [key 2 (by decide), e4]; simp [upd]
    · rw [key 4 (by decide), e4, upd_s]
    · rw [key 5 (by decide), e4]
      show (if ¬ s ≤ 3 ∧ 5 = 5 then X 4 5 ||| ((1 : Int32) <<< (nI r &&& 31)) else X 4 5) = X 4 5 ||| (if s < 4 then 0 else (1 : Int32) <<< (nI r &&& 31))
      rcases hs with rfl | rfl | rfl | rfl | rfl | rfl
      · rw [if_neg (by decide), if_pos (by decide), I32_or0]
      · rw [if_neg (by decide), if_pos (by decide), I32_or0]
      · rw [if_neg (by decide), if_pos (by decide), I32_or0]
      · rw [if_neg (by decide), if_pos (by decide), I32_or0]
      · rw [if_pos (by decide), if_neg (by decide)]
      · rw [if_pos (by decide), if_neg (by decide)]
