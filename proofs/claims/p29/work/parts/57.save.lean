/-! a plant is copied; what is saved -/
variable (T : TS)
def cpP (P Q : PV) : PV := (fun k => if k < 5 then P.1 k else Q.1 k, fun k => if k = 4 then va_cpy (P.2 4) (Q.2 4) 0 0 56 else if k = 13 then va_cpy (P.2 13) (Q.2 13) 0 0 32 else if k = 14 then va_cpy (P.2 14) (Q.2 14) 0 0 64 else if 4 < k ∧ k < 13 then va_cpy (P.2 k) (Q.2 k) 0 0 8 else Q.2 k)
theorem uP_at (j : Nat) (P : PV) : (uP T j P).1.2.2 j = P := if_pos rfl
theorem uP_ne {i j : Nat} (h : i ≠ j) (P : PV) : (uP T j P).1.2.2 i = T.1.2.2 i := if_neg h
theorem uP_uP (j : Nat) (P Q : PV) : uP (uP T j P) j Q = uP T j Q := by
  unfold uP
  refine Prod.ext (Prod.ext rfl (Prod.ext rfl (funext fun i => ?_))) rfl
  by_cases h : i = j <;> simp [h]
theorem t_c4 {i j : Nat} (hi : i < 8) (hj : j < 8) : cpA (HT T) (bs i + 1) (0 : Int32) (bs j + 1) (0 : Int32) (56 : Int32) = some (HT (uP T j (wR (T.1.2.2 j) 4 (va_cpy ((T.1.2.2 i).2 4) ((T.1.2.2 j).2 4) 0 0 56)))) := by
  have c1 : aC (HT T) 0 (bs i + 1) = some (56, .inl ((T.1.2.2 i).2 4)) := by rw [HT_p T hi]; exact p_C4 (bs_le hi)
  have c2 : aC (HT T) 0 (bs j + 1) = some (56, .inl ((T.1.2.2 j).2 4)) := by rw [HT_p T hj]; exact p_C4 (bs_le hj)
  simp only [cpA, c1, c2]
  rw [show (0 : Int32).toNatClampNeg = 0 from rfl, show (56 : Int32).toNatClampNeg = 56 from rfl, if_neg (by decide)]
  refine congrArg some ?_
  rw [← hp_T T hj, HT_p T hj]
  exact hp_set (P := T.1.2.2 j) (Q := wR (T.1.2.2 j) 4 _) 1 (by omega) (fun i hi hn => by
    match i, hi with
    | 0, _ => rfl
    | 1, _ => exact absurd rfl hn
    | 2, _ => rfl
    | 3, _ => rfl
    | 4, _ => rfl
    | 5, _ => rfl
    | 6, _ => rfl
    | 7, _ => rfl
    | 8, _ => rfl
    | 9, _ => rfl
    | 10, _ => rfl
    | 11, _ => rfl
    | 12, _ => rfl
    | 13, _ => rfl
    | 14, _ => rfl
    | 15, _ => rfl
    | q + 16, h => exact absurd h (by omega))
theorem t_c5 {i j : Nat} (hi : i < 8) (hj : j < 8) : cpA (HT T) (bs i + 2) (0 : Int32) (bs j + 2) (0 : Int32) (8 : Int32) = some (HT (uP T j (wR (T.1.2.2 j) 5 (va_cpy ((T.1.2.2 i).2 5) ((T.1.2.2 j).2 5) 0 0 8)))) := by
  have c1 : aC (HT T) 0 (bs i + 2) = some (8, .inl ((T.1.2.2 i).2 5)) := by rw [HT_p T hi]; exact p_C5 (bs_le hi)
  have c2 : aC (HT T) 0 (bs j + 2) = some (8, .inl ((T.1.2.2 j).2 5)) := by rw [HT_p T hj]; exact p_C5 (bs_le hj)
  simp only [cpA, c1, c2]
  rw [show (0 : Int32).toNatClampNeg = 0 from rfl, show (8 : Int32).toNatClampNeg = 8 from rfl, if_neg (by decide)]
  refine congrArg some ?_
  rw [← hp_T T hj, HT_p T hj]
  exact hp_set (P := T.1.2.2 j) (Q := wR (T.1.2.2 j) 5 _) 2 (by omega) (fun i hi hn => by
    match i, hi with
    | 0, _ => rfl
    | 1, _ => rfl
    | 2, _ => exact absurd rfl hn
    | 3, _ => rfl
    | 4, _ => rfl
    | 5, _ => rfl
    | 6, _ => rfl
    | 7, _ => rfl
    | 8, _ => rfl
    | 9, _ => rfl
    | 10, _ => rfl
    | 11, _ => rfl
    | 12, _ => rfl
    | 13, _ => rfl
    | 14, _ => rfl
    | 15, _ => rfl
    | q + 16, h => exact absurd h (by omega))
theorem t_c6 {i j : Nat} (hi : i < 8) (hj : j < 8) : cpA (HT T) (bs i + 3) (0 : Int32) (bs j + 3) (0 : Int32) (8 : Int32) = some (HT (uP T j (wR (T.1.2.2 j) 6 (va_cpy ((T.1.2.2 i).2 6) ((T.1.2.2 j).2 6) 0 0 8)))) := by
  have c1 : aC (HT T) 0 (bs i + 3) = some (8, .inl ((T.1.2.2 i).2 6)) := by rw [HT_p T hi]; exact p_C6 (bs_le hi)
  have c2 : aC (HT T) 0 (bs j + 3) = some (8, .inl ((T.1.2.2 j).2 6)) := by rw [HT_p T hj]; exact p_C6 (bs_le hj)
  simp only [cpA, c1, c2]
  rw [show (0 : Int32).toNatClampNeg = 0 from rfl, show (8 : Int32).toNatClampNeg = 8 from rfl, if_neg (by decide)]
  refine congrArg some ?_
  rw [← hp_T T hj, HT_p T hj]
  exact hp_set (P := T.1.2.2 j) (Q := wR (T.1.2.2 j) 6 _) 3 (by omega) (fun i hi hn => by
    match i, hi with
    | 0, _ => rfl
    | 1, _ => rfl
    | 2, _ => rfl
    | 3, _ => exact absurd rfl hn
    | 4, _ => rfl
    | 5, _ => rfl
    | 6, _ => rfl
    | 7, _ => rfl
    | 8, _ => rfl
    | 9, _ => rfl
    | 10, _ => rfl
    | 11, _ => rfl
    | 12, _ => rfl
    | 13, _ => rfl
    | 14, _ => rfl
    | 15, _ => rfl
    | q + 16, h => exact absurd h (by omega))
theorem t_c7 {i j : Nat} (hi : i < 8) (hj : j < 8) : cpA (HT T) (bs i + 4) (0 : Int32) (bs j + 4) (0 : Int32) (8 : Int32) = some (HT (uP T j (wR (T.1.2.2 j) 7 (va_cpy ((T.1.2.2 i).2 7) ((T.1.2.2 j).2 7) 0 0 8)))) := by
  have c1 : aC (HT T) 0 (bs i + 4) = some (8, .inl ((T.1.2.2 i).2 7)) := by rw [HT_p T hi]; exact p_C7 (bs_le hi)
  have c2 : aC (HT T) 0 (bs j + 4) = some (8, .inl ((T.1.2.2 j).2 7)) := by rw [HT_p T hj]; exact p_C7 (bs_le hj)
  simp only [cpA, c1, c2]
  rw [show (0 : Int32).toNatClampNeg = 0 from rfl, show (8 : Int32).toNatClampNeg = 8 from rfl, if_neg (by decide)]
  refine congrArg some ?_
  rw [← hp_T T hj, HT_p T hj]
  exact hp_set (P := T.1.2.2 j) (Q := wR (T.1.2.2 j) 7 _) 4 (by omega) (fun i hi hn => by
    match i, hi with
    | 0, _ => rfl
    | 1, _ => rfl
    | 2, _ => rfl
    | 3, _ => rfl
    | 4, _ => exact absurd rfl hn
    | 5, _ => rfl
    | 6, _ => rfl
    | 7, _ => rfl
    | 8, _ => rfl
    | 9, _ => rfl
    | 10, _ => rfl
    | 11, _ => rfl
    | 12, _ => rfl
    | 13, _ => rfl
    | 14, _ => rfl
    | 15, _ => rfl
    | q + 16, h => exact absurd h (by omega))
theorem t_c8 {i j : Nat} (hi : i < 8) (hj : j < 8) : cpA (HT T) (bs i + 5) (0 : Int32) (bs j + 5) (0 : Int32) (8 : Int32) = some (HT (uP T j (wR (T.1.2.2 j) 8 (va_cpy ((T.1.2.2 i).2 8) ((T.1.2.2 j).2 8) 0 0 8)))) := by
  have c1 : aC (HT T) 0 (bs i + 5) = some (8, .inl ((T.1.2.2 i).2 8)) := by rw [HT_p T hi]; exact p_C8 (bs_le hi)
  have c2 : aC (HT T) 0 (bs j + 5) = some (8, .inl ((T.1.2.2 j).2 8)) := by rw [HT_p T hj]; exact p_C8 (bs_le hj)
  simp only [cpA, c1, c2]
  rw [show (0 : Int32).toNatClampNeg = 0 from rfl, show (8 : Int32).toNatClampNeg = 8 from rfl, if_neg (by decide)]
  refine congrArg some ?_
  rw [← hp_T T hj, HT_p T hj]
  exact hp_set (P := T.1.2.2 j) (Q := wR (T.1.2.2 j) 8 _) 5 (by omega) (fun i hi hn => by
    match i, hi with
    | 0, _ => rfl
    | 1, _ => rfl
    | 2, _ => rfl
    | 3, _ => rfl
    | 4, _ => rfl
    | 5, _ => exact absurd rfl hn
    | 6, _ => rfl
    | 7, _ => rfl
    | 8, _ => rfl
    | 9, _ => rfl
    | 10, _ => rfl
    | 11, _ => rfl
    | 12, _ => rfl
    | 13, _ => rfl
    | 14, _ => rfl
    | 15, _ => rfl
    | q + 16, h => exact absurd h (by omega))
theorem t_c9 {i j : Nat} (hi : i < 8) (hj : j < 8) : cpA (HT T) (bs i + 6) (0 : Int32) (bs j + 6) (0 : Int32) (8 : Int32) = some (HT (uP T j (wR (T.1.2.2 j) 9 (va_cpy ((T.1.2.2 i).2 9) ((T.1.2.2 j).2 9) 0 0 8)))) := by
  have c1 : aC (HT T) 0 (bs i + 6) = some (8, .inl ((T.1.2.2 i).2 9)) := by rw [HT_p T hi]; exact p_C9 (bs_le hi)
  have c2 : aC (HT T) 0 (bs j + 6) = some (8, .inl ((T.1.2.2 j).2 9)) := by rw [HT_p T hj]; exact p_C9 (bs_le hj)
  simp only [cpA, c1, c2]
  rw [show (0 : Int32).toNatClampNeg = 0 from rfl, show (8 : Int32).toNatClampNeg = 8 from rfl, if_neg (by decide)]
  refine congrArg some ?_
  rw [← hp_T T hj, HT_p T hj]
  exact hp_set (P := T.1.2.2 j) (Q := wR (T.1.2.2 j) 9 _) 6 (by omega) (fun i hi hn => by
    match i, hi with
    | 0, _ => rfl
    | 1, _ => rfl
    | 2, _ => rfl
    | 3, _ => rfl
    | 4, _ => rfl
    | 5, _ => rfl
    | 6, _ => exact absurd rfl hn
    | 7, _ => rfl
    | 8, _ => rfl
    | 9, _ => rfl
    | 10, _ => rfl
    | 11, _ => rfl
    | 12, _ => rfl
    | 13, _ => rfl
    | 14, _ => rfl
    | 15, _ => rfl
    | q + 16, h => exact absurd h (by omega))
theorem t_c10 {i j : Nat} (hi : i < 8) (hj : j < 8) : cpA (HT T) (bs i + 7) (0 : Int32) (bs j + 7) (0 : Int32) (8 : Int32) = some (HT (uP T j (wR (T.1.2.2 j) 10 (va_cpy ((T.1.2.2 i).2 10) ((T.1.2.2 j).2 10) 0 0 8)))) := by
  have c1 : aC (HT T) 0 (bs i + 7) = some (8, .inl ((T.1.2.2 i).2 10)) := by rw [HT_p T hi]; exact p_C10 (bs_le hi)
  have c2 : aC (HT T) 0 (bs j + 7) = some (8, .inl ((T.1.2.2 j).2 10)) := by rw [HT_p T hj]; exact p_C10 (bs_le hj)
  simp only [cpA, c1, c2]
  rw [show (0 : Int32).toNatClampNeg = 0 from rfl, show (8 : Int32).toNatClampNeg = 8 from rfl, if_neg (by decide)]
  refine congrArg some ?_
  rw [← hp_T T hj, HT_p T hj]
  exact hp_set (P := T.1.2.2 j) (Q := wR (T.1.2.2 j) 10 _) 7 (by omega) (fun i hi hn => by
    match i, hi with
    | 0, _ => rfl
    | 1, _ => rfl
    | 2, _ => rfl
    | 3, _ => rfl
    | 4, _ => rfl
    | 5, _ => rfl
    | 6, _ => rfl
    | 7, _ => exact absurd rfl hn
    | 8, _ => rfl
    | 9, _ => rfl
    | 10, _ => rfl
    | 11, _ => rfl
    | 12, _ => rfl
    | 13, _ => rfl
    | 14, _ => rfl
    | 15, _ => rfl
    | q + 16, h => exact absurd h (by omega))
theorem t_c11 {i j : Nat} (hi : i < 8) (hj : j < 8) : cpA (HT T) (bs i + 8) (0 : Int32) (bs j + 8) (0 : Int32) (8 : Int32) = some (HT (uP T j (wR (T.1.2.2 j) 11 (va_cpy ((T.1.2.2 i).2 11) ((T.1.2.2 j).2 11) 0 0 8)))) := by
  have c1 : aC (HT T) 0 (bs i + 8) = some (8, .inl ((T.1.2.2 i).2 11)) := by rw [HT_p T hi]; exact p_C11 (bs_le hi)
  have c2 : aC (HT T) 0 (bs j + 8) = some (8, .inl ((T.1.2.2 j).2 11)) := by rw [HT_p T hj]; exact p_C11 (bs_le hj)
  simp only [cpA, c1, c2]
  rw [show (0 : Int32).toNatClampNeg = 0 from rfl, show (8 : Int32).toNatClampNeg = 8 from rfl, if_neg (by decide)]
  refine congrArg some ?_
  rw [← hp_T T hj, HT_p T hj]
  exact hp_set (P := T.1.2.2 j) (Q := wR (T.1.2.2 j) 11 _) 8 (by omega) (fun i hi hn => by
    match i, hi with
    | 0, _ => rfl
    | 1, _ => rfl
    | 2, _ => rfl
    | 3, _ => rfl
    | 4, _ => rfl
    | 5, _ => rfl
    | 6, _ => rfl
    | 7, _ => rfl
    | 8, _ => exact absurd rfl hn
    | 9, _ => rfl
    | 10, _ => rfl
    | 11, _ => rfl
    | 12, _ => rfl
    | 13, _ => rfl
    | 14, _ => rfl
    | 15, _ => rfl
    | q + 16, h => exact absurd h (by omega))
theorem t_c12 {i j : Nat} (hi : i < 8) (hj : j < 8) : cpA (HT T) (bs i + 9) (0 : Int32) (bs j + 9) (0 : Int32) (8 : Int32) = some (HT (uP T j (wR (T.1.2.2 j) 12 (va_cpy ((T.1.2.2 i).2 12) ((T.1.2.2 j).2 12) 0 0 8)))) := by
  have c1 : aC (HT T) 0 (bs i + 9) = some (8, .inl ((T.1.2.2 i).2 12)) := by rw [HT_p T hi]; exact p_C12 (bs_le hi)
  have c2 : aC (HT T) 0 (bs j + 9) = some (8, .inl ((T.1.2.2 j).2 12)) := by rw [HT_p T hj]; exact p_C12 (bs_le hj)
  simp only [cpA, c1, c2]
  rw [show (0 : Int32).toNatClampNeg = 0 from rfl, show (8 : Int32).toNatClampNeg = 8 from rfl, if_neg (by decide)]
  refine congrArg some ?_
  rw [← hp_T T hj, HT_p T hj]
  exact hp_set (P := T.1.2.2 j) (Q := wR (T.1.2.2 j) 12 _) 9 (by omega) (fun i hi hn => by
    match i, hi with
    | 0, _ => rfl
    | 1, _ => rfl
    | 2, _ => rfl
    | 3, _ => rfl
    | 4, _ => rfl
    | 5, _ => rfl
    | 6, _ => rfl
    | 7, _ => rfl
    | 8, _ => rfl
    | 9, _ => exact absurd rfl hn
    | 10, _ => rfl
    | 11, _ => rfl
    | 12, _ => rfl
    | 13, _ => rfl
    | 14, _ => rfl
    | 15, _ => rfl
    | q + 16, h => exact absurd h (by omega))
theorem t_c13 {i j : Nat} (hi : i < 8) (hj : j < 8) : cpA (HT T) (bs i + 10) (0 : Int32) (bs j + 10) (0 : Int32) (32 : Int32) = some (HT (uP T j (wR (T.1.2.2 j) 13 (va_cpy ((T.1.2.2 i).2 13) ((T.1.2.2 j).2 13) 0 0 32)))) := by
  have c1 : aC (HT T) 0 (bs i + 10) = some (32, .inl ((T.1.2.2 i).2 13)) := by rw [HT_p T hi]; exact p_C13 (bs_le hi)
  have c2 : aC (HT T) 0 (bs j + 10) = some (32, .inl ((T.1.2.2 j).2 13)) := by rw [HT_p T hj]; exact p_C13 (bs_le hj)
  simp only [cpA, c1, c2]
  rw [show (0 : Int32).toNatClampNeg = 0 from rfl, show (32 : Int32).toNatClampNeg = 32 from rfl, if_neg (by decide)]
  refine congrArg some ?_
  rw [← hp_T T hj, HT_p T hj]
  exact hp_set (P := T.1.2.2 j) (Q := wR (T.1.2.2 j) 13 _) 10 (by omega) (fun i hi hn => by
    match i, hi with
    | 0, _ => rfl
    | 1, _ => rfl
    | 2, _ => rfl
    | 3, _ => rfl
    | 4, _ => rfl
    | 5, _ => rfl
    | 6, _ => rfl
    | 7, _ => rfl
    | 8, _ => rfl
    | 9, _ => rfl
    | 10, _ => exact absurd rfl hn
    | 11, _ => rfl
    | 12, _ => rfl
    | 13, _ => rfl
    | 14, _ => rfl
    | 15, _ => rfl
    | q + 16, h => exact absurd h (by omega))
theorem t_c14 {i j : Nat} (hi : i < 8) (hj : j < 8) : cpA (HT T) (bs i + 12) (0 : Int32) (bs j + 12) (0 : Int32) (64 : Int32) = some (HT (uP T j (wR (T.1.2.2 j) 14 (va_cpy ((T.1.2.2 i).2 14) ((T.1.2.2 j).2 14) 0 0 64)))) := by
  have c1 : aC (HT T) 0 (bs i + 12) = some (64, .inl ((T.1.2.2 i).2 14)) := by rw [HT_p T hi]; exact p_C14 (bs_le hi)
  have c2 : aC (HT T) 0 (bs j + 12) = some (64, .inl ((T.1.2.2 j).2 14)) := by rw [HT_p T hj]; exact p_C14 (bs_le hj)
  simp only [cpA, c1, c2]
  rw [show (0 : Int32).toNatClampNeg = 0 from rfl, show (64 : Int32).toNatClampNeg = 64 from rfl, if_neg (by decide)]
  refine congrArg some ?_
  rw [← hp_T T hj, HT_p T hj]
  exact hp_set (P := T.1.2.2 j) (Q := wR (T.1.2.2 j) 14 _) 12 (by omega) (fun i hi hn => by
    match i, hi with
    | 0, _ => rfl
    | 1, _ => rfl
    | 2, _ => rfl
    | 3, _ => rfl
    | 4, _ => rfl
    | 5, _ => rfl
    | 6, _ => rfl
    | 7, _ => rfl
    | 8, _ => rfl
    | 9, _ => rfl
    | 10, _ => rfl
    | 11, _ => rfl
    | 12, _ => exact absurd rfl hn
    | 13, _ => rfl
    | 14, _ => rfl
    | 15, _ => rfl
    | q + 16, h => exact absurd h (by omega))
theorem t_pI0 {j : Nat} (hj : j < 8) : hI (HT T) 1 (bs j) 0 = some ((T.1.2.2 j).1 0) := by rw [HT_p T hj]; exact p_I0 (bs_le hj)
theorem t_pP0 {j : Nat} (hj : j < 8) (x : Int32) : hP (HT T) 1 (bs j) 0 (.int x) = some (HT (uP T j (wS (T.1.2.2 j) 0 x))) := by rw [← hp_T T hj, HT_p T hj]; exact p_P0 (bs_le hj)
theorem t_pI1 {j : Nat} (hj : j < 8) : hI (HT T) 1 (bs j) 1 = some ((T.1.2.2 j).1 1) := by rw [HT_p T hj]; exact p_I1 (bs_le hj)
theorem t_pP1 {j : Nat} (hj : j < 8) (x : Int32) : hP (HT T) 1 (bs j) 1 (.int x) = some (HT (uP T j (wS (T.1.2.2 j) 1 x))) := by rw [← hp_T T hj, HT_p T hj]; exact p_P1 (bs_le hj)
theorem t_pI2 {j : Nat} (hj : j < 8) : hI (HT T) 1 (bs j) 2 = some ((T.1.2.2 j).1 2) := by rw [HT_p T hj]; exact p_I2 (bs_le hj)
theorem t_pP2 {j : Nat} (hj : j < 8) (x : Int32) : hP (HT T) 1 (bs j) 2 (.int x) = some (HT (uP T j (wS (T.1.2.2 j) 2 x))) := by rw [← hp_T T hj, HT_p T hj]; exact p_P2 (bs_le hj)
theorem t_pI3 {j : Nat} (hj : j < 8) : hI (HT T) 1 (bs j) 3 = some ((T.1.2.2 j).1 3) := by rw [HT_p T hj]; exact p_I3 (bs_le hj)
theorem t_pP3 {j : Nat} (hj : j < 8) (x : Int32) : hP (HT T) 1 (bs j) 3 (.int x) = some (HT (uP T j (wS (T.1.2.2 j) 3 x))) := by rw [← hp_T T hj, HT_p T hj]; exact p_P3 (bs_le hj)
theorem t_lI {j : Nat} (hj : j < 8) : hI (HT T) 0 (bs j + 11) 1 = some ((T.1.2.2 j).1 4) := by rw [HT_p T hj]; exact p_Il (bs_le hj)
theorem t_lP {j : Nat} (hj : j < 8) (x : Int32) : hP (HT T) 0 (bs j + 11) 1 (.int x) = some (HT (uP T j (wS (T.1.2.2 j) 4 x))) := by rw [← hp_T T hj, HT_p T hj]; exact p_Pl (bs_le hj)
theorem t_lR {j : Nat} (hj : j < 8) : hR (HT T) 0 (bs j + 11) 0 = some (bs j + 12) := by rw [HT_p T hj]; exact p_Rl (bs_le hj)
theorem t_lv {j : Nat} (hj : j < 8) {α : Type} {o : Option α} : vcall (HT T) 0 (bs j + 11) o = o := by rw [HT_p T hj]; exact p_v0 (bs_le hj)
theorem t_pR4 {j : Nat} (hj : j < 8) : hR (HT T) 1 (bs j) 4 = some (bs j + 1) := by rw [HT_p T hj]; exact p_R4 (bs_le hj)
theorem t_pR5 {j : Nat} (hj : j < 8) : hR (HT T) 1 (bs j) 5 = some (bs j + 2) := by rw [HT_p T hj]; exact p_R5 (bs_le hj)
theorem t_pR6 {j : Nat} (hj : j < 8) : hR (HT T) 1 (bs j) 6 = some (bs j + 3) := by rw [HT_p T hj]; exact p_R6 (bs_le hj)
theorem t_pR7 {j : Nat} (hj : j < 8) : hR (HT T) 1 (bs j) 7 = some (bs j + 4) := by rw [HT_p T hj]; exact p_R7 (bs_le hj)
theorem t_pR8 {j : Nat} (hj : j < 8) : hR (HT T) 1 (bs j) 8 = some (bs j + 5) := by rw [HT_p T hj]; exact p_R8 (bs_le hj)
theorem t_pR9 {j : Nat} (hj : j < 8) : hR (HT T) 1 (bs j) 9 = some (bs j + 6) := by rw [HT_p T hj]; exact p_R9 (bs_le hj)
theorem t_pR10 {j : Nat} (hj : j < 8) : hR (HT T) 1 (bs j) 10 = some (bs j + 7) := by rw [HT_p T hj]; exact p_R10 (bs_le hj)
theorem t_pR11 {j : Nat} (hj : j < 8) : hR (HT T) 1 (bs j) 11 = some (bs j + 8) := by rw [HT_p T hj]; exact p_R11 (bs_le hj)
theorem t_pR12 {j : Nat} (hj : j < 8) : hR (HT T) 1 (bs j) 12 = some (bs j + 9) := by rw [HT_p T hj]; exact p_R12 (bs_le hj)
theorem t_pR13 {j : Nat} (hj : j < 8) : hR (HT T) 1 (bs j) 13 = some (bs j + 10) := by rw [HT_p T hj]; exact p_R13 (bs_le hj)
theorem t_pR14 {j : Nat} (hj : j < 8) : hR (HT T) 1 (bs j) 14 = some (bs j + 11) := by rw [HT_p T hj]; exact p_R14 (bs_le hj)
theorem t_pR15 {j : Nat} (hj : j < 8) : hR (HT T) 1 (bs j) 15 = some (bs j + 13) := by rw [HT_p T hj]; exact p_R15 (bs_le hj)
theorem t_pR16 {j : Nat} (hj : j < 8) : hR (HT T) 1 (bs j) 16 = some (bs j + 14) := by rw [HT_p T hj]; exact p_R16 (bs_le hj)
theorem t_pR17 {j : Nat} (hj : j < 8) : hR (HT T) 1 (bs j) 17 = some (bs j + 15) := by rw [HT_p T hj]; exact p_R17 (bs_le hj)
theorem t_copy {i j : Nat} (hi : i < 8) (hj : j < 8) (hij : i ≠ j) : f_X1_copyFrom (HT T) (bs j) (bs i) = some (HT (uP T j (cpP (T.1.2.2 i) (T.1.2.2 j)))) := by
  unfold f_X1_copyFrom
  simp only [Option.bind_some, t_pI0 _ hi, t_pI1 _ hi, t_pI2 _ hi, t_pI3 _ hi, t_pP0 _ hj, t_pP1 _ hj, t_pP2 _ hj, t_pP3 _ hj, uP_at, uP_ne _ hij, uP_uP]
  simp only [Option.bind_some, t_pR4 _ hi, t_pR4 _ hj, t_c4 _ hi hj, t_pR5 _ hi, t_pR5 _ hj, t_c5 _ hi hj, t_pR6 _ hi, t_pR6 _ hj, t_c6 _ hi hj, t_pR7 _ hi, t_pR7 _ hj, t_c7 _ hi hj, t_pR8 _ hi, t_pR8 _ hj, t_c8 _ hi hj, uP_at, uP_ne _ hij, uP_uP]
  simp only [Option.bind_some, t_pR9 _ hi, t_pR9 _ hj, t_c9 _ hi hj, t_pR10 _ hi, t_pR10 _ hj, t_c10 _ hi hj, t_pR11 _ hi, t_pR11 _ hj, t_c11 _ hi hj, t_pR12 _ hi, t_pR12 _ hj, t_c12 _ hi hj, t_pR13 _ hi, t_pR13 _ hj, t_c13 _ hi hj, t_pR14 _ hi, t_pR14 _ hj, uP_at, uP_ne _ hij, uP_uP]
  simp only [Option.bind_some, t_lv _ hj, f_X0_copyFrom, t_lI _ hi, t_lP _ hj, t_lR _ hi, t_lR _ hj, t_c14 _ hi hj, uP_at, uP_ne _ hij, uP_uP]
  refine congrArg some (congrArg HT (congrArg (uP T j) (Prod.ext (funext fun k => ?_) (funext fun k => ?_))))
  · match k with
    | 0 => rfl
    | 1 => rfl
    | 2 => rfl
    | 3 => rfl
    | 4 => rfl
    | k + 5 =>
      simp [cpP, wS, wR]
      intro h
      omega
  · match k with
    | 0 => rfl
    | 1 => rfl
    | 2 => rfl
    | 3 => rfl
    | 4 => rfl
    | 5 => rfl
    | 6 => rfl
    | 7 => rfl
    | 8 => rfl
    | 9 => rfl
    | 10 => rfl
    | 11 => rfl
    | 12 => rfl
    | 13 => rfl
    | 14 => rfl
    | k + 15 =>
      simp [cpP, wS, wR]
      intro h
      omega

