/-! the whole small heap: RailSequence, eight plants, buffer, reader; the rest (from 133 on) as it is -/
def bs (j : Nat) : Nat := if j < 2 then 1 + 16 * j else 37 + 16 * (j - 2)
abbrev TC : Type := (Nat → Int32) × (Nat → Nat) × (Nat → PV)
abbrev TS : Type := TC × ((Nat → Int32) × (Nat → Int32)) × GB
def gT (T : TS) : GB := (T.2.2.1, fun i =>
  if i = 0 then .inr (3, [.ref 1, .ref 17, .ref 33, .int (T.1.1 3), .ref 34, .int (T.1.1 5), .ref 35])
  else if i < 33 then pc_ (bs ((i - 1) / 16)) (T.1.2.2 ((i - 1) / 16)) ((i - 1) % 16)
  else if i = 33 then .inl (2, 6, .inr (.inr (.inr (.inr (fun k => if k < 6 then some (bs (T.1.2.1 k)) else none)))))
  else if i = 34 then .inl (0, 60, .inl T.2.1.1)
  else if i = 35 then .inr (2, [.ref 36, .int (T.1.1 11), .int (T.1.1 12), .int (T.1.1 13)])
  else if i = 36 then .inl (0, 3, .inl T.2.1.2)
  else if i < 133 then pc_ (bs (2 + (i - 37) / 16)) (T.1.2.2 (2 + (i - 37) / 16)) ((i - 37) % 16)
  else T.2.2.2 i)
def HT (T : TS) : MH := hh (gT T)
def uP (T : TS) (j : Nat) (P : PV) : TS := ((T.1.1, T.1.2.1, fun i => if i = j then P else T.1.2.2 i), T.2)
def uS (T : TS) (k : Nat) (x : Int32) : TS := ((fun i => if i = k then x else T.1.1 i, T.1.2), T.2)
def uG (T : TS) (s : Nat → Nat) : TS := ((T.1.1, s, T.1.2.2), T.2)
theorem bs_le {j : Nat} (h : j < 8) : bs j ≤ 122 := by
  unfold bs
  split <;> omega
theorem gT_in (T : TS) {j k : Nat} (hj : j < 8) (hk : k < 16) : (gT T).2 (bs j + k) = pc_ (bs j) (T.1.2.2 j) k := by
  unfold gT
  dsimp only
  by_cases h : j < 2
  · have e : bs j = 1 + 16 * j := if_pos h
    rw [if_neg (by omega), if_pos (by omega), show (bs j + k - 1) / 16 = j by omega, show (bs j + k - 1) % 16 = k by omega]
  · have e : bs j = 37 + 16 * (j - 2) := if_neg h
    rw [if_neg (by omega), if_neg (by omega), if_neg (by omega), if_neg (by omega), if_neg (by omega), if_neg (by omega), if_pos (by omega), show 2 + (bs j + k - 37) / 16 = j by omega, show (bs j + k - 37) % 16 = k by omega]
theorem gT_uP (T : TS) {j i : Nat} (hj : j < 8) (Q : PV) (h : i < bs j ∨ bs j + 16 ≤ i) : (gT (uP T j Q)).2 i = (gT T).2 i := by
  have e : bs j = if j < 2 then 1 + 16 * j else 37 + 16 * (j - 2) := rfl
  unfold gT uP
  dsimp only
  by_cases h0 : i = 0
  · rw [if_pos h0, if_pos h0]
  rw [if_neg h0, if_neg h0]
  by_cases h1 : i < 33
  · rw [if_pos h1, if_pos h1]
    have : ¬ (i - 1) / 16 = j := by
      intro hh
      split at e <;> omega
    simp only [if_neg this]
  rw [if_neg h1, if_neg h1]
  by_cases h2 : i = 33
  · rw [if_pos h2, if_pos h2]
  rw [if_neg h2, if_neg h2]
  by_cases h3 : i = 34
  · rw [if_pos h3, if_pos h3]
  rw [if_neg h3, if_neg h3]
  by_cases h4 : i = 35
  · rw [if_pos h4, if_pos h4]
  rw [if_neg h4, if_neg h4]
  by_cases h5 : i = 36
  · rw [if_pos h5, if_pos h5]
  rw [if_neg h5, if_neg h5]
  by_cases h6 : i < 133
  · rw [if_pos h6, if_pos h6]
    have : ¬ 2 + (i - 37) / 16 = j := by
      intro hh
      split at e <;> omega
    simp only [if_neg this]
  rw [if_neg h6, if_neg h6]
theorem pw_T (T : TS) {j : Nat} (hj : j < 8) (Q : PV) : pw (gT T) (bs j) Q = gT (uP T j Q) := by
  refine Prod.ext rfl (funext fun i => ?_)
  by_cases h : bs j ≤ i ∧ i < bs j + 16
  · obtain ⟨k, rfl⟩ : ∃ k, i = bs j + k := ⟨i - bs j, by omega⟩
    rw [pw_at (by omega), gT_in _ hj (by omega)]
    simp [uP]
  · rw [pw_ne (by omega), gT_uP T hj Q (by omega)]
theorem uP_self (T : TS) (j : Nat) : uP T j (T.1.2.2 j) = T := by
  unfold uP
  have : (fun i => if i = j then T.1.2.2 j else T.1.2.2 i) = T.1.2.2 := by
    funext i
    by_cases h : i = j
    · subst h
      simp
    · simp [h]
  rw [this]
theorem HT_p (T : TS) {j : Nat} (hj : j < 8) : HT T = hp (gT T) (bs j) (T.1.2.2 j) := by
  unfold HT hp
  rw [pw_T T hj, uP_self]
theorem hp_T (T : TS) {j : Nat} (hj : j < 8) (Q : PV) : hp (gT T) (bs j) Q = HT (uP T j Q) := by
  unfold HT hp
  rw [pw_T T hj]
theorem HT_get (T : TS) {i : Nat} (hi : i < 138) : (HT T)[i]? = some ((gT T).2 i) := hh_get (show i < 138 + T.2.2.1 by omega)
theorem HT_set (T U : TS) {i : Nat} (c : MC) (h1 : (gT U).2 i = c) (h2 : ∀ j, j < 138 + T.2.2.1 → j ≠ i → (gT U).2 j = (gT T).2 j) (h0 : U.2.2.1 = T.2.2.1 := by rfl) : (HT T).set i c = HT U := by
  unfold HT
  rw [hh_set]
  unfold hh
  rw [show (gT U).1 = (upC (gT T) i c).1 from h0]
  apply List.map_congr_left
  intro j hj
  rw [List.mem_range] at hj
  show (if j = i then c else (gT T).2 j) = _
  by_cases h : j = i
  · subst h
    rw [if_pos rfl, h1]
  · rw [if_neg h, h2 j hj h]
variable (T : TS)
theorem t_O3 : isO (HT T) 3 0 = true := by simp only [isO, HT_get T (show 0 < 138 by decide)]; rfl
theorem t_v3 {α : Type} {o : Option α} : vcall (HT T) 3 0 o = o := by simp [vcall, t_O3]
theorem t_R0 : hR (HT T) 3 0 0 = some 1 := by simp only [hR, hF, HT_get T (show 0 < 138 by decide)]; rfl
theorem t_R1 : hR (HT T) 3 0 1 = some 17 := by simp only [hR, hF, HT_get T (show 0 < 138 by decide)]; rfl
theorem t_R2 : hR (HT T) 3 0 2 = some 33 := by simp only [hR, hF, HT_get T (show 0 < 138 by decide)]; rfl
theorem t_R4 : hR (HT T) 3 0 4 = some 34 := by simp only [hR, hF, HT_get T (show 0 < 138 by decide)]; rfl
theorem t_R6 : hR (HT T) 3 0 6 = some 35 := by simp only [hR, hF, HT_get T (show 0 < 138 by decide)]; rfl
theorem t_I3 : hI (HT T) 3 0 3 = some (T.1.1 3) := by simp only [hI, hF, HT_get T (show 0 < 138 by decide)]; rfl
theorem t_P3 (x : Int32) : hP (HT T) 3 0 3 (.int x) = some (HT (uS T 3 x)) := by
  simp only [hP, HT_get T (show 0 < 138 by decide)]
  show (if 3 = 3 ∧ 3 < 7 then some ((HT T).set 0 _) else none) = _
  rw [if_pos (by decide)]
  refine congrArg some (HT_set _ _ _ rfl fun j hj hn => ?_)
  unfold gT
  dsimp only
  simp only [hn, if_false]
  rfl
theorem t_I5 : hI (HT T) 3 0 5 = some (T.1.1 5) := by simp only [hI, hF, HT_get T (show 0 < 138 by decide)]; rfl
theorem t_P5 (x : Int32) : hP (HT T) 3 0 5 (.int x) = some (HT (uS T 5 x)) := by
  simp only [hP, HT_get T (show 0 < 138 by decide)]
  show (if 3 = 3 ∧ 5 < 7 then some ((HT T).set 0 _) else none) = _
  rw [if_pos (by decide)]
  refine congrArg some (HT_set _ _ _ rfl fun j hj hn => ?_)
  unfold gT
  dsimp only
  simp only [hn, if_false]
  rfl
theorem t_aO {j : Nat} (hj : j < 8) {α : Type} {o : Option α} : vcall (HT T) 1 (bs j) o = o := by
  rw [HT_p T hj]
  exact p_v1 (bs_le hj)
theorem t_s (k : Nat) (hk : k < 6) : aR (HT T) 33 (nI k) = some (bs (T.1.2.1 k)) := by
  simp only [aR, aC, HT_get T (show 33 < 138 by decide)]
  show (if nI k < 0 ∨ 6 ≤ (nI k).toNatClampNeg then none else (if (nI k).toNatClampNeg < 6 then some (bs (T.1.2.1 (nI k).toNatClampNeg)) else none)) = _
  rw [nI_clamp (by omega), if_neg (by simp only [nI_pos (show k < 2 ^ 31 by omega), false_or]; omega), if_pos hk]
theorem t_sR (k j : Nat) (hk : k < 6) (hj : j < 8) : sR (HT T) 33 (nI k) (bs j) = some (HT (uG T (fun i => if i = k then j else T.1.2.1 i))) := by
  have hO : isO (HT T) 1 (bs j) = true := by
    rw [HT_p T hj]
    exact p_O1 (bs_le hj)
  simp only [sR, aC, HT_get T (show 33 < 138 by decide)]
  show (if nI k < 0 ∨ 6 ≤ (nI k).toNatClampNeg ∨ isO (HT T) 1 (bs j) = false then none else some ((HT T).set 33 (.inl (2, 6, .inr (.inr (.inr (.inr (va_up (fun k => if k < 6 then some (bs (T.1.2.1 k)) else none) (nI k).toNatClampNeg (some (bs j)))))))))) = _
  rw [nI_clamp (by omega), hO, if_neg (by simp only [nI_pos (show k < 2 ^ 31 by omega), false_or, Bool.true_eq_false, or_false]; omega)]
  refine congrArg some (HT_set _ _ _ ?_ fun i hi hn => ?_)
  · show Sum.inl (2, 6, Sum.inr (Sum.inr (Sum.inr (Sum.inr (fun i => if i < 6 then some (bs (if i = k then j else T.1.2.1 i)) else none))))) = _
    congr 7
    funext i
    unfold va_up
    by_cases h : i = k
    · subst h
      simp [hk]
    · simp [h]
  · unfold gT uG
    dsimp only
    simp only [hn, if_false]

