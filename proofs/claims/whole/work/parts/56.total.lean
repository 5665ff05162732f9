/-! the whole small heap of the law: RailSequence, eight plants, buffer, reader, model, out -/
def bs (j : Nat) : Nat := if j < 2 then 1 + 16 * j else 37 + 16 * (j - 2)
abbrev TC : Type := (Nat → Int32) × (Nat → Nat) × (Nat → PV)
abbrev TS : Type := TC × ((Nat → Int32) × (Nat → Int32)) × MV × (Nat → Int64)
def gT (T : TS) : Nat → MC := fun i =>
  if i = 0 then .inr (3, [.ref 1, .ref 17, .ref 33, .int (T.1.1 3), .ref 34, .int (T.1.1 5), .ref 35])
  else if i < 33 then pc_ (bs ((i - 1) / 16)) (T.1.2.2 ((i - 1) / 16)) ((i - 1) % 16)
  else if i = 33 then .inl (2, 6, .inr (.inr (.inr (.inr (fun k => if k < 6 then some (bs (T.1.2.1 k)) else none)))))
  else if i = 34 then .inl (0, 60, .inl T.2.1.1)
  else if i = 35 then .inr (2, [.ref 36, .int (T.1.1 11), .int (T.1.1 12), .int (T.1.1 13)])
  else if i = 36 then .inl (0, 3, .inl T.2.1.2)
  else if i < 133 then pc_ (bs (2 + (i - 37) / 16)) (T.1.2.2 (2 + (i - 37) / 16)) ((i - 37) % 16)
  else if i < 140 then mc7 133 T.2.2.1 (i - 133)
  else .inl (1, 1, .inr (.inl T.2.2.2))
def HT (T : TS) : MH := hh (gT T)
def uP (T : TS) (j : Nat) (P : PV) : TS := ((T.1.1, T.1.2.1, fun i => if i = j then P else T.1.2.2 i), T.2)
def uM (T : TS) (M : MV) : TS := (T.1, T.2.1, M, T.2.2.2)
def uS (T : TS) (k : Nat) (x : Int32) : TS := ((fun i => if i = k then x else T.1.1 i, T.1.2), T.2)
def uG (T : TS) (s : Nat → Nat) : TS := ((T.1.1, s, T.1.2.2), T.2)
def uB (T : TS) (f : Nat → Int32) : TS := (T.1, (f, T.2.1.2), T.2.2)
def uN (T : TS) (f : Nat → Int32) : TS := (T.1, (T.2.1.1, f), T.2.2)
def uO (T : TS) (f : Nat → Int64) : TS := (T.1, T.2.1, T.2.2.1, f)
theorem bs_le {j : Nat} (h : j < 8) : bs j ≤ 125 := by
  unfold bs
  split <;> omega
theorem gT_in (T : TS) {j k : Nat} (hj : j < 8) (hk : k < 16) : gT T (bs j + k) = pc_ (bs j) (T.1.2.2 j) k := by
  unfold gT
  by_cases h : j < 2
  · have e : bs j = 1 + 16 * j := if_pos h
    rw [if_neg (by omega), if_pos (by omega), show (bs j + k - 1) / 16 = j by omega, show (bs j + k - 1) % 16 = k by omega]
  · have e : bs j = 37 + 16 * (j - 2) := if_neg h
    rw [if_neg (by omega), if_neg (by omega), if_neg (by omega), if_neg (by omega), if_neg (by omega), if_neg (by omega), if_pos (by omega), show 2 + (bs j + k - 37) / 16 = j by omega, show (bs j + k - 37) % 16 = k by omega]
theorem gT_uP (T : TS) {j i : Nat} (hj : j < 8) (Q : PV) (h : i < bs j ∨ bs j + 16 ≤ i) : gT (uP T j Q) i = gT T i := by
  have e : bs j = if j < 2 then 1 + 16 * j else 37 + 16 * (j - 2) := rfl
  unfold gT uP
  by_cases h0 : i = 0
  · rw [if_pos h0, if_pos h0]
  rw [if_neg h0, if_neg h0]
  by_cases h1 : i < 33
  · rw [if_pos h1, if_pos h1]
    have : ¬ (i - 1) / 16 = j := by
      intro hh
      split at e <;> omega
    simp only [if_neg this]
  rw [if_neg h1, if_neg h1]
  by_cases h2 : i = 33
  · rw [if_pos h2, if_pos h2]
  rw [if_neg h2, if_neg h2]
  by_cases h3 : i = 34
  · rw [if_pos h3, if_pos h3]
  rw [if_neg h3, if_neg h3]
  by_cases h4 : i = 35
  · rw [if_pos h4, if_pos h4]
  rw [if_neg h4, if_neg h4]
  by_cases h5 : i = 36
  · rw [if_pos h5, if_pos h5]
  rw [if_neg h5, if_neg h5]
  by_cases h6 : i < 133
  · rw [if_pos h6, if_pos h6]
    have : ¬ 2 + (i - 37) / 16 = j := by
      intro hh
      split at e <;> omega
    simp only [if_neg this]
  rw [if_neg h6, if_neg h6]
theorem pw_T (T : TS) {j : Nat} (hj : j < 8) (Q : PV) : pw (gT T) (bs j) Q = gT (uP T j Q) := by
  funext i
  by_cases h : bs j ≤ i ∧ i < bs j + 16
  · obtain ⟨k, rfl⟩ : ∃ k, i = bs j + k := ⟨i - bs j, by omega⟩
    rw [pw_at (by omega), gT_in _ hj (by omega)]
    simp [uP]
  · rw [pw_ne (by omega), gT_uP T hj Q (by omega)]
theorem uP_self (T : TS) (j : Nat) : uP T j (T.1.2.2 j) = T := by
  unfold uP
  have : (fun i => if i = j then T.1.2.2 j else T.1.2.2 i) = T.1.2.2 := by
    funext i
    by_cases h : i = j
    · subst h
      simp
    · simp [h]
  rw [this]
theorem HT_p (T : TS) {j : Nat} (hj : j < 8) : HT T = hp (gT T) (bs j) (T.1.2.2 j) := by
  unfold HT hp
  rw [pw_T T hj, uP_self]
theorem hp_T (T : TS) {j : Nat} (hj : j < 8) (Q : PV) : hp (gT T) (bs j) Q = HT (uP T j Q) := by
  unfold HT hp
  rw [pw_T T hj]
theorem mwr_T (T : TS) (Q : MV) : mwr (gT T) 133 Q = gT (uM T Q) := by
  funext i
  by_cases h : 133 ≤ i ∧ i < 133 + 7
  · obtain ⟨k, rfl⟩ : ∃ k, i = 133 + k := ⟨i - 133, by omega⟩
    rw [mwr_at (by omega)]
    unfold gT uM
    rw [if_neg (by omega), if_neg (by omega), if_neg (by omega), if_neg (by omega), if_neg (by omega), if_neg (by omega), if_neg (by omega), if_pos (by omega), show 133 + k - 133 = k by omega]
  · rw [mwr_ne (by omega)]
    unfold gT uM
    by_cases h7 : i < 140
    · have : i < 133 := by omega
      simp only [this, if_true]
    · simp only [h7, if_false]
theorem HT_m (T : TS) : HT T = hm (gT T) 133 T.2.2.1 := by
  unfold HT hm
  rw [mwr_T]
  rfl
theorem hm_T (T : TS) (Q : MV) : hm (gT T) 133 Q = HT (uM T Q) := by
  unfold HT hm
  rw [mwr_T]
theorem HT_get (T : TS) {i : Nat} (hi : i < 141) : (HT T)[i]? = some (gT T i) := hh_get hi
theorem HT_set (T U : TS) {i : Nat} (c : MC) (h1 : gT U i = c) (h2 : ∀ j, j < 141 → j ≠ i → gT U j = gT T j) : (HT T).set i c = HT U := by
  unfold HT
  rw [hh_set]
  unfold hh
  apply List.map_congr_left
  intro j hj
  rw [List.mem_range] at hj
  unfold upC
  by_cases h : j = i
  · subst h
    rw [if_pos rfl, h1]
  · rw [if_neg h, h2 j hj h]
variable (T : TS)
theorem t_O3 : isO (HT T) 3 0 = true := by simp only [isO, HT_get T (show 0 < 141 by decide)]; rfl
theorem t_v3 {α : Type} {o : Option α} : vcall (HT T) 3 0 o = o := by simp [vcall, t_O3]
theorem t_O2 : isO (HT T) 2 35 = true := by simp only [isO, HT_get T (show 35 < 141 by decide)]; rfl
theorem t_v2 {α : Type} {o : Option α} : vcall (HT T) 2 35 o = o := by simp [vcall, t_O2]
theorem t_vm {α : Type} {o : Option α} : vcall (HT T) 4 133 o = o := by rw [HT_m T]; exact m_v (by decide)
theorem t_R0 : hR (HT T) 3 0 0 = some 1 := by simp only [hR, hF, HT_get T (show 0 < 141 by decide)]; rfl
theorem t_R1 : hR (HT T) 3 0 1 = some 17 := by simp only [hR, hF, HT_get T (show 0 < 141 by decide)]; rfl
theorem t_R2 : hR (HT T) 3 0 2 = some 33 := by simp only [hR, hF, HT_get T (show 0 < 141 by decide)]; rfl
theorem t_R4 : hR (HT T) 3 0 4 = some 34 := by simp only [hR, hF, HT_get T (show 0 < 141 by decide)]; rfl
theorem t_R6 : hR (HT T) 3 0 6 = some 35 := by simp only [hR, hF, HT_get T (show 0 < 141 by decide)]; rfl
theorem t_I3 : hI (HT T) 3 0 3 = some (T.1.1 3) := by simp only [hI, hF, HT_get T (show 0 < 141 by decide)]; rfl
theorem t_P3 (x : Int32) : hP (HT T) 3 0 3 (.int x) = some (HT (uS T 3 x)) := by
  simp only [hP, HT_get T (show 0 < 141 by decide)]
  show (if 3 = 3 ∧ 3 < 7 then some ((HT T).set 0 _) else none) = _
  rw [if_pos (by decide)]
  refine congrArg some (HT_set _ _ _ rfl fun j hj hn => ?_)
  unfold gT
  simp only [hn, if_false]
  rfl
theorem t_I5 : hI (HT T) 3 0 5 = some (T.1.1 5) := by simp only [hI, hF, HT_get T (show 0 < 141 by decide)]; rfl
theorem t_P5 (x : Int32) : hP (HT T) 3 0 5 (.int x) = some (HT (uS T 5 x)) := by
  simp only [hP, HT_get T (show 0 < 141 by decide)]
  show (if 3 = 3 ∧ 5 < 7 then some ((HT T).set 0 _) else none) = _
  rw [if_pos (by decide)]
  refine congrArg some (HT_set _ _ _ rfl fun j hj hn => ?_)
  unfold gT
  simp only [hn, if_false]
  rfl
theorem t_rR : hR (HT T) 2 35 0 = some 36 := by simp only [hR, hF, HT_get T (show 35 < 141 by decide)]; rfl
theorem t_r1 : hI (HT T) 2 35 1 = some (T.1.1 11) := by simp only [hI, hF, HT_get T (show 35 < 141 by decide)]; rfl
theorem t_rP1 (x : Int32) : hP (HT T) 2 35 1 (.int x) = some (HT (uS T 11 x)) := by
  simp only [hP, HT_get T (show 35 < 141 by decide)]
  show (if 2 = 2 ∧ 1 < 4 then some ((HT T).set 35 _) else none) = _
  rw [if_pos (by decide)]
  refine congrArg some (HT_set _ _ _ rfl fun j hj hn => ?_)
  unfold gT
  simp only [hn, if_false]
  rfl
theorem t_r2 : hI (HT T) 2 35 2 = some (T.1.1 12) := by simp only [hI, hF, HT_get T (show 35 < 141 by decide)]; rfl
theorem t_rP2 (x : Int32) : hP (HT T) 2 35 2 (.int x) = some (HT (uS T 12 x)) := by
  simp only [hP, HT_get T (show 35 < 141 by decide)]
  show (if 2 = 2 ∧ 2 < 4 then some ((HT T).set 35 _) else none) = _
  rw [if_pos (by decide)]
  refine congrArg some (HT_set _ _ _ rfl fun j hj hn => ?_)
  unfold gT
  simp only [hn, if_false]
  rfl
theorem t_r3 : hI (HT T) 2 35 3 = some (T.1.1 13) := by simp only [hI, hF, HT_get T (show 35 < 141 by decide)]; rfl
theorem t_rP3 (x : Int32) : hP (HT T) 2 35 3 (.int x) = some (HT (uS T 13 x)) := by
  simp only [hP, HT_get T (show 35 < 141 by decide)]
  show (if 2 = 2 ∧ 3 < 4 then some ((HT T).set 35 _) else none) = _
  rw [if_pos (by decide)]
  refine congrArg some (HT_set _ _ _ rfl fun j hj hn => ?_)
  unfold gT
  simp only [hn, if_false]
  rfl
theorem t_CB : aC (HT T) 0 34 = some (60, .inl T.2.1.1) := by simp only [aC, HT_get T (show 34 < 141 by decide)]; rfl
theorem t_aB {j : Int32} : aI (HT T) 34 j = bd 60 j T.2.1.1 := by
  simp only [aI, t_CB]
  rfl
theorem t_sB {j x : Int32} : sI (HT T) 34 j x = bd 60 j (fun i => HT (uB T (upd T.2.1.1 i x))) := by
  simp only [sI, t_CB, bd]
  split
  · rfl
  · refine congrArg some (HT_set _ _ _ rfl fun k hk hn => ?_)
    unfold gT uB
    simp only [hn, if_false]
theorem t_CN : aC (HT T) 0 36 = some (3, .inl T.2.1.2) := by simp only [aC, HT_get T (show 36 < 141 by decide)]; rfl
theorem t_aN {j : Int32} : aI (HT T) 36 j = bd 3 j T.2.1.2 := by
  simp only [aI, t_CN]
  rfl
theorem t_sN {j x : Int32} : sI (HT T) 36 j x = bd 3 j (fun i => HT (uN T (upd T.2.1.2 i x))) := by
  simp only [sI, t_CN, bd]
  split
  · rfl
  · refine congrArg some (HT_set _ _ _ rfl fun k hk hn => ?_)
    unfold gT uN
    simp only [hn, if_false]
theorem t_aO {j : Nat} (hj : j < 8) {α : Type} {o : Option α} : vcall (HT T) 1 (bs j) o = o := by
  rw [HT_p T hj]
  exact p_v1 (bs_le hj)
theorem t_s (k : Nat) (hk : k < 6) : aR (HT T) 33 (nI k) = some (bs (T.1.2.1 k)) := by
  simp only [aR, aC, HT_get T (show 33 < 141 by decide)]
  show (if nI k < 0 ∨ 6 ≤ (nI k).toNatClampNeg then none else (if (nI k).toNatClampNeg < 6 then some (bs (T.1.2.1 (nI k).toNatClampNeg)) else none)) = _
  rw [nI_clamp (by omega), if_neg (by simp only [nI_pos (show k < 2 ^ 31 by omega), false_or]; omega), if_pos hk]
theorem t_sR (k j : Nat) (hk : k < 6) (hj : j < 8) : sR (HT T) 33 (nI k) (bs j) = some (HT (uG T (fun i => if i = k then j else T.1.2.1 i))) := by
  have hO : isO (HT T) 1 (bs j) = true := by
    rw [HT_p T hj]
    exact p_O1 (bs_le hj)
  simp only [sR, aC, HT_get T (show 33 < 141 by decide)]
  show (if nI k < 0 ∨ 6 ≤ (nI k).toNatClampNeg ∨ isO (HT T) 1 (bs j) = false then none else some ((HT T).set 33 (.inl (2, 6, .inr (.inr (.inr (.inr (va_up (fun k => if k < 6 then some (bs (T.1.2.1 k)) else none) (nI k).toNatClampNeg (some (bs j)))))))))) = _
  rw [nI_clamp (by omega), hO, if_neg (by simp only [nI_pos (show k < 2 ^ 31 by omega), false_or, Bool.true_eq_false, or_false]; omega)]
  refine congrArg some (HT_set _ _ _ ?_ fun i hi hn => ?_)
  · show Sum.inl (2, 6, Sum.inr (Sum.inr (Sum.inr (Sum.inr (fun i => if i < 6 then some (bs (if i = k then j else T.1.2.1 i)) else none))))) = _
    congr 7
    funext i
    unfold va_up
    by_cases h : i = k
    · subst h
      simp [hk]
    · simp [h]
  · unfold gT uG
    simp only [hn, if_false]
