/-! the reference in the small heap: 7 cells at b -/
abbrev MV : Type := ((Nat → Int32) × Int64) × (Nat → Nat → Int32)
def mc7 (b : Nat) (M : MV) (k : Nat) : MC := match k with
  | 0 => .inr (4, [.int (M.1.1 0), .ref (b + 1), .int (M.1.1 2), .ref (b + 2), .int (M.1.1 4), .ref (b + 3), .int (M.1.1 6), .int (M.1.1 7), .ref (b + 4), .ref (b + 5), .int (M.1.1 10), .int (M.1.1 11), .int (M.1.1 12), .int (M.1.1 13), .ref (b + 6), .long M.1.2])
  | 1 => .inl (0, 228, .inl (M.2 1))
  | 2 => .inl (0, 1368, .inl (M.2 3))
  | 3 => .inl (0, 60, .inl (M.2 5))
  | 4 => .inl (0, 8, .inl (M.2 8))
  | 5 => .inl (0, 228, .inl (M.2 9))
  | _ => .inl (0, 64, .inl (M.2 14))
def mwr (G : Nat → MC) (b : Nat) (M : MV) : Nat → MC := fun i => if b ≤ i ∧ i < b + 7 then mc7 b M (i - b) else G i
def hm (G : Nat → MC) (b : Nat) (M : MV) : MH := hh (mwr G b M)
theorem mwr_at {G : Nat → MC} {b : Nat} {M : MV} {k : Nat} (hk : k < 7) : mwr G b M (b + k) = mc7 b M k := by
  unfold mwr
  rw [if_pos ⟨Nat.le_add_right _ _, by omega⟩, Nat.add_sub_cancel_left]
theorem mwr_ne {G : Nat → MC} {b : Nat} {M : MV} {i : Nat} (h : i < b ∨ b + 7 ≤ i) : mwr G b M i = G i := by
  unfold mwr
  rw [if_neg (by omega)]
theorem mwr_mwr {G : Nat → MC} {b : Nat} {M Q : MV} : mwr (mwr G b M) b Q = mwr G b Q := by
  funext i
  unfold mwr
  split <;> rfl
theorem hm_get {G : Nat → MC} {b : Nat} {M : MV} (k : Nat) (hb : b ≤ 134) (hk : k < 7) : (hm G b M)[b + k]? = some (mc7 b M k) := by
  unfold hm
  rw [hh_get (by omega), mwr_at hk]
theorem hm_set {G : Nat → MC} {b : Nat} {M Q : MV} (k : Nat) (hk : k < 7) (h : ∀ j, j < 7 → j ≠ k → mc7 b M j = mc7 b Q j) : (hm G b M).set (b + k) (mc7 b Q k) = hm G b Q := by
  unfold hm
  rw [hh_set]
  congr 1
  funext i
  unfold upC mwr
  by_cases hi : i = b + k
  · subst hi
    rw [if_pos rfl, if_pos ⟨Nat.le_add_right _ _, by omega⟩, Nat.add_sub_cancel_left]
  · rw [if_neg hi]
    by_cases hb : b ≤ i ∧ i < b + 7
    · rw [if_pos hb, if_pos hb]
      exact h (i - b) (by omega) (by omega)
    · rw [if_neg hb, if_neg hb]
def mS (M : MV) (k : Nat) (x : Int32) : MV := ((fun j => if j = k then x else M.1.1 j, M.1.2), M.2)
def mH (M : MV) (x : Int64) : MV := ((M.1.1, x), M.2)
def mA (M : MV) (k i : Nat) (x : Int32) : MV := (M.1, fun j => if j = k then upd (M.2 k) i x else M.2 j)
theorem mS_1 {M : MV} {k j : Nat} {x : Int32} : (mS M k x).1.1 j = if j = k then x else M.1.1 j := rfl
theorem mS_h {M : MV} {k : Nat} {x : Int32} : (mS M k x).1.2 = M.1.2 := rfl
theorem mS_2 {M : MV} {k : Nat} {x : Int32} : (mS M k x).2 = M.2 := rfl
theorem mH_1 {M : MV} {x : Int64} : (mH M x).1.1 = M.1.1 := rfl
theorem mH_h {M : MV} {x : Int64} : (mH M x).1.2 = x := rfl
theorem mH_2 {M : MV} {x : Int64} : (mH M x).2 = M.2 := rfl
theorem mA_1 {M : MV} {k i : Nat} {x : Int32} : (mA M k i x).1 = M.1 := rfl
theorem mA_2 {M : MV} {k i j : Nat} {x : Int32} : (mA M k i x).2 j = if j = k then upd (M.2 k) i x else M.2 j := rfl
variable {G : Nat → MC} {b : Nat} {M : MV}
theorem m_I0 (hb : b ≤ 134) : hI (hm G b M) 4 b 0 = some (M.1.1 0) := by
  have h := hm_get (G := G) (M := M) 0 hb (by omega)
  rw [Nat.add_zero] at h
  simp only [hI, hF, h, mc7]
  rfl
theorem m_I2 (hb : b ≤ 134) : hI (hm G b M) 4 b 2 = some (M.1.1 2) := by
  have h := hm_get (G := G) (M := M) 0 hb (by omega)
  rw [Nat.add_zero] at h
  simp only [hI, hF, h, mc7]
  rfl
theorem m_I4 (hb : b ≤ 134) : hI (hm G b M) 4 b 4 = some (M.1.1 4) := by
  have h := hm_get (G := G) (M := M) 0 hb (by omega)
  rw [Nat.add_zero] at h
  simp only [hI, hF, h, mc7]
  rfl
theorem m_I6 (hb : b ≤ 134) : hI (hm G b M) 4 b 6 = some (M.1.1 6) := by
  have h := hm_get (G := G) (M := M) 0 hb (by omega)
  rw [Nat.add_zero] at h
  simp only [hI, hF, h, mc7]
  rfl
theorem m_I7 (hb : b ≤ 134) : hI (hm G b M) 4 b 7 = some (M.1.1 7) := by
  have h := hm_get (G := G) (M := M) 0 hb (by omega)
  rw [Nat.add_zero] at h
  simp only [hI, hF, h, mc7]
  rfl
theorem m_I10 (hb : b ≤ 134) : hI (hm G b M) 4 b 10 = some (M.1.1 10) := by
  have h := hm_get (G := G) (M := M) 0 hb (by omega)
  rw [Nat.add_zero] at h
  simp only [hI, hF, h, mc7]
  rfl
theorem m_I11 (hb : b ≤ 134) : hI (hm G b M) 4 b 11 = some (M.1.1 11) := by
  have h := hm_get (G := G) (M := M) 0 hb (by omega)
  rw [Nat.add_zero] at h
  simp only [hI, hF, h, mc7]
  rfl
theorem m_I12 (hb : b ≤ 134) : hI (hm G b M) 4 b 12 = some (M.1.1 12) := by
  have h := hm_get (G := G) (M := M) 0 hb (by omega)
  rw [Nat.add_zero] at h
  simp only [hI, hF, h, mc7]
  rfl
theorem m_I13 (hb : b ≤ 134) : hI (hm G b M) 4 b 13 = some (M.1.1 13) := by
  have h := hm_get (G := G) (M := M) 0 hb (by omega)
  rw [Nat.add_zero] at h
  simp only [hI, hF, h, mc7]
  rfl
theorem m_L (hb : b ≤ 134) : hL (hm G b M) 4 b 15 = some M.1.2 := by
  have h := hm_get (G := G) (M := M) 0 hb (by omega)
  rw [Nat.add_zero] at h
  simp only [hL, hF, h, mc7]
  rfl
theorem m_R1 (hb : b ≤ 134) : hR (hm G b M) 4 b 1 = some (b + 1) := by
  have h := hm_get (G := G) (M := M) 0 hb (by omega)
  rw [Nat.add_zero] at h
  simp only [hR, hF, h, mc7]
  rfl
theorem m_R3 (hb : b ≤ 134) : hR (hm G b M) 4 b 3 = some (b + 2) := by
  have h := hm_get (G := G) (M := M) 0 hb (by omega)
  rw [Nat.add_zero] at h
  simp only [hR, hF, h, mc7]
  rfl
theorem m_R5 (hb : b ≤ 134) : hR (hm G b M) 4 b 5 = some (b + 3) := by
  have h := hm_get (G := G) (M := M) 0 hb (by omega)
  rw [Nat.add_zero] at h
  simp only [hR, hF, h, mc7]
  rfl
theorem m_R8 (hb : b ≤ 134) : hR (hm G b M) 4 b 8 = some (b + 4) := by
  have h := hm_get (G := G) (M := M) 0 hb (by omega)
  rw [Nat.add_zero] at h
  simp only [hR, hF, h, mc7]
  rfl
theorem m_R9 (hb : b ≤ 134) : hR (hm G b M) 4 b 9 = some (b + 5) := by
  have h := hm_get (G := G) (M := M) 0 hb (by omega)
  rw [Nat.add_zero] at h
  simp only [hR, hF, h, mc7]
  rfl
theorem m_R14 (hb : b ≤ 134) : hR (hm G b M) 4 b 14 = some (b + 6) := by
  have h := hm_get (G := G) (M := M) 0 hb (by omega)
  rw [Nat.add_zero] at h
  simp only [hR, hF, h, mc7]
  rfl
theorem m_O (hb : b ≤ 134) : isO (hm G b M) 4 b = true := by
  have h := hm_get (G := G) (M := M) 0 hb (by omega)
  rw [Nat.add_zero] at h
  simp [isO, h, mc7]
theorem m_v {α : Type} {o : Option α} (hb : b ≤ 134) : vcall (hm G b M) 4 b o = o := by simp [vcall, m_O hb]
theorem m_C1 (hb : b ≤ 134) : aC (hm G b M) 0 (b + 1) = some (228, .inl (M.2 1)) := by
  simp only [aC, hm_get (G := G) (M := M) 1 hb (by omega), mc7]
  rfl
theorem m_a1 {j : Int32} (hb : b ≤ 134) : aI (hm G b M) (b + 1) j = bd 228 j (M.2 1) := by
  simp only [aI, m_C1 hb]
  rfl
theorem m_s1 {j x : Int32} (hb : b ≤ 134) : sI (hm G b M) (b + 1) j x = bd 228 j (fun i => hm G b (mA M 1 i x)) := by
  simp only [sI, m_C1 hb, bd]
  split
  · rfl
  · congr 1
    exact hm_set (Q := mA M 1 _ x) 1 (by omega) (fun i hi hn => by
      match i, hi with
      | 0, _ => rfl
      | 1, _ => exact absurd rfl hn
      | 2, _ => rfl
      | 3, _ => rfl
      | 4, _ => rfl
      | 5, _ => rfl
      | 6, _ => rfl
      | i + 7, hi => omega)
theorem m_C3 (hb : b ≤ 134) : aC (hm G b M) 0 (b + 2) = some (1368, .inl (M.2 3)) := by
  simp only [aC, hm_get (G := G) (M := M) 2 hb (by omega), mc7]
  rfl
theorem m_a3 {j : Int32} (hb : b ≤ 134) : aI (hm G b M) (b + 2) j = bd 1368 j (M.2 3) := by
  simp only [aI, m_C3 hb]
  rfl
theorem m_s3 {j x : Int32} (hb : b ≤ 134) : sI (hm G b M) (b + 2) j x = bd 1368 j (fun i => hm G b (mA M 3 i x)) := by
  simp only [sI, m_C3 hb, bd]
  split
  · rfl
  · congr 1
    exact hm_set (Q := mA M 3 _ x) 2 (by omega) (fun i hi hn => by
      match i, hi with
      | 0, _ => rfl
      | 1, _ => rfl
      | 2, _ => exact absurd rfl hn
      | 3, _ => rfl
      | 4, _ => rfl
      | 5, _ => rfl
      | 6, _ => rfl
      | i + 7, hi => omega)
theorem m_C5 (hb : b ≤ 134) : aC (hm G b M) 0 (b + 3) = some (60, .inl (M.2 5)) := by
  simp only [aC, hm_get (G := G) (M := M) 3 hb (by omega), mc7]
  rfl
theorem m_a5 {j : Int32} (hb : b ≤ 134) : aI (hm G b M) (b + 3) j = bd 60 j (M.2 5) := by
  simp only [aI, m_C5 hb]
  rfl
theorem m_s5 {j x : Int32} (hb : b ≤ 134) : sI (hm G b M) (b + 3) j x = bd 60 j (fun i => hm G b (mA M 5 i x)) := by
  simp only [sI, m_C5 hb, bd]
  split
  · rfl
  · congr 1
    exact hm_set (Q := mA M 5 _ x) 3 (by omega) (fun i hi hn => by
      match i, hi with
      | 0, _ => rfl
      | 1, _ => rfl
      | 2, _ => rfl
      | 3, _ => exact absurd rfl hn
      | 4, _ => rfl
      | 5, _ => rfl
      | 6, _ => rfl
      | i + 7, hi => omega)
theorem m_C8 (hb : b ≤ 134) : aC (hm G b M) 0 (b + 4) = some (8, .inl (M.2 8)) := by
  simp only [aC, hm_get (G := G) (M := M) 4 hb (by omega), mc7]
  rfl
theorem m_a8 {j : Int32} (hb : b ≤ 134) : aI (hm G b M) (b + 4) j = bd 8 j (M.2 8) := by
  simp only [aI, m_C8 hb]
  rfl
theorem m_s8 {j x : Int32} (hb : b ≤ 134) : sI (hm G b M) (b + 4) j x = bd 8 j (fun i => hm G b (mA M 8 i x)) := by
  simp only [sI, m_C8 hb, bd]
  split
  · rfl
  · congr 1
    exact hm_set (Q := mA M 8 _ x) 4 (by omega) (fun i hi hn => by
      match i, hi with
      | 0, _ => rfl
      | 1, _ => rfl
      | 2, _ => rfl
      | 3, _ => rfl
      | 4, _ => exact absurd rfl hn
      | 5, _ => rfl
      | 6, _ => rfl
      | i + 7, hi => omega)
theorem m_C9 (hb : b ≤ 134) : aC (hm G b M) 0 (b + 5) = some (228, .inl (M.2 9)) := by
  simp only [aC, hm_get (G := G) (M := M) 5 hb (by omega), mc7]
  rfl
theorem m_a9 {j : Int32} (hb : b ≤ 134) : aI (hm G b M) (b + 5) j = bd 228 j (M.2 9) := by
  simp only [aI, m_C9 hb]
  rfl
theorem m_s9 {j x : Int32} (hb : b ≤ 134) : sI (hm G b M) (b + 5) j x = bd 228 j (fun i => hm G b (mA M 9 i x)) := by
  simp only [sI, m_C9 hb, bd]
  split
  · rfl
  · congr 1
    exact hm_set (Q := mA M 9 _ x) 5 (by omega) (fun i hi hn => by
      match i, hi with
      | 0, _ => rfl
      | 1, _ => rfl
      | 2, _ => rfl
      | 3, _ => rfl
      | 4, _ => rfl
      | 5, _ => exact absurd rfl hn
      | 6, _ => rfl
      | i + 7, hi => omega)
theorem m_C14 (hb : b ≤ 134) : aC (hm G b M) 0 (b + 6) = some (64, .inl (M.2 14)) := by
  simp only [aC, hm_get (G := G) (M := M) 6 hb (by omega), mc7]
  rfl
theorem m_a14 {j : Int32} (hb : b ≤ 134) : aI (hm G b M) (b + 6) j = bd 64 j (M.2 14) := by
  simp only [aI, m_C14 hb]
  rfl
theorem m_s14 {j x : Int32} (hb : b ≤ 134) : sI (hm G b M) (b + 6) j x = bd 64 j (fun i => hm G b (mA M 14 i x)) := by
  simp only [sI, m_C14 hb, bd]
  split
  · rfl
  · congr 1
    exact hm_set (Q := mA M 14 _ x) 6 (by omega) (fun i hi hn => by
      match i, hi with
      | 0, _ => rfl
      | 1, _ => rfl
      | 2, _ => rfl
      | 3, _ => rfl
      | 4, _ => rfl
      | 5, _ => rfl
      | 6, _ => exact absurd rfl hn
      | i + 7, hi => omega)
theorem m_P0 {x : Int32} (hb : b ≤ 134) : hP (hm G b M) 4 b 0 (.int x) = some (hm G b (mS M 0 x)) := by
  have h := hm_get (G := G) (M := M) 0 hb (by omega)
  rw [Nat.add_zero] at h
  simp only [hP, h, mc7]
  refine (if_pos ⟨trivial, Nat.le_of_ble_eq_true rfl⟩).trans (congrArg some ?_)
  exact hm_set (M := M) (Q := mS M 0 x) 0 (by omega) (fun i hi hn => by
    match i, hi with
    | 0, _ => exact absurd rfl hn
    | 1, _ => rfl
    | 2, _ => rfl
    | 3, _ => rfl
    | 4, _ => rfl
    | 5, _ => rfl
    | 6, _ => rfl
    | i + 7, hi => omega)
theorem m_P2 {x : Int32} (hb : b ≤ 134) : hP (hm G b M) 4 b 2 (.int x) = some (hm G b (mS M 2 x)) := by
  have h := hm_get (G := G) (M := M) 0 hb (by omega)
  rw [Nat.add_zero] at h
  simp only [hP, h, mc7]
  refine (if_pos ⟨trivial, Nat.le_of_ble_eq_true rfl⟩).trans (congrArg some ?_)
  exact hm_set (M := M) (Q := mS M 2 x) 0 (by omega) (fun i hi hn => by
    match i, hi with
    | 0, _ => exact absurd rfl hn
    | 1, _ => rfl
    | 2, _ => rfl
    | 3, _ => rfl
    | 4, _ => rfl
    | 5, _ => rfl
    | 6, _ => rfl
    | i + 7, hi => omega)
theorem m_P4 {x : Int32} (hb : b ≤ 134) : hP (hm G b M) 4 b 4 (.int x) = some (hm G b (mS M 4 x)) := by
  have h := hm_get (G := G) (M := M) 0 hb (by omega)
  rw [Nat.add_zero] at h
  simp only [hP, h, mc7]
  refine (if_pos ⟨trivial, Nat.le_of_ble_eq_true rfl⟩).trans (congrArg some ?_)
  exact hm_set (M := M) (Q := mS M 4 x) 0 (by omega) (fun i hi hn => by
    match i, hi with
    | 0, _ => exact absurd rfl hn
    | 1, _ => rfl
    | 2, _ => rfl
    | 3, _ => rfl
    | 4, _ => rfl
    | 5, _ => rfl
    | 6, _ => rfl
    | i + 7, hi => omega)
theorem m_P6 {x : Int32} (hb : b ≤ 134) : hP (hm G b M) 4 b 6 (.int x) = some (hm G b (mS M 6 x)) := by
  have h := hm_get (G := G) (M := M) 0 hb (by omega)
  rw [Nat.add_zero] at h
  simp only [hP, h, mc7]
  refine (if_pos ⟨trivial, Nat.le_of_ble_eq_true rfl⟩).trans (congrArg some ?_)
  exact hm_set (M := M) (Q := mS M 6 x) 0 (by omega) (fun i hi hn => by
    match i, hi with
    | 0, _ => exact absurd rfl hn
    | 1, _ => rfl
    | 2, _ => rfl
    | 3, _ => rfl
    | 4, _ => rfl
    | 5, _ => rfl
    | 6, _ => rfl
    | i + 7, hi => omega)
theorem m_P7 {x : Int32} (hb : b ≤ 134) : hP (hm G b M) 4 b 7 (.int x) = some (hm G b (mS M 7 x)) := by
  have h := hm_get (G := G) (M := M) 0 hb (by omega)
  rw [Nat.add_zero] at h
  simp only [hP, h, mc7]
  refine (if_pos ⟨trivial, Nat.le_of_ble_eq_true rfl⟩).trans (congrArg some ?_)
  exact hm_set (M := M) (Q := mS M 7 x) 0 (by omega) (fun i hi hn => by
    match i, hi with
    | 0, _ => exact absurd rfl hn
    | 1, _ => rfl
    | 2, _ => rfl
    | 3, _ => rfl
    | 4, _ => rfl
    | 5, _ => rfl
    | 6, _ => rfl
    | i + 7, hi => omega)
theorem m_P10 {x : Int32} (hb : b ≤ 134) : hP (hm G b M) 4 b 10 (.int x) = some (hm G b (mS M 10 x)) := by
  have h := hm_get (G := G) (M := M) 0 hb (by omega)
  rw [Nat.add_zero] at h
  simp only [hP, h, mc7]
  refine (if_pos ⟨trivial, Nat.le_of_ble_eq_true rfl⟩).trans (congrArg some ?_)
  exact hm_set (M := M) (Q := mS M 10 x) 0 (by omega) (fun i hi hn => by
    match i, hi with
    | 0, _ => exact absurd rfl hn
    | 1, _ => rfl
    | 2, _ => rfl
    | 3, _ => rfl
    | 4, _ => rfl
    | 5, _ => rfl
    | 6, _ => rfl
    | i + 7, hi => omega)
theorem m_P11 {x : Int32} (hb : b ≤ 134) : hP (hm G b M) 4 b 11 (.int x) = some (hm G b (mS M 11 x)) := by
  have h := hm_get (G := G) (M := M) 0 hb (by omega)
  rw [Nat.add_zero] at h
  simp only [hP, h, mc7]
  refine (if_pos ⟨trivial, Nat.le_of_ble_eq_true rfl⟩).trans (congrArg some ?_)
  exact hm_set (M := M) (Q := mS M 11 x) 0 (by omega) (fun i hi hn => by
    match i, hi with
    | 0, _ => exact absurd rfl hn
    | 1, _ => rfl
    | 2, _ => rfl
    | 3, _ => rfl
    | 4, _ => rfl
    | 5, _ => rfl
    | 6, _ => rfl
    | i + 7, hi => omega)
theorem m_P12 {x : Int32} (hb : b ≤ 134) : hP (hm G b M) 4 b 12 (.int x) = some (hm G b (mS M 12 x)) := by
  have h := hm_get (G := G) (M := M) 0 hb (by omega)
  rw [Nat.add_zero] at h
  simp only [hP, h, mc7]
  refine (if_pos ⟨trivial, Nat.le_of_ble_eq_true rfl⟩).trans (congrArg some ?_)
  exact hm_set (M := M) (Q := mS M 12 x) 0 (by omega) (fun i hi hn => by
    match i, hi with
    | 0, _ => exact absurd rfl hn
    | 1, _ => rfl
    | 2, _ => rfl
    | 3, _ => rfl
    | 4, _ => rfl
    | 5, _ => rfl
    | 6, _ => rfl
    | i + 7, hi => omega)
theorem m_P13 {x : Int32} (hb : b ≤ 134) : hP (hm G b M) 4 b 13 (.int x) = some (hm G b (mS M 13 x)) := by
  have h := hm_get (G := G) (M := M) 0 hb (by omega)
  rw [Nat.add_zero] at h
  simp only [hP, h, mc7]
  refine (if_pos ⟨trivial, Nat.le_of_ble_eq_true rfl⟩).trans (congrArg some ?_)
  exact hm_set (M := M) (Q := mS M 13 x) 0 (by omega) (fun i hi hn => by
    match i, hi with
    | 0, _ => exact absurd rfl hn
    | 1, _ => rfl
    | 2, _ => rfl
    | 3, _ => rfl
    | 4, _ => rfl
    | 5, _ => rfl
    | 6, _ => rfl
    | i + 7, hi => omega)
theorem m_PL {x : Int64} (hb : b ≤ 134) : hP (hm G b M) 4 b 15 (.long x) = some (hm G b (mH M x)) := by
  have h := hm_get (G := G) (M := M) 0 hb (by omega)
  rw [Nat.add_zero] at h
  simp only [hP, h, mc7]
  refine (if_pos ⟨trivial, Nat.le_of_ble_eq_true rfl⟩).trans (congrArg some ?_)
  exact hm_set (M := M) (Q := mH M x) 0 (by omega) (fun i hi hn => by
    match i, hi with
    | 0, _ => exact absurd rfl hn
    | 1, _ => rfl
    | 2, _ => rfl
    | 3, _ => rfl
    | 4, _ => rfl
    | 5, _ => rfl
    | 6, _ => rfl
    | i + 7, hi => omega)
