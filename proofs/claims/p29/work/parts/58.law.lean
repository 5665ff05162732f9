/-! the law's five rows: pr at 133; st, ac, lg, d at c, c + 1, c + 2, c + 3 (c = 134: its own; later: copies) -/
abbrev LX : Type := Nat → Nat → Int32
def lx (X : LX) (k : Nat) : MC := match k with
  | 0 => .inl (0, 42, .inl (X 0))
  | 1 => .inl (0, 54, .inl (X 1))
  | 2 => .inl (0, 24, .inl (X 2))
  | 3 => .inl (0, 64, .inl (X 3))
  | _ => .inl (0, 6, .inl (X 4))
def lwG (G : GB) (c : Nat) (X : LX) : GB := (G.1, fun i => if i = 133 then lx X 0 else if c ≤ i ∧ i < c + 4 then lx X (i - c + 1) else G.2 i)
def hl (G : GB) (c : Nat) (X : LX) : MH := hh (lwG G c X)
def ux (X : LX) (k i : Nat) (x : Int32) : LX := fun j => if j = k then upd (X k) i x else X j
def CK (G : GB) (c : Nat) : Prop := 134 ≤ c ∧ c + 4 ≤ 138 + G.1
theorem ux_s {X : LX} {k i : Nat} {x : Int32} : ux X k i x k = upd (X k) i x := if_pos rfl
theorem ux_n {X : LX} {k j i : Nat} {x : Int32} (h : j ≠ k) : ux X k i x j = X j := if_neg h
variable {G : GB} {c : Nat} {X : LX}
theorem hl_get0 (hc : CK G c) : (hl G c X)[133]? = some (lx X 0) := by
  unfold hl
  obtain ⟨h1, h2⟩ := hc
  rw [hh_get (G := lwG G c X) (show 133 < 138 + G.1 by omega)]
  rfl
theorem hl_get (k : Nat) (hc : CK G c) (hk : k < 4) : (hl G c X)[c + k]? = some (lx X (k + 1)) := by
  unfold hl
  obtain ⟨h1, h2⟩ := hc
  rw [hh_get (G := lwG G c X) (show c + k < 138 + G.1 by omega)]
  show some (if c + k = 133 then lx X 0 else if c ≤ c + k ∧ c + k < c + 4 then lx X (c + k - c + 1) else G.2 (c + k)) = _
  rw [if_neg (by omega), if_pos (by omega), Nat.add_sub_cancel_left]
theorem hl_set0 {Y : LX} (hc : CK G c) (h : ∀ j, j < 5 → j ≠ 0 → lx X j = lx Y j) : (hl G c X).set 133 (lx Y 0) = hl G c Y := by
  obtain ⟨h1, h2⟩ := hc
  unfold hl
  rw [hh_set]
  refine congrArg hh (Prod.ext rfl (funext fun i => ?_))
  show (if i = 133 then lx Y 0 else if i = 133 then lx X 0 else if c ≤ i ∧ i < c + 4 then lx X (i - c + 1) else G.2 i) = (if i = 133 then lx Y 0 else if c ≤ i ∧ i < c + 4 then lx Y (i - c + 1) else G.2 i)
  by_cases hi : i = 133
  · rw [if_pos hi, if_pos hi]
  · rw [if_neg hi, if_neg hi, if_neg hi]
    by_cases hb : c ≤ i ∧ i < c + 4
    · rw [if_pos hb, if_pos hb]
      exact h _ (by omega) (by omega)
    · rw [if_neg hb, if_neg hb]
theorem hl_set {Y : LX} (k : Nat) (hc : CK G c) (hk : k < 4) (h : ∀ j, j < 5 → j ≠ k + 1 → lx X j = lx Y j) : (hl G c X).set (c + k) (lx Y (k + 1)) = hl G c Y := by
  obtain ⟨h1, h2⟩ := hc
  unfold hl
  rw [hh_set]
  refine congrArg hh (Prod.ext rfl (funext fun i => ?_))
  show (if i = c + k then lx Y (k + 1) else if i = 133 then lx X 0 else if c ≤ i ∧ i < c + 4 then lx X (i - c + 1) else G.2 i) = (if i = 133 then lx Y 0 else if c ≤ i ∧ i < c + 4 then lx Y (i - c + 1) else G.2 i)
  by_cases hi : i = 133
  · rw [if_neg (by omega), if_pos hi, if_pos hi]
    exact h 0 (by omega) (by omega)
  · rw [if_neg hi, if_neg hi]
    by_cases hb : c ≤ i ∧ i < c + 4
    · rw [if_pos hb, if_pos hb]
      by_cases hk2 : i = c + k
      · rw [if_pos hk2, hk2, Nat.add_sub_cancel_left]
      · rw [if_neg hk2]
        exact h _ (by omega) (by omega)
    · rw [if_neg (by omega), if_neg hb, if_neg hb]
theorem l_C0 (hc : CK G c) : aC (hl G c X) 0 133 = some (42, .inl (X 0)) := by
  have hg := hl_get0 (X := X) hc
  simp only [aC, hg, lx]
  rfl
theorem l_a0 {j : Int32} (hc : CK G c) : aI (hl G c X) 133 j = bd 42 j (X 0) := by
  simp only [aI, l_C0 hc]
  rfl
theorem l_s0 {j x : Int32} (hc : CK G c) : sI (hl G c X) 133 j x = bd 42 j (fun i => hl G c (ux X 0 i x)) := by
  simp only [sI, l_C0 hc, bd]
  split
  · rfl
  · congr 1
    exact hl_set0 (Y := ux X 0 _ x)  hc  (fun i hi hn => by
      match i, hi with
      | 0, _ => exact absurd rfl hn
      | 1, _ => rfl
      | 2, _ => rfl
      | 3, _ => rfl
      | 4, _ => rfl
      | i + 5, hi => omega)
theorem l_C1 (hc : CK G c) : aC (hl G c X) 0 c = some (54, .inl (X 1)) := by
  have hg := hl_get (X := X) 0 hc (by decide)
  rw [Nat.add_zero] at hg
  simp only [aC, hg, lx]
  rfl
theorem l_a1 {j : Int32} (hc : CK G c) : aI (hl G c X) c j = bd 54 j (X 1) := by
  simp only [aI, l_C1 hc]
  rfl
theorem l_s1 {j x : Int32} (hc : CK G c) : sI (hl G c X) c j x = bd 54 j (fun i => hl G c (ux X 1 i x)) := by
  simp only [sI, l_C1 hc, bd]
  split
  · rfl
  · congr 1
    exact hl_set (Y := ux X 1 _ x) 0 hc (by decide) (fun i hi hn => by
      match i, hi with
      | 0, _ => rfl
      | 1, _ => exact absurd rfl hn
      | 2, _ => rfl
      | 3, _ => rfl
      | 4, _ => rfl
      | i + 5, hi => omega)
theorem l_C2 (hc : CK G c) : aC (hl G c X) 0 (c + 1) = some (24, .inl (X 2)) := by
  have hg := hl_get (X := X) 1 hc (by decide)
  simp only [aC, hg, lx]
  rfl
theorem l_a2 {j : Int32} (hc : CK G c) : aI (hl G c X) (c + 1) j = bd 24 j (X 2) := by
  simp only [aI, l_C2 hc]
  rfl
theorem l_s2 {j x : Int32} (hc : CK G c) : sI (hl G c X) (c + 1) j x = bd 24 j (fun i => hl G c (ux X 2 i x)) := by
  simp only [sI, l_C2 hc, bd]
  split
  · rfl
  · congr 1
    exact hl_set (Y := ux X 2 _ x) 1 hc (by decide) (fun i hi hn => by
      match i, hi with
      | 0, _ => rfl
      | 1, _ => rfl
      | 2, _ => exact absurd rfl hn
      | 3, _ => rfl
      | 4, _ => rfl
      | i + 5, hi => omega)
theorem l_C3 (hc : CK G c) : aC (hl G c X) 0 (c + 2) = some (64, .inl (X 3)) := by
  have hg := hl_get (X := X) 2 hc (by decide)
  simp only [aC, hg, lx]
  rfl
theorem l_a3 {j : Int32} (hc : CK G c) : aI (hl G c X) (c + 2) j = bd 64 j (X 3) := by
  simp only [aI, l_C3 hc]
  rfl
theorem l_s3 {j x : Int32} (hc : CK G c) : sI (hl G c X) (c + 2) j x = bd 64 j (fun i => hl G c (ux X 3 i x)) := by
  simp only [sI, l_C3 hc, bd]
  split
  · rfl
  · congr 1
    exact hl_set (Y := ux X 3 _ x) 2 hc (by decide) (fun i hi hn => by
      match i, hi with
      | 0, _ => rfl
      | 1, _ => rfl
      | 2, _ => rfl
      | 3, _ => exact absurd rfl hn
      | 4, _ => rfl
      | i + 5, hi => omega)
theorem l_C4 (hc : CK G c) : aC (hl G c X) 0 (c + 3) = some (6, .inl (X 4)) := by
  have hg := hl_get (X := X) 3 hc (by decide)
  simp only [aC, hg, lx]
  rfl
theorem l_a4 {j : Int32} (hc : CK G c) : aI (hl G c X) (c + 3) j = bd 6 j (X 4) := by
  simp only [aI, l_C4 hc]
  rfl
theorem l_s4 {j x : Int32} (hc : CK G c) : sI (hl G c X) (c + 3) j x = bd 6 j (fun i => hl G c (ux X 4 i x)) := by
  simp only [sI, l_C4 hc, bd]
  split
  · rfl
  · congr 1
    exact hl_set (Y := ux X 4 _ x) 3 hc (by decide) (fun i hi hn => by
      match i, hi with
      | 0, _ => rfl
      | 1, _ => rfl
      | 2, _ => rfl
      | 3, _ => rfl
      | 4, _ => exact absurd rfl hn
      | i + 5, hi => omega)
/-- the law's rows in the whole -/
def uL (T : TS) (c : Nat) (X : LX) : TS := (T.1, T.2.1, T.2.2.1, fun i => if i = 133 then lx X 0 else if c ≤ i ∧ i < c + 4 then lx X (i - c + 1) else T.2.2.2 i)
theorem HT_uL (T : TS) {c : Nat} (hc : 134 ≤ c) (X : LX) : HT (uL T c X) = hl (gT T) c X := by
  unfold HT hl
  refine congrArg hh (Prod.ext rfl (funext fun i => ?_))
  unfold gT uL lwG
  dsimp only
  by_cases h : i < 133
  · have e1 : ¬ i = 133 := by omega
    have e2 : ¬ (c ≤ i ∧ i < c + 4) := by omega
    simp only [if_neg e1, if_neg e2, if_pos h]
  · have h0 : ¬ i = 0 := by omega
    have h1 : ¬ i < 33 := by omega
    have h2 : ¬ i = 33 := by omega
    have h3 : ¬ i = 34 := by omega
    have h4 : ¬ i = 35 := by omega
    have h5 : ¬ i = 36 := by omega
    simp only [if_neg h0, if_neg h1, if_neg h2, if_neg h3, if_neg h4, if_neg h5, if_neg h]
theorem uL_uP (T : TS) (c : Nat) (X : LX) (j : Nat) (P : PV) : uP (uL T c X) j P = uL (uP T j P) c X := rfl
theorem uL_uL (T : TS) (c : Nat) (X Y : LX) : uL (uL T c X) c Y = uL T c Y := by
  refine Prod.ext rfl (Prod.ext rfl (Prod.ext rfl (funext fun i => ?_)))
  show (if i = 133 then lx Y 0 else if c ≤ i ∧ i < c + 4 then lx Y (i - c + 1) else if i = 133 then lx X 0 else if c ≤ i ∧ i < c + 4 then lx X (i - c + 1) else T.2.2.2 i) = (if i = 133 then lx Y 0 else if c ≤ i ∧ i < c + 4 then lx Y (i - c + 1) else T.2.2.2 i)
  by_cases h : i = 133
  · rw [if_pos h, if_pos h]
  · rw [if_neg h, if_neg h, if_neg h]
    split <;> rfl
