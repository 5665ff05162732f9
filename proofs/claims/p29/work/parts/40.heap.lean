/-! the small heap: 138 cells (the class's 133, the law's five rows) and what is made later, as a function; a plant at b: 16 cells -/
abbrev GB : Type := Nat × (Nat → MC)
def hh (G : GB) : MH := (List.range (138 + G.1)).map G.2
theorem hh_get {G : GB} {i : Nat} (hi : i < 138 + G.1) : (hh G)[i]? = some (G.2 i) := by
  simp [hh, List.getElem?_range hi]
theorem hh_len {G : GB} : (hh G).length = 138 + G.1 := by simp [hh]
def upC (G : GB) (i : Nat) (c : MC) : GB := (G.1, fun j => if j = i then c else G.2 j)
theorem hh_set {G : GB} {i : Nat} {c : MC} : (hh G).set i c = hh (upC G i c) := by
  apply List.ext_getElem?
  intro j
  by_cases hj : j < 138 + G.1
  · rw [hh_get (G := upC G i c) hj, List.getElem?_set]
    by_cases hij : i = j
    · subst hij
      simp [hh_len, hj, upC]
    · rw [if_neg hij, hh_get hj]
      simp [upC, Ne.symm hij]
  · have h1 : ¬ j < ((hh G).set i c).length := by rw [List.length_set, hh_len]; exact hj
    have h2 : ¬ j < (hh (upC G i c)).length := by rw [hh_len]; exact hj
    rw [List.getElem?_eq_none (Nat.not_lt.mp h1), List.getElem?_eq_none (Nat.not_lt.mp h2)]
/-- scalars (0..3 the plant's, 4 the log's length), arrays (by the field's number; 14: the log's numbers) -/
abbrev PV : Type := (Nat → Int32) × (Nat → Nat → Int32)
def pc_ (b : Nat) (P : PV) (k : Nat) : MC := match k with
  | 0 => .inr (1, [.int (P.1 0), .int (P.1 1), .int (P.1 2), .int (P.1 3), .ref (b + 1), .ref (b + 2), .ref (b + 3), .ref (b + 4), .ref (b + 5), .ref (b + 6), .ref (b + 7), .ref (b + 8), .ref (b + 9), .ref (b + 10), .ref (b + 11), .ref (b + 13), .ref (b + 14), .ref (b + 15)])
  | 11 => .inr (0, [.ref (b + 12), .int (P.1 4)])
  | 1 => .inl (0, 56, .inl (P.2 4))
  | 2 => .inl (0, 8, .inl (P.2 5))
  | 3 => .inl (0, 8, .inl (P.2 6))
  | 4 => .inl (0, 8, .inl (P.2 7))
  | 5 => .inl (0, 8, .inl (P.2 8))
  | 6 => .inl (0, 8, .inl (P.2 9))
  | 7 => .inl (0, 8, .inl (P.2 10))
  | 8 => .inl (0, 8, .inl (P.2 11))
  | 9 => .inl (0, 8, .inl (P.2 12))
  | 10 => .inl (0, 32, .inl (P.2 13))
  | 12 => .inl (0, 64, .inl (P.2 14))
  | 13 => .inl (0, 8, .inl (P.2 15))
  | 14 => .inl (0, 8, .inl (P.2 16))
  | _ => .inl (0, 8, .inl (P.2 17))
def pw (G : GB) (b : Nat) (P : PV) : GB := (G.1, fun i => if b ≤ i ∧ i < b + 16 then pc_ b P (i - b) else G.2 i)
/-- the heap with the plant P at b -/
def hp (G : GB) (b : Nat) (P : PV) : MH := hh (pw G b P)
theorem pw_at {G : GB} {b : Nat} {P : PV} {k : Nat} (hk : k < 16) : (pw G b P).2 (b + k) = pc_ b P k := by
  unfold pw
  dsimp only
  rw [if_pos ⟨Nat.le_add_right _ _, by omega⟩, Nat.add_sub_cancel_left]
theorem pw_ne {G : GB} {b : Nat} {P : PV} {i : Nat} (h : i < b ∨ b + 16 ≤ i) : (pw G b P).2 i = G.2 i := by
  unfold pw
  dsimp only
  rw [if_neg (by omega)]
theorem pw_pw {G : GB} {b : Nat} {P Q : PV} : pw (pw G b P) b Q = pw G b Q := by
  refine Prod.ext rfl (funext fun i => ?_)
  unfold pw
  dsimp only
  split <;> rfl
theorem hp_get {G : GB} {b : Nat} {P : PV} (k : Nat) (hb : b ≤ 122) (hk : k < 16) : (hp G b P)[b + k]? = some (pc_ b P k) := by
  unfold hp
  rw [hh_get (G := pw G b P) (show b + k < 138 + G.1 by omega), pw_at hk]
theorem hp_set {G : GB} {b : Nat} {P Q : PV} (k : Nat) (hk : k < 16) (h : ∀ j, j < 16 → j ≠ k → pc_ b P j = pc_ b Q j) : (hp G b P).set (b + k) (pc_ b Q k) = hp G b Q := by
  unfold hp
  rw [hh_set]
  refine congrArg hh (Prod.ext rfl (funext fun i => ?_))
  show (if i = b + k then pc_ b Q k else (pw G b P).2 i) = (pw G b Q).2 i
  by_cases hi : i = b + k
  · subst hi
    rw [if_pos rfl, pw_at hk]
  · rw [if_neg hi]
    by_cases hb : b ≤ i ∧ i < b + 16
    · show (if b ≤ i ∧ i < b + 16 then pc_ b P (i - b) else G.2 i) = (if b ≤ i ∧ i < b + 16 then pc_ b Q (i - b) else G.2 i)
      rw [if_pos hb, if_pos hb]
      exact h (i - b) (by omega) (by omega)
    · rw [pw_ne (by omega), pw_ne (by omega)]
