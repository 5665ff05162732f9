/-! the model looks at a rail -/
def lkR (s9 : Int32) (x : Int32 × (Nat → Int32)) : Nat → Int32 := if x.1 = s9 then x.2 else becR x.1 x.2
def lkE (s9 : Int32) (r : Nat) (x : Int32 × (Nat → Int32)) : List (Int32 × Int32 × Int32) := if x.1 = s9 then [] else [(nI r, x.1, x.2 15)]
def st6 (x : Int32) : Prop := x = 0 ∨ x = 1 ∨ x = 2 ∨ x = 3 ∨ x = 4 ∨ x = 5
variable {G : GB} {b : Nat}
theorem upd_comm (f : Nat → Int32) {i j : Nat} (h : i ≠ j) (x y : Int32) : upd (upd f i x) j y = upd (upd f j y) i x := by
  funext k
  by_cases h1 : k = i
  · subst h1
    rw [upd_n h, upd_s, upd_s]
  · by_cases h2 : k = j
    · subst h2
      rw [upd_s, upd_n h1, upd_s]
    · rw [upd_n h2, upd_n h1, upd_n h1, upd_n h2]
theorem upd_upd (f : Nat → Int32) (i : Nat) (x y : Int32) : upd (upd f i x) i y = upd f i y := by
  funext k
  by_cases h1 : k = i
  · subst h1
    rw [upd_s, upd_s]
  · rw [upd_n h1, upd_n h1, upd_n h1]
theorem upd_self (f : Nat → Int32) (i : Nat) : upd f i (f i) = f := by
  funext k
  by_cases h1 : k = i
  · subst h1
    rw [upd_s]
  · rw [upd_n h1]
