/-! commands: a rail is added -/
theorem RowOK_add {n : Nat} {x1 x2 x3 x4 : Int32} (h1 : ¬ (x1 < roL 0 ∨ roM 0 < x1)) (h2 : ¬ (x2 < roL 1 ∨ roM 1 < x2)) (h3 : ¬ (x3 < roL 2 ∨ roM 2 < x3)) (h4 : x4.toBitVec.toNat < 2 ^ n) : RowOK n (addR x1 x2 x3 x4) := by
  have g : ∀ (x a c : Int32), ¬ (x < a ∨ c < x) → a.toInt ≤ x.toInt ∧ x.toInt ≤ c.toInt := by
    intro x a c h
    have h1 : ¬ x < a := fun hh => h (Or.inl hh)
    have h2 : ¬ c < x := fun hh => h (Or.inr hh)
    rw [Int32.lt_iff_toInt_lt] at h1 h2
    omega
  have c3 : 50 ≤ (90 : Int32).toInt ∧ (90 : Int32).toInt ≤ 100 := by decide
  have c10 : 0 ≤ (0 : Int32).toInt ∧ (0 : Int32).toInt ≤ 5000 := by decide
  exact ⟨g _ _ _ h1, g _ _ _ h2, g _ _ _ h3, c3, h4, Or.inl rfl, c10, c10.1, Or.inl rfl⟩
theorem AZ_add {n : Nat} {P : PV} (h : AZ n P) (x1 x2 x3 x4 : Int32) : AZ (n + 1) (add2 P n x1 x2 x3 x4) := by
  refine ⟨h.1, fun q hq => ?_⟩
  rw [add_row]
  by_cases hqn : q = n
  · subst hqn
    rw [sr_at]
    exact ⟨by show 0 ≤ (0 : Int32).toInt; decide, h.1.1⟩
  · rw [sr_ne _ _ hqn]
    exact h.2 q (by omega)
variable {G : GB} {T : TS}
theorem q_add {n : Nat} (h0 : (T.1.2.2 0).1 0 = nI n) (hn : n < 8) (x1 x2 x3 x4 : Int32) : f_X1_add (HT T) 1 x1 x2 x3 x4 = some (HT (uP T 0 (add2 (T.1.2.2 0) n x1 x2 x3 x4))) := by
  rw [HT0, a_add (by decide) h0 hn, hp0]
