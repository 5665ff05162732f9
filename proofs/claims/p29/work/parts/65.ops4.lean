/-! commands: set a property -/
theorem rA_nI {n p : Nat} {f : Nat → Int32} (hp : p < n) (hn : n < 2 ^ 31) : rA n f (nI p) = some (f p) := by
  unfold rA
  rw [nI_clamp (by omega), if_neg]
  simp only [nI_pos (show p < 2 ^ 31 by omega), false_or]
  omega
theorem c_range (h : MH) {p : Nat} (hp : p < 7) (x : Int32) : f_X3_isInRange h (nI p) x = some (if x < roL p ∨ roM p < x then 0 else 1) := by
  simp only [f_X3_isInRange, b_X3_isInRange_22, b_X3_isInRange_23, rA_nI hp (by decide), Option.bind_some, i11, i01]
  by_cases h1 : x < roL p
  · simp only [h1, if_true, true_or]
  · by_cases h2 : roM p < x <;> simp only [h1, h2, if_true, if_false, or_true, or_self]
theorem rw_p (P : PV) (r : Nat) {p : Nat} (hp : p < 7) (x : Int32) : rowP (wA P 4 (r * 7 + p) x) = setRow (rowP P) r (upd (rowP P r) p x) := by
  match p, hp with
  | 0, _ => exact rw_0 P r x
  | 1, _ => exact rw_1 P r x
  | 2, _ => exact rw_2 P r x
  | 3, _ => exact rw_3 P r x
  | 4, _ => exact rw_4 P r x
  | 5, _ => exact rw_5 P r x
  | 6, _ => exact rw_6 P r x
theorem rd_p (P : PV) (r : Nat) {p : Nat} (hp : p < 7) : rowP P r p = P.2 4 (r * 7 + p) := by
  match p, hp with
  | 0, _ => rfl
  | 1, _ => rfl
  | 2, _ => rfl
  | 3, _ => rfl
  | 4, _ => rfl
  | 5, _ => rfl
  | 6, _ => rfl
theorem RowOK_p {q p : Nat} {row : Nat → Int32} (h : RowOK q row) (hp : p < 7) {x : Int32} (hx : ¬ (x < roL p ∨ roM p < x)) : RowOK q (upd row p x) := by
  obtain ⟨a0, a1, a2, a3, a7, a9, a10, a12, a15⟩ := h
  have h1 : ¬ x < roL p := fun hh => hx (Or.inl hh)
  have h2 : ¬ roM p < x := fun hh => hx (Or.inr hh)
  rw [Int32.lt_iff_toInt_lt] at h1 h2
  match p, hp with
  | 0, _ => exact ⟨by change ¬ x.toInt < 100 at h1; change ¬ 5000 < x.toInt at h2; rw [upd_s]; omega, a1, a2, a3, a7, a9, a10, a12, a15⟩
  | 1, _ => exact ⟨a0, by change ¬ x.toInt < 1 at h1; change ¬ 1000 < x.toInt at h2; rw [upd_s]; omega, a2, a3, a7, a9, a10, a12, a15⟩
  | 2, _ => exact ⟨a0, a1, by change ¬ x.toInt < 1 at h1; change ¬ 1000 < x.toInt at h2; rw [upd_s]; omega, a3, a7, a9, a10, a12, a15⟩
  | 3, _ => exact ⟨a0, a1, a2, by change ¬ x.toInt < 50 at h1; change ¬ 100 < x.toInt at h2; rw [upd_s]; omega, a7, a9, a10, a12, a15⟩
  | 4, _ => exact ⟨a0, a1, a2, a3, a7, a9, a10, a12, a15⟩
  | 5, _ => exact ⟨a0, a1, a2, a3, a7, a9, a10, a12, a15⟩
  | 6, _ => exact ⟨a0, a1, a2, a3, a7, a9, a10, a12, a15⟩
variable {G : GB} {b : Nat} {T : TS}
