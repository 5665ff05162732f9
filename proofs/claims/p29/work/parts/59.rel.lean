/-! a plant and the model's numbers say the same; a tick keeps it -/
def RowOK (q : Nat) (row : Nat → Int32) : Prop :=
  (100 ≤ (row 0).toInt ∧ (row 0).toInt ≤ 5000) ∧ (1 ≤ (row 1).toInt ∧ (row 1).toInt ≤ 1000) ∧ (1 ≤ (row 2).toInt ∧ (row 2).toInt ≤ 1000) ∧ (50 ≤ (row 3).toInt ∧ (row 3).toInt ≤ 100) ∧ (row 7).toBitVec.toNat < 2 ^ q ∧ st6 (row 9) ∧ (0 ≤ (row 10).toInt ∧ (row 10).toInt ≤ 5000) ∧ 0 ≤ (row 12).toInt ∧ (row 15 = -1 ∨ ∃ k, k ≤ q ∧ row 15 = nI k)
theorem RowOK_upd {q k : Nat} {row : Nat → Int32} (h : RowOK q row) (x : Int32) (h0 : k ≠ 0) (h1 : k ≠ 1) (h2 : k ≠ 2) (h3 : k ≠ 3) (h7 : k ≠ 7) (h9 : k ≠ 9) (h10 : k ≠ 10) (h12 : k ≠ 12) (h15 : k ≠ 15) : RowOK q (upd row k x) := by
  unfold RowOK at *
  rw [upd_n (Ne.symm h0), upd_n (Ne.symm h1), upd_n (Ne.symm h2), upd_n (Ne.symm h3), upd_n (Ne.symm h7), upd_n (Ne.symm h9), upd_n (Ne.symm h10), upd_n (Ne.symm h12), upd_n (Ne.symm h15)]
  exact h
theorem RowOK_9 {q : Nat} {row : Nat → Int32} (h : RowOK q row) {x : Int32} (hx : st6 x) : RowOK q (upd row 9 x) := by
  obtain ⟨a0, a1, a2, a3, a7, a9, a10, a12, a15⟩ := h
  exact ⟨a0, a1, a2, a3, a7, hx, a10, a12, a15⟩
theorem RowOK_10 {q : Nat} {row : Nat → Int32} (h : RowOK q row) {x : Int32} (hx : 0 ≤ x.toInt ∧ x.toInt ≤ 5000) : RowOK q (upd row 10 x) := by
  obtain ⟨a0, a1, a2, a3, a7, a9, a10, a12, a15⟩ := h
  exact ⟨a0, a1, a2, a3, a7, a9, hx, a12, a15⟩
theorem RowOK_12 {q : Nat} {row : Nat → Int32} (h : RowOK q row) {x : Int32} (hx : 0 ≤ x.toInt) : RowOK q (upd row 12 x) := by
  obtain ⟨a0, a1, a2, a3, a7, a9, a10, a12, a15⟩ := h
  exact ⟨a0, a1, a2, a3, a7, a9, a10, hx, a15⟩
theorem RowOK_15 {q : Nat} {row : Nat → Int32} (h : RowOK q row) {x : Int32} (hx : x = -1 ∨ ∃ k, k ≤ q ∧ x = nI k) : RowOK q (upd row 15 x) := by
  obtain ⟨a0, a1, a2, a3, a7, a9, a10, a12, a15⟩ := h
  exact ⟨a0, a1, a2, a3, a7, a9, a10, a12, hx⟩
theorem RowOK_o {q k : Nat} {row : Nat → Int32} (h : RowOK q row) (x : Int32) (hk : k = 13 ∨ k = 14 ∨ k = 16 ∨ k = 17 ∨ k = 18 ∨ k = 19) : RowOK q (upd row k x) := RowOK_upd h x (by omega) (by omega) (by omega) (by omega) (by omega) (by omega) (by omega) (by omega) (by omega)
theorem mvV_ok {g s v : Int32} (hg : 0 ≤ g.toInt ∧ g.toInt ≤ 5000) (hs : 1 ≤ s.toInt ∧ s.toInt ≤ 1000) (hv : 0 ≤ v.toInt ∧ v.toInt ≤ 5000) : 0 ≤ (mvV g s v).toInt ∧ (mvV g s v).toInt ≤ 5000 := by
  have e3 : (v - s).toInt = v.toInt - s.toInt := i_sub (by omega) (by omega)
  have e4 : (v + s).toInt = v.toInt + s.toInt := i_add (by omega) (by omega)
  unfold mvV mmax mmin
  simp only [Int32.le_iff_toInt_le, Int32.lt_iff_toInt_lt, e3, e4]
  split
  · split
    · rw [e3]; omega
    · omega
  · split
    · rw [e4]; omega
    · omega
theorem mvR_ok {q : Nat} {row : Nat → Int32} (h : RowOK q row) : RowOK q (mvR row) := by
  obtain ⟨a0, a1, a2, a3, a7, a9, a10, a12, a15⟩ := h
  refine RowOK_10 ⟨a0, a1, a2, a3, a7, a9, a10, a12, a15⟩ ?_
  split
  · exact mvV_ok (by omega) a1 a10
  · exact mvV_ok (by decide) a2 a10
theorem endR_ok {q : Nat} {row : Nat → Int32} (h : RowOK q row) : RowOK q (endR row) := by
  have h1 : RowOK q (if row 12 ≤ 0 then row else upd row 12 (row 12 - 1)) := by
    split
    · exact h
    · next hn =>
      refine RowOK_12 h ?_
      rw [Int32.le_iff_toInt_le] at hn
      have e0 : (0 : Int32).toInt = 0 := rfl
      have e1 : (1 : Int32).toInt = 1 := rfl
      have := Int32.toInt_lt (row 12)
      rw [i_sub (by omega) (by omega)]
      omega
  unfold endR
  split
  · exact RowOK_o h1 _ (by omega)
  · exact h1
theorem badF_ok (S : Nat → Int32) (V : Nat → Nat → Int32) (nd : Int32) : ∀ m k, badF S V nd k m = -1 ∨ ∃ j, j < k + m ∧ badF S V nd k m = nI j := by
  intro m
  induction m with
  | zero => exact fun k => Or.inl rfl
  | succ m ih =>
    intro k
    unfold badF
    split
    · exact Or.inr ⟨k, by omega, rfl⟩
    · rcases ih (k + 1) with h | ⟨j, h1, h2⟩
      · exact Or.inl h
      · exact Or.inr ⟨j, by omega, h2⟩
theorem failR_ok {q : Nat} {row : Nat → Int32} (h : RowOK q row) : st6 (failR q row).1 ∧ RowOK q (failR q row).2 := by
  unfold failR
  refine ⟨?_, RowOK_o (RowOK_o (RowOK_15 h (Or.inr ⟨q, Nat.le_refl _, rfl⟩)) _ (by omega)) _ (by omega)⟩
  simp only [st6]
  split <;> simp
theorem nsR_ok (wn dis flag rest : Bool) {bad : Int32} {q : Nat} {row : Nat → Int32} (h : RowOK q row) (hb : bad = -1 ∨ ∃ k, k ≤ q ∧ bad = nI k) : st6 (nsR wn dis flag rest bad q row).1 ∧ RowOK q (nsR wn dis flag rest bad q row).2 := by
  have s0 : st6 0 := Or.inl rfl
  have s1 : st6 1 := Or.inr (Or.inl rfl)
  have s2 : st6 2 := Or.inr (Or.inr (Or.inl rfl))
  have s3 : st6 3 := Or.inr (Or.inr (Or.inr (Or.inl rfl)))
  have s4 : st6 4 := Or.inr (Or.inr (Or.inr (Or.inr (Or.inl rfl))))
  have s5 : st6 5 := Or.inr (Or.inr (Or.inr (Or.inr (Or.inr rfl))))
  have o := fun (row : Nat → Int32) (h : RowOK q row) (k : Nat) (x : Int32) (hk : k = 13 ∨ k = 14 ∨ k = 16 ∨ k = 17 ∨ k = 18 ∨ k = 19) => RowOK_o h x hk
  have m1 : (-1 : Int32) = -1 ∨ ∃ k, k ≤ q ∧ (-1 : Int32) = nI k := Or.inl rfl
  unfold nsR
  split
  · split
    · exact ⟨s1, o _ (o _ h _ _ (by omega)) _ _ (by omega)⟩
    · exact ⟨s0, h⟩
  split
  · split
    · split
      · split
        · split
          · exact ⟨s2, o _ (o _ h _ _ (by omega)) _ _ (by omega)⟩
          · exact ⟨s1, o _ h _ _ (by omega)⟩
        · exact ⟨s1, o _ h _ _ (by omega)⟩
      · exact ⟨s1, o _ h _ _ (by omega)⟩
    · exact ⟨s0, h⟩
  split
  · split
    · split
      · split
        · exact ⟨s3, RowOK_15 h m1⟩
        · split
          · exact ⟨s2, o _ h _ _ (by omega)⟩
          · exact failR_ok (o _ h _ _ (by omega))
      · exact ⟨s4, RowOK_15 h hb⟩
    · exact ⟨s4, RowOK_15 h m1⟩
  split
  · split
    · split
      · split
        · exact ⟨s3, h⟩
        · split
          · exact ⟨s4, RowOK_15 h m1⟩
          · exact ⟨s3, h⟩
      · exact failR_ok h
    · exact ⟨s4, RowOK_15 h hb⟩
  split
  · split
    · split
      · exact ⟨s1, o _ h _ _ (by omega)⟩
      · exact ⟨s0, h⟩
    · exact ⟨s4, h⟩
  · split
    · exact ⟨s5, h⟩
    · split
      · exact ⟨s0, h⟩
      · exact ⟨s5, h⟩
theorem becR_ok {q : Nat} {row : Nat → Int32} (h : RowOK q row) {s : Int32} (hs : st6 s) : RowOK q (becR s row) := by
  unfold becR
  split
  · exact RowOK_o (RowOK_9 h hs) _ (by omega)
  · split
    · exact RowOK_o (RowOK_9 h hs) _ (by omega)
    · exact RowOK_9 h hs
theorem lookR_ok {S : Nat → Int32} {V : Nat → Nat → Int32} {w res : Int32} {n r : Nat} (h : RowOK r (V r)) : RowOK r (lookR S V w res n r) := by
  have hb : badR S V r = -1 ∨ ∃ k, k ≤ r ∧ badR S V r = nI k := by
    rcases badF_ok S V (V r 7) r 0 with h | ⟨j, h1, h2⟩
    · exact Or.inl h
    · exact Or.inr ⟨j, by omega, h2⟩
  have t := nsR_ok (tb w r) (!decide (res < V r 10)) (flgR (V r)) (restF S V res r (r + 1) (n - (r + 1))) h hb
  unfold lookR
  split
  · exact t.2
  · exact becR_ok t.2 t.1
theorem tkV_ok {V : Nat → Nat → Int32} {w res : Int32} {n r : Nat} (hr : r < n) (h : RowOK r (V r)) : RowOK r (tkV V w res n r) := by
  rw [tkV_in hr]
  refine endR_ok (lookR_ok ?_)
  rw [rowsF_in hr]
  exact mvR_ok h
variable {G H : GB} {b : Nat}
