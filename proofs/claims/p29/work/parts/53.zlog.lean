/-! the model's log; a rail becomes; what a step does -/
def shZ (z : Nat → Int32) (m : Nat) : Nat → Int32 := fun i => if 4 ≤ i ∧ i < m then z (i + 4) else z i
def puZ (z : Nat → Int32) (n r : Nat) (s : Int32) : Nat → Int32 :=
  upd (upd (upd (upd (upd z (4 + 4 * n) (z 2)) (4 + 4 * n + 1) (nI r)) (4 + 4 * n + 2) s) (4 + 4 * n + 3) (rowZ z r 15)) 3 (nI (n + 1))
def lgZ (z : Nat → Int32) (n r : Nat) (s : Int32) : Nat → Int32 := if n = 16 then puZ (upd (shZ z 64) 3 (nI 15)) 15 r s else puZ z n r s
def LZ (n : Nat) (f z : Nat → Int32) : Prop := z 3 = nI n ∧ ∀ j i, j < n → i < 4 → f (4 * j + i) = z (4 + 4 * (n - 1 - j) + i)
theorem LZ_push {n r : Nat} {f z : Nat → Int32} (hn : n ≤ 15) (h : LZ n f z) (s : Int32) : LZ (n + 1) (logIn f (z 2) (nI r) s (rowZ z r 15)) (puZ z n r s) := by
  refine ⟨upd_s, fun j i hj hi => ?_⟩
  unfold puZ
  rw [upd_n (by omega)]
  by_cases h0 : j = 0
  · subst h0
    unfold logIn
    rcases (show i = 0 ∨ i = 1 ∨ i = 2 ∨ i = 3 by omega) with h1 | h1 | h1 | h1 <;> subst h1
    · rw [upd_n (by omega), upd_n (by omega), upd_n (by omega), if_pos (by omega)]
      exact (if_pos (by omega)).symm
    · rw [upd_n (by omega), upd_n (by omega), if_neg (by omega), if_pos (by omega)]
      exact (if_pos (by omega)).symm
    · rw [upd_n (by omega), if_neg (by omega), if_neg (by omega), if_pos (by omega)]
      exact (if_pos (by omega)).symm
    · rw [if_neg (by omega), if_neg (by omega), if_neg (by omega), if_pos (by omega)]
      exact (if_pos (by omega)).symm
  · have e : logIn f (z 2) (nI r) s (rowZ z r 15) (4 * j + i) = f (4 * (j - 1) + i) := by
      unfold logIn
      rw [if_neg (by omega), if_neg (by omega), if_neg (by omega), if_neg (by omega), if_pos (by omega)]
      congr 1
      omega
    rw [e, h.2 (j - 1) i (by omega) hi, upd_n (by omega), upd_n (by omega), upd_n (by omega), upd_n (by omega)]
    congr 1
    omega
theorem LZ_shift {f z : Nat → Int32} (h : LZ 16 f z) : LZ 15 f (upd (shZ z 64) 3 (nI 15)) := by
  refine ⟨upd_s, fun j i hj hi => ?_⟩
  rw [upd_n (by omega), h.2 j i (by omega) hi]
  unfold shZ
  rw [if_pos (by omega)]
  congr 1
  omega
theorem sh_2 (z : Nat → Int32) : (upd (shZ z 64) 3 (nI 15)) 2 = z 2 := by
  rw [upd_n (by omega)]
  rfl
theorem sh_hi (z : Nat → Int32) {i : Nat} (h : 68 ≤ i) : (upd (shZ z 64) 3 (nI 15)) i = z i := by
  rw [upd_n (by omega)]
  exact if_neg (by omega)
theorem row_hi {z z' : Nat → Int32} (h : ∀ i, 68 ≤ i → z' i = z i) : rowZ z' = rowZ z := by
  funext q j
  by_cases hj : j = 8 ∨ 20 ≤ j
  · rw [rz_out hj, rz_out hj]
  · rw [rz_in hj, rz_in hj, h _ (by omega)]
theorem pu_hi (z : Nat → Int32) {n r i : Nat} (s : Int32) (hn : n ≤ 15) (h : 68 ≤ i ∨ i < 3) : puZ z n r s i = z i := by
  unfold puZ
  rw [upd_n (by omega), upd_n (by omega), upd_n (by omega), upd_n (by omega), upd_n (by omega)]
theorem lg_hi (z : Nat → Int32) {n r i : Nat} (s : Int32) (hn : n ≤ 16) (h : 68 ≤ i ∨ i < 3) : lgZ z n r s i = z i := by
  unfold lgZ
  by_cases h16 : n = 16
  · rw [if_pos h16, pu_hi _ _ (by omega) h, upd_n (by omega)]
    exact if_neg (by omega)
  · rw [if_neg h16, pu_hi _ _ (by omega) h]
variable {G : GB} {b : Nat}
theorem sh_step (z : Nat → Int32) {k : Nat} (h4 : 4 ≤ k) : upd (shZ z k) k (shZ z k (4 + k)) = shZ z (k + 1) := by
  funext i
  unfold upd shZ
  by_cases h : i = k
  · subst h
    rw [if_pos rfl, if_neg (by omega), if_pos (by omega), Nat.add_comm]
  · rw [if_neg h]
    by_cases h2 : 4 ≤ i ∧ i < k
    · rw [if_pos h2, if_pos (by omega)]
    · rw [if_neg h2, if_neg (by omega)]
theorem sh_4 (z : Nat → Int32) : shZ z 4 = z := by
  funext i
  exact if_neg (by omega)
/-- the mask of rails that fell, after an entry -/
def falE (f : Int32) (e : Int32 × Int32 × Int32) : Int32 := f ||| (if e.2.1 < 4 then 0 else (1 : Int32) <<< (e.1 &&& 31))
