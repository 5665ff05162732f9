/-! the law's numbers of a rail, as a row of twenty (the wanted bit apart) -/
def rowX (X : LX) (r k : Nat) : Int32 := match k with
  | 0 => X 0 (7 * r)
  | 1 => X 0 (7 * r + 1)
  | 2 => X 0 (7 * r + 2)
  | 3 => X 0 (7 * r + 3)
  | 4 => X 0 (7 * r + 4)
  | 5 => X 0 (7 * r + 5)
  | 6 => X 0 (7 * r + 6)
  | 7 => X 1 (9 * r)
  | 9 => X 1 (9 * r + 2)
  | 10 => X 1 (9 * r + 3)
  | 11 => X 1 (9 * r + 4)
  | 12 => X 1 (9 * r + 5)
  | 13 => X 1 (9 * r + 6)
  | 14 => X 1 (9 * r + 7)
  | 15 => X 1 (9 * r + 8)
  | 16 => X 2 (4 * r)
  | 17 => X 2 (4 * r + 1)
  | 18 => X 2 (4 * r + 2)
  | 19 => X 2 (4 * r + 3)
  | _ => 0
def wnX (X : LX) (w : Int32) (n : Nat) : Prop := ∀ q, q < n → X 1 (9 * q + 1) = if tb w q = true then 1 else 0
theorem qx_0 (X : LX) (r : Nat) (x : Int32) : rowX (ux X 0 (7 * r) x) = setRow (rowX X) r (upd (rowX X r) 0 x) := by
  funext r' k
  by_cases h : r' = r
  · subst h
    match k with
    | 0 => simp [rowX, setRow, ux, upd]
    | 1 => simp [rowX, setRow, ux, upd]
    | 2 => simp [rowX, setRow, ux, upd]
    | 3 => simp [rowX, setRow, ux, upd]
    | 4 => simp [rowX, setRow, ux, upd]
    | 5 => simp [rowX, setRow, ux, upd]
    | 6 => simp [rowX, setRow, ux, upd]
    | 7 => simp [rowX, setRow, ux, upd]
    | 8 => simp [rowX, setRow, ux, upd]
    | 9 => simp [rowX, setRow, ux, upd]
    | 10 => simp [rowX, setRow, ux, upd]
    | 11 => simp [rowX, setRow, ux, upd]
    | 12 => simp [rowX, setRow, ux, upd]
    | 13 => simp [rowX, setRow, ux, upd]
    | 14 => simp [rowX, setRow, ux, upd]
    | 15 => simp [rowX, setRow, ux, upd]
    | 16 => simp [rowX, setRow, ux, upd]
    | 17 => simp [rowX, setRow, ux, upd]
    | 18 => simp [rowX, setRow, ux, upd]
    | 19 => simp [rowX, setRow, ux, upd]
    | k + 20 => simp [rowX, setRow, upd]
  · match k with
    | 0 => (simp [rowX, setRow, ux, upd, h]; try (intro h2; exfalso; omega))
    | 1 => (simp [rowX, setRow, ux, upd, h]; try (intro h2; exfalso; omega))
    | 2 => (simp [rowX, setRow, ux, upd, h]; try (intro h2; exfalso; omega))
    | 3 => (simp [rowX, setRow, ux, upd, h]; try (intro h2; exfalso; omega))
    | 4 => (simp [rowX, setRow, ux, upd, h]; try (intro h2; exfalso; omega))
    | 5 => (simp [rowX, setRow, ux, upd, h]; try (intro h2; exfalso; omega))
    | 6 => (simp [rowX, setRow, ux, upd, h]; try (intro h2; exfalso; omega))
    | 7 => simp [rowX, setRow, ux, upd, h]
    | 8 => simp [rowX, setRow, ux, upd, h]
    | 9 => simp [rowX, setRow, ux, upd, h]
    | 10 => simp [rowX, setRow, ux, upd, h]
    | 11 => simp [rowX, setRow, ux, upd, h]
    | 12 => simp [rowX, setRow, ux, upd, h]
    | 13 => simp [rowX, setRow, ux, upd, h]
    | 14 => simp [rowX, setRow, ux, upd, h]
    | 15 => simp [rowX, setRow, ux, upd, h]
    | 16 => simp [rowX, setRow, ux, upd, h]
    | 17 => simp [rowX, setRow, ux, upd, h]
    | 18 => simp [rowX, setRow, ux, upd, h]
    | 19 => simp [rowX, setRow, ux, upd, h]
    | k + 20 => simp [rowX, setRow, h]
theorem qx_1 (X : LX) (r : Nat) (x : Int32) : rowX (ux X 0 (7 * r + 1) x) = setRow (rowX X) r (upd (rowX X r) 1 x) := by
  funext r' k
  by_cases h : r' = r
  · subst h
    match k with
    | 0 => simp [rowX, setRow, ux, upd]
    | 1 => simp [rowX, setRow, ux, upd]
    | 2 => simp [rowX, setRow, ux, upd]
    | 3 => simp [rowX, setRow, ux, upd]
    | 4 => simp [rowX, setRow, ux, upd]
    | 5 => simp [rowX, setRow, ux, upd]
    | 6 => simp [rowX, setRow, ux, upd]
    | 7 => simp [rowX, setRow, ux, upd]
    | 8 => simp [rowX, setRow, ux, upd]
    | 9 => simp [rowX, setRow, ux, upd]
    | 10 => simp [rowX, setRow, ux, upd]
    | 11 => simp [rowX, setRow, ux, upd]
    | 12 => simp [rowX, setRow, ux, upd]
    | 13 => simp [rowX, setRow, ux, upd]
    | 14 => simp [rowX, setRow, ux, upd]
    | 15 => simp [rowX, setRow, ux, upd]
    | 16 => simp [rowX, setRow, ux, upd]
    | 17 => simp [rowX, setRow, ux, upd]
    | 18 => simp [rowX, setRow, ux, upd]
    | 19 => simp [rowX, setRow, ux, upd]
    | k + 20 => simp [rowX, setRow, upd]
  · match k with
    | 0 => (simp [rowX, setRow, ux, upd, h]; try (intro h2; exfalso; omega))
    | 1 => (simp [rowX, setRow, ux, upd, h]; try (intro h2; exfalso; omega))
    | 2 => (simp [rowX, setRow, ux, upd, h]; try (intro h2; exfalso; omega))
    | 3 => (simp [rowX, setRow, ux, upd, h]; try (intro h2; exfalso; omega))
    | 4 => (simp [rowX, setRow, ux, upd, h]; try (intro h2; exfalso; omega))
    | 5 => (simp [rowX, setRow, ux, upd, h]; try (intro h2; exfalso; omega))
    | 6 => (simp [rowX, setRow, ux, upd, h]; try (intro h2; exfalso; omega))
    | 7 => simp [rowX, setRow, ux, upd, h]
    | 8 => simp [rowX, setRow, ux, upd, h]
    | 9 => simp [rowX, setRow, ux, upd, h]
    | 10 => simp [rowX, setRow, ux, upd, h]
    | 11 => simp [rowX, setRow, ux, upd, h]
    | 12 => simp [rowX, setRow, ux, upd, h]
    | 13 => simp [rowX, setRow, ux, upd, h]
    | 14 => simp [rowX, setRow, ux, upd, h]
    | 15 => simp [rowX, setRow, ux, upd, h]
    | 16 => simp [rowX, setRow, ux, upd, h]
    | 17 => simp [rowX, setRow, ux, upd, h]
    | 18 => simp [rowX, setRow, ux, upd, h]
    | 19 => simp [rowX, setRow, ux, upd, h]
    | k + 20 => simp [rowX, setRow, h]
theorem qx_2 (X : LX) (r : Nat) (x : Int32) : rowX (ux X 0 (7 * r + 2) x) = setRow (rowX X) r (upd (rowX X r) 2 x) := by
  funext r' k
  by_cases h : r' = r
  · subst h
    match k with
    | 0 => simp [rowX, setRow, ux, upd]
    | 1 => simp [rowX, setRow, ux, upd]
    | 2 => simp [rowX, setRow, ux, upd]
    | 3 => simp [rowX, setRow, ux, upd]
    | 4 => simp [rowX, setRow, ux, upd]
    | 5 => simp [rowX, setRow, ux, upd]
    | 6 => simp [rowX, setRow, ux, upd]
    | 7 => simp [rowX, setRow, ux, upd]
    | 8 => simp [rowX, setRow, ux, upd]
    | 9 => simp [rowX, setRow, ux, upd]
    | 10 => simp [rowX, setRow, ux, upd]
    | 11 => simp [rowX, setRow, ux, upd]
    | 12 => simp [rowX, setRow, ux, upd]
    | 13 => simp [rowX, setRow, ux, upd]
    | 14 => simp [rowX, setRow, ux, upd]
    | 15 => simp [rowX, setRow, ux, upd]
    | 16 => simp [rowX, setRow, ux, upd]
    | 17 => simp [rowX, setRow, ux, upd]
    | 18 => simp [rowX, setRow, ux, upd]
    | 19 => simp [rowX, setRow, ux, upd]
    | k + 20 => simp [rowX, setRow, upd]
  · match k with
    | 0 => (simp [rowX, setRow, ux, upd, h]; try (intro h2; exfalso; omega))
    | 1 => (simp [rowX, setRow, ux, upd, h]; try (intro h2; exfalso; omega))
    | 2 => (simp [rowX, setRow, ux, upd, h]; try (intro h2; exfalso; omega))
    | 3 => (simp [rowX, setRow, ux, upd, h]; try (intro h2; exfalso; omega))
    | 4 => (simp [rowX, setRow, ux, upd, h]; try (intro h2; exfalso; omega))
    | 5 => (simp [rowX, setRow, ux, upd, h]; try (intro h2; exfalso; omega))
    | 6 => (simp [rowX, setRow, ux, upd, h]; try (intro h2; exfalso; omega))
    | 7 => simp [rowX, setRow, ux, upd, h]
    | 8 => simp [rowX, setRow, ux, upd, h]
    | 9 => simp [rowX, setRow, ux, upd, h]
    | 10 => simp [rowX, setRow, ux, upd, h]
    | 11 => simp [rowX, setRow, ux, upd, h]
    | 12 => simp [rowX, setRow, ux, upd, h]
    | 13 => simp [rowX, setRow, ux, upd, h]
    | 14 => simp [rowX, setRow, ux, upd, h]
    | 15 => simp [rowX, setRow, ux, upd, h]
    | 16 => simp [rowX, setRow, ux, upd, h]
    | 17 => simp [rowX, setRow, ux, upd, h]
    | 18 => simp [rowX, setRow, ux, upd, h]
    | 19 => simp [rowX, setRow, ux, upd, h]
    | k + 20 => simp [rowX, setRow, h]
theorem qx_3 (X : LX) (r : Nat) (x : Int32) : rowX (ux X 0 (7 * r + 3) x) = setRow (rowX X) r (upd (rowX X r) 3 x) := by
  funext r' k
  by_cases h : r' = r
  · subst h
    match k with
    | 0 => simp [rowX, setRow, ux, upd]
    | 1 => simp [rowX, setRow, ux, upd]
    | 2 => simp [rowX, setRow, ux, upd]
    | 3 => simp [rowX, setRow, ux, upd]
    | 4 => simp [rowX, setRow, ux, upd]
    | 5 => simp [rowX, setRow, ux, upd]
    | 6 => simp [rowX, setRow, ux, upd]
    | 7 => simp [rowX, setRow, ux, upd]
    | 8 => simp [rowX, setRow, ux, upd]
    | 9 => simp [rowX, setRow, ux, upd]
    | 10 => simp [rowX, setRow, ux, upd]
    | 11 => simp [rowX, setRow, ux, upd]
    | 12 => simp [rowX, setRow, ux, upd]
    | 13 => simp [rowX, setRow, ux, upd]
    | 14 => simp [rowX, setRow, ux, upd]
    | 15 => simp [rowX, setRow, ux, upd]
    | 16 => simp [rowX, setRow, ux, upd]
    | 17 => simp [rowX, setRow, ux, upd]
    | 18 => simp [rowX, setRow, ux, upd]
    | 19 => simp [rowX, setRow, ux, upd]
    | k + 20 => simp [rowX, setRow, upd]
  · match k with
    | 0 => (simp [rowX, setRow, ux, upd, h]; try (intro h2; exfalso; omega))
    | 1 => (simp [rowX, setRow, ux, upd, h]; try (intro h2; exfalso; omega))
    | 2 => (simp [rowX, setRow, ux, upd, h]; try (intro h2; exfalso; omega))
    | 3 => (simp [rowX, setRow, ux, upd, h]; try (intro h2; exfalso; omega))
    | 4 => (simp [rowX, setRow, ux, upd, h]; try (intro h2; exfalso; omega))
    | 5 => (simp [rowX, setRow, ux, upd, h]; try (intro h2; exfalso; omega))
    | 6 => (simp [rowX, setRow, ux, upd, h]; try (intro h2; exfalso; omega))
    | 7 => simp [rowX, setRow, ux, upd, h]
    | 8 => simp [rowX, setRow, ux, upd, h]
    | 9 => simp [rowX, setRow, ux, upd, h]
    | 10 => simp [rowX, setRow, ux, upd, h]
    | 11 => simp [rowX, setRow, ux, upd, h]
    | 12 => simp [rowX, setRow, ux, upd, h]
    | 13 => simp [rowX, setRow, ux, upd, h]
    | 14 => simp [rowX, setRow, ux, upd, h]
    | 15 => simp [rowX, setRow, ux, upd, h]
    | 16 => simp [rowX, setRow, ux, upd, h]
    | 17 => simp [rowX, setRow, ux, upd, h]
    | 18 => simp [rowX, setRow, ux, upd, h]
    | 19 => simp [rowX, setRow, ux, upd, h]
    | k + 20 => simp [rowX, setRow, h]
theorem qx_4 (X : LX) (r : Nat) (x : Int32) : rowX (ux X 0 (7 * r + 4) x) = setRow (rowX X) r (upd (rowX X r) 4 x) := by
  funext r' k
  by_cases h : r' = r
  · subst h
    match k with
    | 0 => simp [rowX, setRow, ux, upd]
    | 1 => simp [rowX, setRow, ux, upd]
    | 2 => simp [rowX, setRow, ux, upd]
    | 3 => simp [rowX, setRow, ux, upd]
    | 4 => simp [rowX, setRow, ux, upd]
    | 5 => simp [rowX, setRow, ux, upd]
    | 6 => simp [rowX, setRow, ux, upd]
    | 7 => simp [rowX, setRow, ux, upd]
    | 8 => simp [rowX, setRow, ux, upd]
    | 9 => simp [rowX, setRow, ux, upd]
    | 10 => simp [rowX, setRow, ux, upd]
    | 11 => simp [rowX, setRow, ux, upd]
    | 12 => simp [rowX, setRow, ux, upd]
    | 13 => simp [rowX, setRow, ux, upd]
    | 14 => simp [rowX, setRow, ux, upd]
    | 15 => simp [rowX, setRow, ux, upd]
    | 16 => simp [rowX, setRow, ux, upd]
    | 17 => simp [rowX, setRow, ux, upd]
    | 18 => simp [rowX, setRow, ux, upd]
    | 19 => simp [rowX, setRow, ux, upd]
    | k + 20 => simp [rowX, setRow, upd]
  · match k with
    | 0 => (simp [rowX, setRow, ux, upd, h]; try (intro h2; exfalso; omega))
    | 1 => (simp [rowX, setRow, ux, upd, h]; try (intro h2; exfalso; omega))
    | 2 => (simp [rowX, setRow, ux, upd, h]; try (intro h2; exfalso; omega))
    | 3 => (simp [rowX, setRow, ux, upd, h]; try (intro h2; exfalso; omega))
    | 4 => (simp [rowX, setRow, ux, upd, h]; try (intro h2; exfalso; omega))
    | 5 => (simp [rowX, setRow, ux, upd, h]; try (intro h2; exfalso; omega))
    | 6 => (simp [rowX, setRow, ux, upd, h]; try (intro h2; exfalso; omega))
    | 7 => simp [rowX, setRow, ux, upd, h]
    | 8 => simp [rowX, setRow, ux, upd, h]
    | 9 => simp [rowX, setRow, ux, upd, h]
    | 10 => simp [rowX, setRow, ux, upd, h]
    | 11 => simp [rowX, setRow, ux, upd, h]
    | 12 => simp [rowX, setRow, ux, upd, h]
    | 13 => simp [rowX, setRow, ux, upd, h]
    | 14 => simp [rowX, setRow, ux, upd, h]
    | 15 => simp [rowX, setRow, ux, upd, h]
    | 16 => simp [rowX, setRow, ux, upd, h]
    | 17 => simp [rowX, setRow, ux, upd, h]
    | 18 => simp [rowX, setRow, ux, upd, h]
    | 19 => simp [rowX, setRow, ux, upd, h]
    | k + 20 => simp [rowX, setRow, h]
theorem qx_5 (X : LX) (r : Nat) (x : Int32) : rowX (ux X 0 (7 * r + 5) x) = setRow (rowX X) r (upd (rowX X r) 5 x) := by
  funext r' k
  by_cases h : r' = r
  · subst h
    match k with
    | 0 => simp [rowX, setRow, ux, upd]
    | 1 => simp [rowX, setRow, ux, upd]
    | 2 => simp [rowX, setRow, ux, upd]
    | 3 => simp [rowX, setRow, ux, upd]
    | 4 => simp [rowX, setRow, ux, upd]
    | 5 => simp [rowX, setRow, ux, upd]
    | 6 => simp [rowX, setRow, ux, upd]
    | 7 => simp [rowX, setRow, ux, upd]
    | 8 => simp [rowX, setRow, ux, upd]
    | 9 => simp [rowX, setRow, ux, upd]
    | 10 => simp [rowX, setRow, ux, upd]
    | 11 => simp [rowX, setRow, ux, upd]
    | 12 => simp [rowX, setRow, ux, upd]
    | 13 => simp [rowX, setRow, ux, upd]
    | 14 => simp [rowX, setRow, ux, upd]
    | 15 => simp [rowX, setRow, ux, upd]
    | 16 => simp [rowX, setRow, ux, upd]
    | 17 => simp [rowX, setRow, ux, upd]
    | 18 => simp [rowX, setRow, ux, upd]
    | 19 => simp [rowX, setRow, ux, upd]
    | k + 20 => simp [rowX, setRow, upd]
  · match k with
    | 0 => (simp [rowX, setRow, ux, upd, h]; try (intro h2; exfalso; omega))
    | 1 => (simp [rowX, setRow, ux, upd, h]; try (intro h2; exfalso; omega))
    | 2 => (simp [rowX, setRow, ux, upd, h]; try (intro h2; exfalso; omega))
    | 3 => (simp [rowX, setRow, ux, upd, h]; try (intro h2; exfalso; omega))
    | 4 => (simp [rowX, setRow, ux, upd, h]; try (intro h2; exfalso; omega))
    | 5 => (simp [rowX, setRow, ux, upd, h]; try (intro h2; exfalso; omega))
    | 6 => (simp [rowX, setRow, ux, upd, h]; try (intro h2; exfalso; omega))
    | 7 => simp [rowX, setRow, ux, upd, h]
    | 8 => simp [rowX, setRow, ux, upd, h]
    | 9 => simp [rowX, setRow, ux, upd, h]
    | 10 => simp [rowX, setRow, ux, upd, h]
    | 11 => simp [rowX, setRow, ux, upd, h]
    | 12 => simp [rowX, setRow, ux, upd, h]
    | 13 => simp [rowX, setRow, ux, upd, h]
    | 14 => simp [rowX, setRow, ux, upd, h]
    | 15 => simp [rowX, setRow, ux, upd, h]
    | 16 => simp [rowX, setRow, ux, upd, h]
    | 17 => simp [rowX, setRow, ux, upd, h]
    | 18 => simp [rowX, setRow, ux, upd, h]
    | 19 => simp [rowX, setRow, ux, upd, h]
    | k + 20 => simp [rowX, setRow, h]
theorem qx_6 (X : LX) (r : Nat) (x : Int32) : rowX (ux X 0 (7 * r + 6) x) = setRow (rowX X) r (upd (rowX X r) 6 x) := by
  funext r' k
  by_cases h : r' = r
  · subst h
    match k with
    | 0 => simp [rowX, setRow, ux, upd]
    | 1 => simp [rowX, setRow, ux, upd]
    | 2 => simp [rowX, setRow, ux, upd]
    | 3 => simp [rowX, setRow, ux, upd]
    | 4 => simp [rowX, setRow, ux, upd]
    | 5 => simp [rowX, setRow, ux, upd]
    | 6 => simp [rowX, setRow, ux, upd]
    | 7 => simp [rowX, setRow, ux, upd]
    | 8 => simp [rowX, setRow, ux, upd]
    | 9 => simp [rowX, setRow, ux, upd]
    | 10 => simp [rowX, setRow, ux, upd]
    | 11 => simp [rowX, setRow, ux, upd]
    | 12 => simp [rowX, setRow, ux, upd]
    | 13 => simp [rowX, setRow, ux, upd]
    | 14 => simp [rowX, setRow, ux, upd]
    | 15 => simp [rowX, setRow, ux, upd]
    | 16 => simp [rowX, setRow, ux, upd]
    | 17 => simp [rowX, setRow, ux, upd]
    | 18 => simp [rowX, setRow, ux, upd]
    | 19 => simp [rowX, setRow, ux, upd]
    | k + 20 => simp [rowX, setRow, upd]
  · match k with
    | 0 => (simp [rowX, setRow, ux, upd, h]; try (intro h2; exfalso; omega))
    | 1 => (simp [rowX, setRow, ux, upd, h]; try (intro h2; exfalso; omega))
    | 2 => (simp [rowX, setRow, ux, upd, h]; try (intro h2; exfalso; omega))
    | 3 => (simp [rowX, setRow, ux, upd, h]; try (intro h2; exfalso; omega))
    | 4 => (simp [rowX, setRow, ux, upd, h]; try (intro h2; exfalso; omega))
    | 5 => (simp [rowX, setRow, ux, upd, h]; try (intro h2; exfalso; omega))
    | 6 => (simp [rowX, setRow, ux, upd, h]; try (intro h2; exfalso; omega))
    | 7 => simp [rowX, setRow, ux, upd, h]
    | 8 => simp [rowX, setRow, ux, upd, h]
    | 9 => simp [rowX, setRow, ux, upd, h]
    | 10 => simp [rowX, setRow, ux, upd, h]
    | 11 => simp [rowX, setRow, ux, upd, h]
    | 12 => simp [rowX, setRow, ux, upd, h]
    | 13 => simp [rowX, setRow, ux, upd, h]
    | 14 => simp [rowX, setRow, ux, upd, h]
    | 15 => simp [rowX, setRow, ux, upd, h]
    | 16 => simp [rowX, setRow, ux, upd, h]
    | 17 => simp [rowX, setRow, ux, upd, h]
    | 18 => simp [rowX, setRow, ux, upd, h]
    | 19 => simp [rowX, setRow, ux, upd, h]
    | k + 20 => simp [rowX, setRow, h]
theorem qx_7 (X : LX) (r : Nat) (x : Int32) : rowX (ux X 1 (9 * r) x) = setRow (rowX X) r (upd (rowX X r) 7 x) := by
  funext r' k
  by_cases h : r' = r
  · subst h
    match k with
    | 0 => simp [rowX, setRow, ux, upd]
    | 1 => simp [rowX, setRow, ux, upd]
    | 2 => simp [rowX, setRow, ux, upd]
    | 3 => simp [rowX, setRow, ux, upd]
    | 4 => simp [rowX, setRow, ux, upd]
    | 5 => simp [rowX, setRow, ux, upd]
    | 6 => simp [rowX, setRow, ux, upd]
    | 7 => simp [rowX, setRow, ux, upd]
    | 8 => simp [rowX, setRow, ux, upd]
    | 9 => simp [rowX, setRow, ux, upd]
    | 10 => simp [rowX, setRow, ux, upd]
    | 11 => simp [rowX, setRow, ux, upd]
    | 12 => simp [rowX, setRow, ux, upd]
    | 13 => simp [rowX, setRow, ux, upd]
    | 14 => simp [rowX, setRow, ux, upd]
    | 15 => simp [rowX, setRow, ux, upd]
    | 16 => simp [rowX, setRow, ux, upd]
    | 17 => simp [rowX, setRow, ux, upd]
    | 18 => simp [rowX, setRow, ux, upd]
    | 19 => simp [rowX, setRow, ux, upd]
    | k + 20 => simp [rowX, setRow, upd]
  · match k with
    | 0 => simp [rowX, setRow, ux, upd, h]
    | 1 => simp [rowX, setRow, ux, upd, h]
    | 2 => simp [rowX, setRow, ux, upd, h]
    | 3 => simp [rowX, setRow, ux, upd, h]
    | 4 => simp [rowX, setRow, ux, upd, h]
    | 5 => simp [rowX, setRow, ux, upd, h]
    | 6 => simp [rowX, setRow, ux, upd, h]
    | 7 => (simp [rowX, setRow, ux, upd, h]; try (intro h2; exfalso; omega))
    | 8 => simp [rowX, setRow, ux, upd, h]
    | 9 => (simp [rowX, setRow, ux, upd, h]; try (intro h2; exfalso; omega))
    | 10 => (simp [rowX, setRow, ux, upd, h]; try (intro h2; exfalso; omega))
    | 11 => (simp [rowX, setRow, ux, upd, h]; try (intro h2; exfalso; omega))
    | 12 => (simp [rowX, setRow, ux, upd, h]; try (intro h2; exfalso; omega))
    | 13 => (simp [rowX, setRow, ux, upd, h]; try (intro h2; exfalso; omega))
    | 14 => (simp [rowX, setRow, ux, upd, h]; try (intro h2; exfalso; omega))
    | 15 => (simp [rowX, setRow, ux, upd, h]; try (intro h2; exfalso; omega))
    | 16 => simp [rowX, setRow, ux, upd, h]
    | 17 => simp [rowX, setRow, ux, upd, h]
    | 18 => simp [rowX, setRow, ux, upd, h]
    | 19 => simp [rowX, setRow, ux, upd, h]
    | k + 20 => simp [rowX, setRow, h]
theorem qx_9 (X : LX) (r : Nat) (x : Int32) : rowX (ux X 1 (9 * r + 2) x) = setRow (rowX X) r (upd (rowX X r) 9 x) := by
  funext r' k
  by_cases h : r' = r
  · subst h
    match k with
    | 0 => simp [rowX, setRow, ux, upd]
    | 1 => simp [rowX, setRow, ux, upd]
    | 2 => simp [rowX, setRow, ux, upd]
    | 3 => simp [rowX, setRow, ux, upd]
    | 4 => simp [rowX, setRow, ux, upd]
    | 5 => simp [rowX, setRow, ux, upd]
    | 6 => simp [rowX, setRow, ux, upd]
    | 7 => simp [rowX, setRow, ux, upd]
    | 8 => simp [rowX, setRow, ux, upd]
    | 9 => simp [rowX, setRow, ux, upd]
    | 10 => simp [rowX, setRow, ux, upd]
    | 11 => simp [rowX, setRow, ux, upd]
    | 12 => simp [rowX, setRow, ux, upd]
    | 13 => simp [rowX, setRow, ux, upd]
    | 14 => simp [rowX, setRow, ux, upd]
    | 15 => simp [rowX, setRow, ux, upd]
    | 16 => simp [rowX, setRow, ux, upd]
    | 17 => simp [rowX, setRow, ux, upd]
    | 18 => simp [rowX, setRow, ux, upd]
    | 19 => simp [rowX, setRow, ux, upd]
    | k + 20 => simp [rowX, setRow, upd]
  · match k with
    | 0 => simp [rowX, setRow, ux, upd, h]
    | 1 => simp [rowX, setRow, ux, upd, h]
    | 2 => simp [rowX, setRow, ux, upd, h]
    | 3 => simp [rowX, setRow, ux, upd, h]
    | 4 => simp [rowX, setRow, ux, upd, h]
    | 5 => simp [rowX, setRow, ux, upd, h]
    | 6 => simp [rowX, setRow, ux, upd, h]
    | 7 => (simp [rowX, setRow, ux, upd, h]; try (intro h2; exfalso; omega))
    | 8 => simp [rowX, setRow, ux, upd, h]
    | 9 => (simp [rowX, setRow, ux, upd, h]; try (intro h2; exfalso; omega))
    | 10 => (simp [rowX, setRow, ux, upd, h]; try (intro h2; exfalso; omega))
    | 11 => (simp [rowX, setRow, ux, upd, h]; try (intro h2; exfalso; omega))
    | 12 => (simp [rowX, setRow, ux, upd, h]; try (intro h2; exfalso; omega))
    | 13 => (simp [rowX, setRow, ux, upd, h]; try (intro h2; exfalso; omega))
    | 14 => (simp [rowX, setRow, ux, upd, h]; try (intro h2; exfalso; omega))
    | 15 => (simp [rowX, setRow, ux, upd, h]; try (intro h2; exfalso; omega))
    | 16 => simp [rowX, setRow, ux, upd, h]
    | 17 => simp [rowX, setRow, ux, upd, h]
    | 18 => simp [rowX, setRow, ux, upd, h]
    | 19 => simp [rowX, setRow, ux, upd, h]
    | k + 20 => simp [rowX, setRow, h]
theorem qx_10 (X : LX) (r : Nat) (x : Int32) : rowX (ux X 1 (9 * r + 3) x) = setRow (rowX X) r (upd (rowX X r) 10 x) := by
  funext r' k
  by_cases h : r' = r
  · subst h
    match k with
    | 0 => simp [rowX, setRow, ux, upd]
    | 1 => simp [rowX, setRow, ux, upd]
    | 2 => simp [rowX, setRow, ux, upd]
    | 3 => simp [rowX, setRow, ux, upd]
    | 4 => simp [rowX, setRow, ux, upd]
    | 5 => simp [rowX, setRow, ux, upd]
    | 6 => simp [rowX, setRow, ux, upd]
    | 7 => simp [rowX, setRow, ux, upd]
    | 8 => simp [rowX, setRow, ux, upd]
    | 9 => simp [rowX, setRow, ux, upd]
    | 10 => simp [rowX, setRow, ux, upd]
    | 11 => simp [rowX, setRow, ux, upd]
    | 12 => simp [rowX, setRow, ux, upd]
    | 13 => simp [rowX, setRow, ux, upd]
    | 14 => simp [rowX, setRow, ux, upd]
    | 15 => simp [rowX, setRow, ux, upd]
    | 16 => simp [rowX, setRow, ux, upd]
    | 17 => simp [rowX, setRow, ux, upd]
    | 18 => simp [rowX, setRow, ux, upd]
    | 19 => simp [rowX, setRow, ux, upd]
    | k + 20 => simp [rowX, setRow, upd]
  · match k with
    | 0 => simp [rowX, setRow, ux, upd, h]
    | 1 => simp [rowX, setRow, ux, upd, h]
    | 2 => simp [rowX, setRow, ux, upd, h]
    | 3 => simp [rowX, setRow, ux, upd, h]
    | 4 => simp [rowX, setRow, ux, upd, h]
    | 5 => simp [rowX, setRow, ux, upd, h]
    | 6 => simp [rowX, setRow, ux, upd, h]
    | 7 => (simp [rowX, setRow, ux, upd, h]; try (intro h2; exfalso; omega))
    | 8 => simp [rowX, setRow, ux, upd, h]
    | 9 => (simp [rowX, setRow, ux, upd, h]; try (intro h2; exfalso; omega))
    | 10 => (simp [rowX, setRow, ux, upd, h]; try (intro h2; exfalso; omega))
    | 11 => (simp [rowX, setRow, ux, upd, h]; try (intro h2; exfalso; omega))
    | 12 => (simp [rowX, setRow, ux, upd, h]; try (intro h2; exfalso; omega))
    | 13 => (simp [rowX, setRow, ux, upd, h]; try (intro h2; exfalso; omega))
    | 14 => (simp [rowX, setRow, ux, upd, h]; try (intro h2; exfalso; omega))
    | 15 => (simp [rowX, setRow, ux, upd, h]; try (intro h2; exfalso; omega))
    | 16 => simp [rowX, setRow, ux, upd, h]
    | 17 => simp [rowX, setRow, ux, upd, h]
    | 18 => simp [rowX, setRow, ux, upd, h]
    | 19 => simp [rowX, setRow, ux, upd, h]
    | k + 20 => simp [rowX, setRow, h]
theorem qx_11 (X : LX) (r : Nat) (x : Int32) : rowX (ux X 1 (9 * r + 4) x) = setRow (rowX X) r (upd (rowX X r) 11 x) := by
  funext r' k
  by_cases h : r' = r
  · subst h
    match k with
    | 0 => simp [rowX, setRow, ux, upd]
    | 1 => simp [rowX, setRow, ux, upd]
    | 2 => simp [rowX, setRow, ux, upd]
    | 3 => simp [rowX, setRow, ux, upd]
    | 4 => simp [rowX, setRow, ux, upd]
    | 5 => simp [rowX, setRow, ux, upd]
    | 6 => simp [rowX, setRow, ux, upd]
    | 7 => simp [rowX, setRow, ux, upd]
    | 8 => simp [rowX, setRow, ux, upd]
    | 9 => simp [rowX, setRow, ux, upd]
    | 10 => simp [rowX, setRow, ux, upd]
    | 11 => simp [rowX, setRow, ux, upd]
    | 12 => simp [rowX, setRow, ux, upd]
    | 13 => simp [rowX, setRow, ux, upd]
    | 14 => simp [rowX, setRow, ux, upd]
    | 15 => simp [rowX, setRow, ux, upd]
    | 16 => simp [rowX, setRow, ux, upd]
    | 17 => simp [rowX, setRow, ux, upd]
    | 18 => simp [rowX, setRow, ux, upd]
    | 19 => simp [rowX, setRow, ux, upd]
    | k + 20 => simp [rowX, setRow, upd]
  · match k with
    | 0 => simp [rowX, setRow, ux, upd, h]
    | 1 => simp [rowX, setRow, ux, upd, h]
    | 2 => simp [rowX, setRow, ux, upd, h]
    | 3 => simp [rowX, setRow, ux, upd, h]
    | 4 => simp [rowX, setRow, ux, upd, h]
    | 5 => simp [rowX, setRow, ux, upd, h]
    | 6 => simp [rowX, setRow, ux, upd, h]
    | 7 => (simp [rowX, setRow, ux, upd, h]; try (intro h2; exfalso; omega))
    | 8 => simp [rowX, setRow, ux, upd, h]
    | 9 => (simp [rowX, setRow, ux, upd, h]; try (intro h2; exfalso; omega))
    | 10 => (simp [rowX, setRow, ux, upd, h]; try (intro h2; exfalso; omega))
    | 11 => (simp [rowX, setRow, ux, upd, h]; try (intro h2; exfalso; omega))
    | 12 => (simp [rowX, setRow, ux, upd, h]; try (intro h2; exfalso; omega))
    | 13 => (simp [rowX, setRow, ux, upd, h]; try (intro h2; exfalso; omega))
    | 14 => (simp [rowX, setRow, ux, upd, h]; try (intro h2; exfalso; omega))
    | 15 => (simp [rowX, setRow, ux, upd, h]; try (intro h2; exfalso; omega))
    | 16 => simp [rowX, setRow, ux, upd, h]
    | 17 => simp [rowX, setRow, ux, upd, h]
    | 18 => simp [rowX, setRow, ux, upd, h]
    | 19 => simp [rowX, setRow, ux, upd, h]
    | k + 20 => simp [rowX, setRow, h]
theorem qx_12 (X : LX) (r : Nat) (x : Int32) : rowX (ux X 1 (9 * r + 5) x) = setRow (rowX X) r (upd (rowX X r) 12 x) := by
  funext r' k
  by_cases h : r' = r
  · subst h
    match k with
    | 0 => simp [rowX, setRow, ux, upd]
    | 1 => simp [rowX, setRow, ux, upd]
    | 2 => simp [rowX, setRow, ux, upd]
    | 3 => simp [rowX, setRow, ux, upd]
    | 4 => simp [rowX, setRow, ux, upd]
    | 5 => simp [rowX, setRow, ux, upd]
    | 6 => simp [rowX, setRow, ux, upd]
    | 7 => simp [rowX, setRow, ux, upd]
    | 8 => simp [rowX, setRow, ux, upd]
    | 9 => simp [rowX, setRow, ux, upd]
    | 10 => simp [rowX, setRow, ux, upd]
    | 11 => simp [rowX, setRow, ux, upd]
    | 12 => simp [rowX, setRow, ux, upd]
    | 13 => simp [rowX, setRow, ux, upd]
    | 14 => simp [rowX, setRow, ux, upd]
    | 15 => simp [rowX, setRow, ux, upd]
    | 16 => simp [rowX, setRow, ux, upd]
    | 17 => simp [rowX, setRow, ux, upd]
    | 18 => simp [rowX, setRow, ux, upd]
    | 19 => simp [rowX, setRow, ux, upd]
    | k + 20 => simp [rowX, setRow, upd]
  · match k with
    | 0 => simp [rowX, setRow, ux, upd, h]
    | 1 => simp [rowX, setRow, ux, upd, h]
    | 2 => simp [rowX, setRow, ux, upd, h]
    | 3 => simp [rowX, setRow, ux, upd, h]
    | 4 => simp [rowX, setRow, ux, upd, h]
    | 5 => simp [rowX, setRow, ux, upd, h]
    | 6 => simp [rowX, setRow, ux, upd, h]
    | 7 => (simp [rowX, setRow, ux, upd, h]; try (intro h2; exfalso; omega))
    | 8 => simp [rowX, setRow, ux, upd, h]
    | 9 => (simp [rowX, setRow, ux, upd, h]; try (intro h2; exfalso; omega))
    | 10 => (simp [rowX, setRow, ux, upd, h]; try (intro h2; exfalso; omega))
    | 11 => (simp [rowX, setRow, ux, upd, h]; try (intro h2; exfalso; omega))
    | 12 => (simp [rowX, setRow, ux, upd, h]; try (intro h2; exfalso; omega))
    | 13 => (simp [rowX, setRow, ux, upd, h]; try (intro h2; exfalso; omega))
    | 14 => (simp [rowX, setRow, ux, upd, h]; try (intro h2; exfalso; omega))
    | 15 => (simp [rowX, setRow, ux, upd, h]; try (intro h2; exfalso; omega))
    | 16 => simp [rowX, setRow, ux, upd, h]
    | 17 => simp [rowX, setRow, ux, upd, h]
    | 18 => simp [rowX, setRow, ux, upd, h]
    | 19 => simp [rowX, setRow, ux, upd, h]
    | k + 20 => simp [rowX, setRow, h]
theorem qx_13 (X : LX) (r : Nat) (x : Int32) : rowX (ux X 1 (9 * r + 6) x) = setRow (rowX X) r (upd (rowX X r) 13 x) := by
  funext r' k
  by_cases h : r' = r
  · subst h
    match k with
    | 0 => simp [rowX, setRow, ux, upd]
    | 1 => simp [rowX, setRow, ux, upd]
    | 2 => simp [rowX, setRow, ux, upd]
    | 3 => simp [rowX, setRow, ux, upd]
    | 4 => simp [rowX, setRow, ux, upd]
    | 5 => simp [rowX, setRow, ux, upd]
    | 6 => simp [rowX, setRow, ux, upd]
    | 7 => simp [rowX, setRow, ux, upd]
    | 8 => simp [rowX, setRow, ux, upd]
    | 9 => simp [rowX, setRow, ux, upd]
    | 10 => simp [rowX, setRow, ux, upd]
    | 11 => simp [rowX, setRow, ux, upd]
    | 12 => simp [rowX, setRow, ux, upd]
    | 13 => simp [rowX, setRow, ux, upd]
    | 14 => simp [rowX, setRow, ux, upd]
    | 15 => simp [rowX, setRow, ux, upd]
    | 16 => simp [rowX, setRow, ux, upd]
    | 17 => simp [rowX, setRow, ux, upd]
    | 18 => simp [rowX, setRow, ux, upd]
    | 19 => simp [rowX, setRow, ux, upd]
    | k + 20 => simp [rowX, setRow, upd]
  · match k with
    | 0 => simp [rowX, setRow, ux, upd, h]
    | 1 => simp [rowX, setRow, ux, upd, h]
    | 2 => simp [rowX, setRow, ux, upd, h]
    | 3 => simp [rowX, setRow, ux, upd, h]
    | 4 => simp [rowX, setRow, ux, upd, h]
    | 5 => simp [rowX, setRow, ux, upd, h]
    | 6 => simp [rowX, setRow, ux, upd, h]
    | 7 => (simp [rowX, setRow, ux, upd, h]; try (intro h2; exfalso; omega))
    | 8 => simp [rowX, setRow, ux, upd, h]
    | 9 => (simp [rowX, setRow, ux, upd, h]; try (intro h2; exfalso; omega))
    | 10 => (simp [rowX, setRow, ux, upd, h]; try (intro h2; exfalso; omega))
    | 11 => (simp [rowX, setRow, ux, upd, h]; try (intro h2; exfalso; omega))
    | 12 => (simp [rowX, setRow, ux, upd, h]; try (intro h2; exfalso; omega))
    | 13 => (simp [rowX, setRow, ux, upd, h]; try (intro h2; exfalso; omega))
    | 14 => (simp [rowX, setRow, ux, upd, h]; try (intro h2; exfalso; omega))
    | 15 => (simp [rowX, setRow, ux, upd, h]; try (intro h2; exfalso; omega))
    | 16 => simp [rowX, setRow, ux, upd, h]
    | 17 => simp [rowX, setRow, ux, upd, h]
    | 18 => simp [rowX, setRow, ux, upd, h]
    | 19 => simp [rowX, setRow, ux, upd, h]
    | k + 20 => simp [rowX, setRow, h]
theorem qx_14 (X : LX) (r : Nat) (x : Int32) : rowX (ux X 1 (9 * r + 7) x) = setRow (rowX X) r (upd (rowX X r) 14 x) := by
  funext r' k
  by_cases h : r' = r
  · subst h
    match k with
    | 0 => simp [rowX, setRow, ux, upd]
    | 1 => simp [rowX, setRow, ux, upd]
    | 2 => simp [rowX, setRow, ux, upd]
    | 3 => simp [rowX, setRow, ux, upd]
    | 4 => simp [rowX, setRow, ux, upd]
    | 5 => simp [rowX, setRow, ux, upd]
    | 6 => simp [rowX, setRow, ux, upd]
    | 7 => simp [rowX, setRow, ux, upd]
    | 8 => simp [rowX, setRow, ux, upd]
    | 9 => simp [rowX, setRow, ux, upd]
    | 10 => simp [rowX, setRow, ux, upd]
    | 11 => simp [rowX, setRow, ux, upd]
    | 12 => simp [rowX, setRow, ux, upd]
    | 13 => simp [rowX, setRow, ux, upd]
    | 14 => simp [rowX, setRow, ux, upd]
    | 15 => simp [rowX, setRow, ux, upd]
    | 16 => simp [rowX, setRow, ux, upd]
    | 17 => simp [rowX, setRow, ux, upd]
    | 18 => simp [rowX, setRow, ux, upd]
    | 19 => simp [rowX, setRow, ux, upd]
    | k + 20 => simp [rowX, setRow, upd]
  · match k with
    | 0 => simp [rowX, setRow, ux, upd, h]
    | 1 => simp [rowX, setRow, ux, upd, h]
    | 2 => simp [rowX, setRow, ux, upd, h]
    | 3 => simp [rowX, setRow, ux, upd, h]
    | 4 => simp [rowX, setRow, ux, upd, h]
    | 5 => simp [rowX, setRow, ux, upd, h]
    | 6 => simp [rowX, setRow, ux, upd, h]
    | 7 => (simp [rowX, setRow, ux, upd, h]; try (intro h2; exfalso; omega))
    | 8 => simp [rowX, setRow, ux, upd, h]
    | 9 => (simp [rowX, setRow, ux, upd, h]; try (intro h2; exfalso; omega))
    | 10 => (simp [rowX, setRow, ux, upd, h]; try (intro h2; exfalso; omega))
    | 11 => (simp [rowX, setRow, ux, upd, h]; try (intro h2; exfalso; omega))
    | 12 => (simp [rowX, setRow, ux, upd, h]; try (intro h2; exfalso; omega))
    | 13 => (simp [rowX, setRow, ux, upd, h]; try (intro h2; exfalso; omega))
    | 14 => (simp [rowX, setRow, ux, upd, h]; try (intro h2; exfalso; omega))
    | 15 => (simp [rowX, setRow, ux, upd, h]; try (intro h2; exfalso; omega))
    | 16 => simp [rowX, setRow, ux, upd, h]
    | 17 => simp [rowX, setRow, ux, upd, h]
    | 18 => simp [rowX, setRow, ux, upd, h]
    | 19 => simp [rowX, setRow, ux, upd, h]
    | k + 20 => simp [rowX, setRow, h]
theorem qx_15 (X : LX) (r : Nat) (x : Int32) : rowX (ux X 1 (9 * r + 8) x) = setRow (rowX X) r (upd (rowX X r) 15 x) := by
  funext r' k
  by_cases h : r' = r
  · subst h
    match k with
    | 0 => simp [rowX, setRow, ux, upd]
    | 1 => simp [rowX, setRow, ux, upd]
    | 2 => simp [rowX, setRow, ux, upd]
    | 3 => simp [rowX, setRow, ux, upd]
    | 4 => simp [rowX, setRow, ux, upd]
    | 5 => simp [rowX, setRow, ux, upd]
    | 6 => simp [rowX, setRow, ux, upd]
    | 7 => simp [rowX, setRow, ux, upd]
    | 8 => simp [rowX, setRow, ux, upd]
    | 9 => simp [rowX, setRow, ux, upd]
    | 10 => simp [rowX, setRow, ux, upd]
    | 11 => simp [rowX, setRow, ux, upd]
    | 12 => simp [rowX, setRow, ux, upd]
    | 13 => simp [rowX, setRow, ux, upd]
    | 14 => simp [rowX, setRow, ux, upd]
    | 15 => simp [rowX, setRow, ux, upd]
    | 16 => simp [rowX, setRow, ux, upd]
    | 17 => simp [rowX, setRow, ux, upd]
    | 18 => simp [rowX, setRow, ux, upd]
    | 19 => simp [rowX, setRow, ux, upd]
    | k + 20 => simp [rowX, setRow, upd]
  · match k with
    | 0 => simp [rowX, setRow, ux, upd, h]
    | 1 => simp [rowX, setRow, ux, upd, h]
    | 2 => simp [rowX, setRow, ux, upd, h]
    | 3 => simp [rowX, setRow, ux, upd, h]
    | 4 => simp [rowX, setRow, ux, upd, h]
    | 5 => simp [rowX, setRow, ux, upd, h]
    | 6 => simp [rowX, setRow, ux, upd, h]
    | 7 => (simp [rowX, setRow, ux, upd, h]; try (intro h2; exfalso; omega))
    | 8 => simp [rowX, setRow, ux, upd, h]
    | 9 => (simp [rowX, setRow, ux, upd, h]; try (intro h2; exfalso; omega))
    | 10 => (simp [rowX, setRow, ux, upd, h]; try (intro h2; exfalso; omega))
    | 11 => (simp [rowX, setRow, ux, upd, h]; try (intro h2; exfalso; omega))
    | 12 => (simp [rowX, setRow, ux, upd, h]; try (intro h2; exfalso; omega))
    | 13 => (simp [rowX, setRow, ux, upd, h]; try (intro h2; exfalso; omega))
    | 14 => (simp [rowX, setRow, ux, upd, h]; try (intro h2; exfalso; omega))
    | 15 => (simp [rowX, setRow, ux, upd, h]; try (intro h2; exfalso; omega))
    | 16 => simp [rowX, setRow, ux, upd, h]
    | 17 => simp [rowX, setRow, ux, upd, h]
    | 18 => simp [rowX, setRow, ux, upd, h]
    | 19 => simp [rowX, setRow, ux, upd, h]
    | k + 20 => simp [rowX, setRow, h]
theorem qx_16 (X : LX) (r : Nat) (x : Int32) : rowX (ux X 2 (4 * r) x) = setRow (rowX X) r (upd (rowX X r) 16 x) := by
  funext r' k
  by_cases h : r' = r
  · subst h
    match k with
    | 0 => simp [rowX, setRow, ux, upd]
    | 1 => simp [rowX, setRow, ux, upd]
    | 2 => simp [rowX, setRow, ux, upd]
    | 3 => simp [rowX, setRow, ux, upd]
    | 4 => simp [rowX, setRow, ux, upd]
    | 5 => simp [rowX, setRow, ux, upd]
    | 6 => simp [rowX, setRow, ux, upd]
    | 7 => simp [rowX, setRow, ux, upd]
    | 8 => simp [rowX, setRow, ux, upd]
    | 9 => simp [rowX, setRow, ux, upd]
    | 10 => simp [rowX, setRow, ux, upd]
    | 11 => simp [rowX, setRow, ux, upd]
    | 12 => simp [rowX, setRow, ux, upd]
    | 13 => simp [rowX, setRow, ux, upd]
    | 14 => simp [rowX, setRow, ux, upd]
    | 15 => simp [rowX, setRow, ux, upd]
    | 16 => simp [rowX, setRow, ux, upd]
    | 17 => simp [rowX, setRow, ux, upd]
    | 18 => simp [rowX, setRow, ux, upd]
    | 19 => simp [rowX, setRow, ux, upd]
    | k + 20 => simp [rowX, setRow, upd]
  · match k with
    | 0 => simp [rowX, setRow, ux, upd, h]
    | 1 => simp [rowX, setRow, ux, upd, h]
    | 2 => simp [rowX, setRow, ux, upd, h]
    | 3 => simp [rowX, setRow, ux, upd, h]
    | 4 => simp [rowX, setRow, ux, upd, h]
    | 5 => simp [rowX, setRow, ux, upd, h]
    | 6 => simp [rowX, setRow, ux, upd, h]
    | 7 => simp [rowX, setRow, ux, upd, h]
    | 8 => simp [rowX, setRow, ux, upd, h]
    | 9 => simp [rowX, setRow, ux, upd, h]
    | 10 => simp [rowX, setRow, ux, upd, h]
    | 11 => simp [rowX, setRow, ux, upd, h]
    | 12 => simp [rowX, setRow, ux, upd, h]
    | 13 => simp [rowX, setRow, ux, upd, h]
    | 14 => simp [rowX, setRow, ux, upd, h]
    | 15 => simp [rowX, setRow, ux, upd, h]
    | 16 => (simp [rowX, setRow, ux, upd, h]; try (intro h2; exfalso; omega))
    | 17 => (simp [rowX, setRow, ux, upd, h]; try (intro h2; exfalso; omega))
    | 18 => (simp [rowX, setRow, ux, upd, h]; try (intro h2; exfalso; omega))
    | 19 => (simp [rowX, setRow, ux, upd, h]; try (intro h2; exfalso; omega))
    | k + 20 => simp [rowX, setRow, h]
theorem qx_17 (X : LX) (r : Nat) (x : Int32) : rowX (ux X 2 (4 * r + 1) x) = setRow (rowX X) r (upd (rowX X r) 17 x) := by
  funext r' k
  by_cases h : r' = r
  · subst h
    match k with
    | 0 => simp [rowX, setRow, ux, upd]
    | 1 => simp [rowX, setRow, ux, upd]
    | 2 => simp [rowX, setRow, ux, upd]
    | 3 => simp [rowX, setRow, ux, upd]
    | 4 => simp [rowX, setRow, ux, upd]
    | 5 => simp [rowX, setRow, ux, upd]
    | 6 => simp [rowX, setRow, ux, upd]
    | 7 => simp [rowX, setRow, ux, upd]
    | 8 => simp [rowX, setRow, ux, upd]
    | 9 => simp [rowX, setRow, ux, upd]
    | 10 => simp [rowX, setRow, ux, upd]
    | 11 => simp [rowX, setRow, ux, upd]
    | 12 => simp [rowX, setRow, ux, upd]
    | 13 => simp [rowX, setRow, ux, upd]
    | 14 => simp [rowX, setRow, ux, upd]
    | 15 => simp [rowX, setRow, ux, upd]
    | 16 => simp [rowX, setRow, ux, upd]
    | 17 => simp [rowX, setRow, ux, upd]
    | 18 => simp [rowX, setRow, ux, upd]
    | 19 => simp [rowX, setRow, ux, upd]
    | k + 20 => simp [rowX, setRow, upd]
  · match k with
    | 0 => simp [rowX, setRow, ux, upd, h]
    | 1 => simp [rowX, setRow, ux, upd, h]
    | 2 => simp [rowX, setRow, ux, upd, h]
    | 3 => simp [rowX, setRow, ux, upd, h]
    | 4 => simp [rowX, setRow, ux, upd, h]
    | 5 => simp [rowX, setRow, ux, upd, h]
    | 6 => simp [rowX, setRow, ux, upd, h]
    | 7 => simp [rowX, setRow, ux, upd, h]
    | 8 => simp [rowX, setRow, ux, upd, h]
    | 9 => simp [rowX, setRow, ux, upd, h]
    | 10 => simp [rowX, setRow, ux, upd, h]
    | 11 => simp [rowX, setRow, ux, upd, h]
    | 12 => simp [rowX, setRow, ux, upd, h]
    | 13 => simp [rowX, setRow, ux, upd, h]
    | 14 => simp [rowX, setRow, ux, upd, h]
    | 15 => simp [rowX, setRow, ux, upd, h]
    | 16 => (simp [rowX, setRow, ux, upd, h]; try (intro h2; exfalso; omega))
    | 17 => (simp [rowX, setRow, ux, upd, h]; try (intro h2; exfalso; omega))
    | 18 => (simp [rowX, setRow, ux, upd, h]; try (intro h2; exfalso; omega))
    | 19 => (simp [rowX, setRow, ux, upd, h]; try (intro h2; exfalso; omega))
    | k + 20 => simp [rowX, setRow, h]
theorem qx_18 (X : LX) (r : Nat) (x : Int32) : rowX (ux X 2 (4 * r + 2) x) = setRow (rowX X) r (upd (rowX X r) 18 x) := by
  funext r' k
  by_cases h : r' = r
  · subst h
    match k with
    | 0 => simp [rowX, setRow, ux, upd]
    | 1 => simp [rowX, setRow, ux, upd]
    | 2 => simp [rowX, setRow, ux, upd]
    | 3 => simp [rowX, setRow, ux, upd]
    | 4 => simp [rowX, setRow, ux, upd]
    | 5 => simp [rowX, setRow, ux, upd]
    | 6 => simp [rowX, setRow, ux, upd]
    | 7 => simp [rowX, setRow, ux, upd]
    | 8 => simp [rowX, setRow, ux, upd]
    | 9 => simp [rowX, setRow, ux, upd]
    | 10 => simp [rowX, setRow, ux, upd]
    | 11 => simp [rowX, setRow, ux, upd]
    | 12 => simp [rowX, setRow, ux, upd]
    | 13 => simp [rowX, setRow, ux, upd]
    | 14 => simp [rowX, setRow, ux, upd]
    | 15 => simp [rowX, setRow, ux, upd]
    | 16 => simp [rowX, setRow, ux, upd]
    | 17 => simp [rowX, setRow, ux, upd]
    | 18 => simp [rowX, setRow, ux, upd]
    | 19 => simp [rowX, setRow, ux, upd]
    | k + 20 => simp [rowX, setRow, upd]
  · match k with
    | 0 => simp [rowX, setRow, ux, upd, h]
    | 1 => simp [rowX, setRow, ux, upd, h]
    | 2 => simp [rowX, setRow, ux, upd, h]
    | 3 => simp [rowX, setRow, ux, upd, h]
    | 4 => simp [rowX, setRow, ux, upd, h]
    | 5 => simp [rowX, setRow, ux, upd, h]
    | 6 => simp [rowX, setRow, ux, upd, h]
    | 7 => simp [rowX, setRow, ux, upd, h]
    | 8 => simp [rowX, setRow, ux, upd, h]
    | 9 => simp [rowX, setRow, ux, upd, h]
    | 10 => simp [rowX, setRow, ux, upd, h]
    | 11 => simp [rowX, setRow, ux, upd, h]
    | 12 => simp [rowX, setRow, ux, upd, h]
    | 13 => simp [rowX, setRow, ux, upd, h]
    | 14 => simp [rowX, setRow, ux, upd, h]
    | 15 => simp [rowX, setRow, ux, upd, h]
    | 16 => (simp [rowX, setRow, ux, upd, h]; try (intro h2; exfalso; omega))
    | 17 => (simp [rowX, setRow, ux, upd, h]; try (intro h2; exfalso; omega))
    | 18 => (simp [rowX, setRow, ux, upd, h]; try (intro h2; exfalso; omega))
    | 19 => (simp [rowX, setRow, ux, upd, h]; try (intro h2; exfalso; omega))
    | k + 20 => simp [rowX, setRow, h]
theorem qx_19 (X : LX) (r : Nat) (x : Int32) : rowX (ux X 2 (4 * r + 3) x) = setRow (rowX X) r (upd (rowX X r) 19 x) := by
  funext r' k
  by_cases h : r' = r
  · subst h
    match k with
    | 0 => simp [rowX, setRow, ux, upd]
    | 1 => simp [rowX, setRow, ux, upd]
    | 2 => simp [rowX, setRow, ux, upd]
    | 3 => simp [rowX, setRow, ux, upd]
    | 4 => simp [rowX, setRow, ux, upd]
    | 5 => simp [rowX, setRow, ux, upd]
    | 6 => simp [rowX, setRow, ux, upd]
    | 7 => simp [rowX, setRow, ux, upd]
    | 8 => simp [rowX, setRow, ux, upd]
    | 9 => simp [rowX, setRow, ux, upd]
    | 10 => simp [rowX, setRow, ux, upd]
    | 11 => simp [rowX, setRow, ux, upd]
    | 12 => simp [rowX, setRow, ux, upd]
    | 13 => simp [rowX, setRow, ux, upd]
    | 14 => simp [rowX, setRow, ux, upd]
    | 15 => simp [rowX, setRow, ux, upd]
    | 16 => simp [rowX, setRow, ux, upd]
    | 17 => simp [rowX, setRow, ux, upd]
    | 18 => simp [rowX, setRow, ux, upd]
    | 19 => simp [rowX, setRow, ux, upd]
    | k + 20 => simp [rowX, setRow, upd]
  · match k with
    | 0 => simp [rowX, setRow, ux, upd, h]
    | 1 => simp [rowX, setRow, ux, upd, h]
    | 2 => simp [rowX, setRow, ux, upd, h]
    | 3 => simp [rowX, setRow, ux, upd, h]
    | 4 => simp [rowX, setRow, ux, upd, h]
    | 5 => simp [rowX, setRow, ux, upd, h]
    | 6 => simp [rowX, setRow, ux, upd, h]
    | 7 => simp [rowX, setRow, ux, upd, h]
    | 8 => simp [rowX, setRow, ux, upd, h]
    | 9 => simp [rowX, setRow, ux, upd, h]
    | 10 => simp [rowX, setRow, ux, upd, h]
    | 11 => simp [rowX, setRow, ux, upd, h]
    | 12 => simp [rowX, setRow, ux, upd, h]
    | 13 => simp [rowX, setRow, ux, upd, h]
    | 14 => simp [rowX, setRow, ux, upd, h]
    | 15 => simp [rowX, setRow, ux, upd, h]
    | 16 => (simp [rowX, setRow, ux, upd, h]; try (intro h2; exfalso; omega))
    | 17 => (simp [rowX, setRow, ux, upd, h]; try (intro h2; exfalso; omega))
    | 18 => (simp [rowX, setRow, ux, upd, h]; try (intro h2; exfalso; omega))
    | 19 => (simp [rowX, setRow, ux, upd, h]; try (intro h2; exfalso; omega))
    | k + 20 => simp [rowX, setRow, h]
theorem qx_w (X : LX) (r : Nat) (x : Int32) : rowX (ux X 1 (9 * r + 1) x) = rowX X := by
  funext r' k
  match k with
  | 0 => simp [rowX, ux]
  | 1 => simp [rowX, ux]
  | 2 => simp [rowX, ux]
  | 3 => simp [rowX, ux]
  | 4 => simp [rowX, ux]
  | 5 => simp [rowX, ux]
  | 6 => simp [rowX, ux]
  | 7 => (simp [rowX, ux, upd]; try (intro h2; exfalso; omega))
  | 8 => simp [rowX, ux]
  | 9 => (simp [rowX, ux, upd]; try (intro h2; exfalso; omega))
  | 10 => (simp [rowX, ux, upd]; try (intro h2; exfalso; omega))
  | 11 => (simp [rowX, ux, upd]; try (intro h2; exfalso; omega))
  | 12 => (simp [rowX, ux, upd]; try (intro h2; exfalso; omega))
  | 13 => (simp [rowX, ux, upd]; try (intro h2; exfalso; omega))
  | 14 => (simp [rowX, ux, upd]; try (intro h2; exfalso; omega))
  | 15 => (simp [rowX, ux, upd]; try (intro h2; exfalso; omega))
  | 16 => simp [rowX, ux]
  | 17 => simp [rowX, ux]
  | 18 => simp [rowX, ux]
  | 19 => simp [rowX, ux]
  | k + 20 => rfl
theorem qx_o (X : LX) {a : Nat} (ha : 3 ≤ a) (i : Nat) (x : Int32) : rowX (ux X a i x) = rowX X := by
  funext r' k
  match k with
  | 0 => simp [rowX, ux, show 0 ≠ a by omega]
  | 1 => simp [rowX, ux, show 0 ≠ a by omega]
  | 2 => simp [rowX, ux, show 0 ≠ a by omega]
  | 3 => simp [rowX, ux, show 0 ≠ a by omega]
  | 4 => simp [rowX, ux, show 0 ≠ a by omega]
  | 5 => simp [rowX, ux, show 0 ≠ a by omega]
  | 6 => simp [rowX, ux, show 0 ≠ a by omega]
  | 7 => simp [rowX, ux, show 1 ≠ a by omega]
  | 8 => rfl
  | 9 => simp [rowX, ux, show 1 ≠ a by omega]
  | 10 => simp [rowX, ux, show 1 ≠ a by omega]
  | 11 => simp [rowX, ux, show 1 ≠ a by omega]
  | 12 => simp [rowX, ux, show 1 ≠ a by omega]
  | 13 => simp [rowX, ux, show 1 ≠ a by omega]
  | 14 => simp [rowX, ux, show 1 ≠ a by omega]
  | 15 => simp [rowX, ux, show 1 ≠ a by omega]
  | 16 => simp [rowX, ux, show 2 ≠ a by omega]
  | 17 => simp [rowX, ux, show 2 ≠ a by omega]
  | 18 => simp [rowX, ux, show 2 ≠ a by omega]
  | 19 => simp [rowX, ux, show 2 ≠ a by omega]
  | k + 20 => rfl
theorem wn_ux {X : LX} {w : Int32} {n : Nat} (h : wnX X w n) {a i : Nat} (hi : a ≠ 1 ∨ i % 9 ≠ 1) (x : Int32) : wnX (ux X a i x) w n := by
  intro q hq
  rw [← h q hq]
  unfold ux
  by_cases ha : 1 = a
  · subst ha
    rw [if_pos rfl]
    exact if_neg (by omega)
  · rw [if_neg ha]
theorem rowX_cell (X : LX) (r : Nat) : X 0 (7 * r) = rowX X r 0 ∧ X 0 (7 * r + 1) = rowX X r 1 ∧ X 0 (7 * r + 2) = rowX X r 2 ∧ X 0 (7 * r + 3) = rowX X r 3 ∧ X 0 (7 * r + 4) = rowX X r 4 ∧ X 0 (7 * r + 5) = rowX X r 5 ∧ X 0 (7 * r + 6) = rowX X r 6 ∧ X 1 (9 * r) = rowX X r 7 ∧ X 1 (9 * r + 2) = rowX X r 9 ∧ X 1 (9 * r + 3) = rowX X r 10 ∧ X 1 (9 * r + 4) = rowX X r 11 ∧ X 1 (9 * r + 5) = rowX X r 12 ∧ X 1 (9 * r + 6) = rowX X r 13 ∧ X 1 (9 * r + 7) = rowX X r 14 ∧ X 1 (9 * r + 8) = rowX X r 15 ∧ X 2 (4 * r) = rowX X r 16 ∧ X 2 (4 * r + 1) = rowX X r 17 ∧ X 2 (4 * r + 2) = rowX X r 18 ∧ X 2 (4 * r + 3) = rowX X r 19 := ⟨rfl, rfl, rfl, rfl, rfl, rfl, rfl, rfl, rfl, rfl, rfl, rfl, rfl, rfl, rfl, rfl, rfl, rfl, rfl⟩
