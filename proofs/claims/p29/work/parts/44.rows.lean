/-! a rail as a row of twenty numbers (the wanted bit, 8, apart) -/
def rowP (P : PV) (r k : Nat) : Int32 := match k with
  | 0 => P.2 4 (r * 7 + 0)
  | 1 => P.2 4 (r * 7 + 1)
  | 2 => P.2 4 (r * 7 + 2)
  | 3 => P.2 4 (r * 7 + 3)
  | 4 => P.2 4 (r * 7 + 4)
  | 5 => P.2 4 (r * 7 + 5)
  | 6 => P.2 4 (r * 7 + 6)
  | 7 => P.2 5 r
  | 9 => P.2 6 r
  | 10 => P.2 7 r
  | 11 => P.2 8 r
  | 12 => P.2 9 r
  | 13 => P.2 10 r
  | 14 => P.2 11 r
  | 15 => P.2 12 r
  | 16 => P.2 13 (r * 4 + 0)
  | 17 => P.2 13 (r * 4 + 1)
  | 18 => P.2 13 (r * 4 + 2)
  | 19 => P.2 13 (r * 4 + 3)
  | _ => 0
def setRow (V : Nat → Nat → Int32) (r : Nat) (row : Nat → Int32) : Nat → Nat → Int32 := fun q => if q = r then row else V q
theorem sr_at (V : Nat → Nat → Int32) (r : Nat) (row : Nat → Int32) : setRow V r row r = row := if_pos rfl
theorem sr_ne (V : Nat → Nat → Int32) {r q : Nat} (row : Nat → Int32) (h : q ≠ r) : setRow V r row q = V q := if_neg h
theorem sr_sr (V : Nat → Nat → Int32) (r : Nat) (a b : Nat → Int32) : setRow (setRow V r a) r b = setRow V r b := by
  funext q
  unfold setRow
  split <;> rfl
theorem sr_self (V : Nat → Nat → Int32) (r : Nat) : setRow V r (V r) = V := by
  funext q
  unfold setRow
  split
  · next h => rw [h]
  · rfl
theorem upd_s {f : Nat → Int32} {k : Nat} {x : Int32} : upd f k x k = x := if_pos rfl
theorem upd_n {f : Nat → Int32} {k j : Nat} {x : Int32} (h : j ≠ k) : upd f k x j = f j := if_neg h
theorem rw_7 (P : PV) (r : Nat) (x : Int32) : rowP (wA P 5 r x) = setRow (rowP P) r (upd (rowP P r) 7 x) := by
  funext r' k
  by_cases h : r' = r
  · subst h
    match k with
    | 0 => simp [rowP, setRow, wA, upd]
    | 1 => simp [rowP, setRow, wA, upd]
    | 2 => simp [rowP, setRow, wA, upd]
    | 3 => simp [rowP, setRow, wA, upd]
    | 4 => simp [rowP, setRow, wA, upd]
    | 5 => simp [rowP, setRow, wA, upd]
    | 6 => simp [rowP, setRow, wA, upd]
    | 7 => simp [rowP, setRow, wA, upd]
    | 8 => simp [rowP, setRow, wA, upd]
    | 9 => simp [rowP, setRow, wA, upd]
    | 10 => simp [rowP, setRow, wA, upd]
    | 11 => simp [rowP, setRow, wA, upd]
    | 12 => simp [rowP, setRow, wA, upd]
    | 13 => simp [rowP, setRow, wA, upd]
    | 14 => simp [rowP, setRow, wA, upd]
    | 15 => simp [rowP, setRow, wA, upd]
    | 16 => simp [rowP, setRow, wA, upd]
    | 17 => simp [rowP, setRow, wA, upd]
    | 18 => simp [rowP, setRow, wA, upd]
    | 19 => simp [rowP, setRow, wA, upd]
    | k + 20 => simp [rowP, setRow, upd]
  · match k with
    | 0 => simp [rowP, setRow, wA, upd, h]
    | 1 => simp [rowP, setRow, wA, upd, h]
    | 2 => simp [rowP, setRow, wA, upd, h]
    | 3 => simp [rowP, setRow, wA, upd, h]
    | 4 => simp [rowP, setRow, wA, upd, h]
    | 5 => simp [rowP, setRow, wA, upd, h]
    | 6 => simp [rowP, setRow, wA, upd, h]
    | 7 => simp [rowP, setRow, wA, upd, h]
    | 8 => simp [rowP, setRow, wA, upd, h]
    | 9 => simp [rowP, setRow, wA, upd, h]
    | 10 => simp [rowP, setRow, wA, upd, h]
    | 11 => simp [rowP, setRow, wA, upd, h]
    | 12 => simp [rowP, setRow, wA, upd, h]
    | 13 => simp [rowP, setRow, wA, upd, h]
    | 14 => simp [rowP, setRow, wA, upd, h]
    | 15 => simp [rowP, setRow, wA, upd, h]
    | 16 => simp [rowP, setRow, wA, upd, h]
    | 17 => simp [rowP, setRow, wA, upd, h]
    | 18 => simp [rowP, setRow, wA, upd, h]
    | 19 => simp [rowP, setRow, wA, upd, h]
    | k + 20 => simp [rowP, setRow, h]
theorem rw_9 (P : PV) (r : Nat) (x : Int32) : rowP (wA P 6 r x) = setRow (rowP P) r (upd (rowP P r) 9 x) := by
  funext r' k
  by_cases h : r' = r
  · subst h
    match k with
    | 0 => simp [rowP, setRow, wA, upd]
    | 1 => simp [rowP, setRow, wA, upd]
    | 2 => simp [rowP, setRow, wA, upd]
    | 3 => simp [rowP, setRow, wA, upd]
    | 4 => simp [rowP, setRow, wA, upd]
    | 5 => simp [rowP, setRow, wA, upd]
    | 6 => simp [rowP, setRow, wA, upd]
    | 7 => simp [rowP, setRow, wA, upd]
    | 8 => simp [rowP, setRow, wA, upd]
    | 9 => simp [rowP, setRow, wA, upd]
    | 10 => simp [rowP, setRow, wA, upd]
    | 11 => simp [rowP, setRow, wA, upd]
    | 12 => simp [rowP, setRow, wA, upd]
    | 13 => simp [rowP, setRow, wA, upd]
    | 14 => simp [rowP, setRow, wA, upd]
    | 15 => simp [rowP, setRow, wA, upd]
    | 16 => simp [rowP, setRow, wA, upd]
    | 17 => simp [rowP, setRow, wA, upd]
    | 18 => simp [rowP, setRow, wA, upd]
    | 19 => simp [rowP, setRow, wA, upd]
    | k + 20 => simp [rowP, setRow, upd]
  · match k with
    | 0 => simp [rowP, setRow, wA, upd, h]
    | 1 => simp [rowP, setRow, wA, upd, h]
    | 2 => simp [rowP, setRow, wA, upd, h]
    | 3 => simp [rowP, setRow, wA, upd, h]
    | 4 => simp [rowP, setRow, wA, upd, h]
    | 5 => simp [rowP, setRow, wA, upd, h]
    | 6 => simp [rowP, setRow, wA, upd, h]
    | 7 => simp [rowP, setRow, wA, upd, h]
    | 8 => simp [rowP, setRow, wA, upd, h]
    | 9 => simp [rowP, setRow, wA, upd, h]
    | 10 => simp [rowP, setRow, wA, upd, h]
    | 11 => simp [rowP, setRow, wA, upd, h]
    | 12 => simp [rowP, setRow, wA, upd, h]
    | 13 => simp [rowP, setRow, wA, upd, h]
    | 14 => simp [rowP, setRow, wA, upd, h]
    | 15 => simp [rowP, setRow, wA, upd, h]
    | 16 => simp [rowP, setRow, wA, upd, h]
    | 17 => simp [rowP, setRow, wA, upd, h]
    | 18 => simp [rowP, setRow, wA, upd, h]
    | 19 => simp [rowP, setRow, wA, upd, h]
    | k + 20 => simp [rowP, setRow, h]
theorem rw_10 (P : PV) (r : Nat) (x : Int32) : rowP (wA P 7 r x) = setRow (rowP P) r (upd (rowP P r) 10 x) := by
  funext r' k
  by_cases h : r' = r
  · subst h
    match k with
    | 0 => simp [rowP, setRow, wA, upd]
    | 1 => simp [rowP, setRow, wA, upd]
    | 2 => simp [rowP, setRow, wA, upd]
    | 3 => simp [rowP, setRow, wA, upd]
    | 4 => simp [rowP, setRow, wA, upd]
    | 5 => simp [rowP, setRow, wA, upd]
    | 6 => simp [rowP, setRow, wA, upd]
    | 7 => simp [rowP, setRow, wA, upd]
    | 8 => simp [rowP, setRow, wA, upd]
    | 9 => simp [rowP, setRow, wA, upd]
    | 10 => simp [rowP, setRow, wA, upd]
    | 11 => simp [rowP, setRow, wA, upd]
    | 12 => simp [rowP, setRow, wA, upd]
    | 13 => simp [rowP, setRow, wA, upd]
    | 14 => simp [rowP, setRow, wA, upd]
    | 15 => simp [rowP, setRow, wA, upd]
    | 16 => simp [rowP, setRow, wA, upd]
    | 17 => simp [rowP, setRow, wA, upd]
    | 18 => simp [rowP, setRow, wA, upd]
    | 19 => simp [rowP, setRow, wA, upd]
    | k + 20 => simp [rowP, setRow, upd]
  · match k with
    | 0 => simp [rowP, setRow, wA, upd, h]
    | 1 => simp [rowP, setRow, wA, upd, h]
    | 2 => simp [rowP, setRow, wA, upd, h]
    | 3 => simp [rowP, setRow, wA, upd, h]
    | 4 => simp [rowP, setRow, wA, upd, h]
    | 5 => simp [rowP, setRow, wA, upd, h]
    | 6 => simp [rowP, setRow, wA, upd, h]
    | 7 => simp [rowP, setRow, wA, upd, h]
    | 8 => simp [rowP, setRow, wA, upd, h]
    | 9 => simp [rowP, setRow, wA, upd, h]
    | 10 => simp [rowP, setRow, wA, upd, h]
    | 11 => simp [rowP, setRow, wA, upd, h]
    | 12 => simp [rowP, setRow, wA, upd, h]
    | 13 => simp [rowP, setRow, wA, upd, h]
    | 14 => simp [rowP, setRow, wA, upd, h]
    | 15 => simp [rowP, setRow, wA, upd, h]
    | 16 => simp [rowP, setRow, wA, upd, h]
    | 17 => simp [rowP, setRow, wA, upd, h]
    | 18 => simp [rowP, setRow, wA, upd, h]
    | 19 => simp [rowP, setRow, wA, upd, h]
    | k + 20 => simp [rowP, setRow, h]
theorem rw_11 (P : PV) (r : Nat) (x : Int32) : rowP (wA P 8 r x) = setRow (rowP P) r (upd (rowP P r) 11 x) := by
  funext r' k
  by_cases h : r' = r
  · subst h
    match k with
    | 0 => simp [rowP, setRow, wA, upd]
    | 1 => simp [rowP, setRow, wA, upd]
    | 2 => simp [rowP, setRow, wA, upd]
    | 3 => simp [rowP, setRow, wA, upd]
    | 4 => simp [rowP, setRow, wA, upd]
    | 5 => simp [rowP, setRow, wA, upd]
    | 6 => simp [rowP, setRow, wA, upd]
    | 7 => simp [rowP, setRow, wA, upd]
    | 8 => simp [rowP, setRow, wA, upd]
    | 9 => simp [rowP, setRow, wA, upd]
    | 10 => simp [rowP, setRow, wA, upd]
    | 11 => simp [rowP, setRow, wA, upd]
    | 12 => simp [rowP, setRow, wA, upd]
    | 13 => simp [rowP, setRow, wA, upd]
    | 14 => simp [rowP, setRow, wA, upd]
    | 15 => simp [rowP, setRow, wA, upd]
    | 16 => simp [rowP, setRow, wA, upd]
    | 17 => simp [rowP, setRow, wA, upd]
    | 18 => simp [rowP, setRow, wA, upd]
    | 19 => simp [rowP, setRow, wA, upd]
    | k + 20 => simp [rowP, setRow, upd]
  · match k with
    | 0 => simp [rowP, setRow, wA, upd, h]
    | 1 => simp [rowP, setRow, wA, upd, h]
    | 2 => simp [rowP, setRow, wA, upd, h]
    | 3 => simp [rowP, setRow, wA, upd, h]
    | 4 => simp [rowP, setRow, wA, upd, h]
    | 5 => simp [rowP, setRow, wA, upd, h]
    | 6 => simp [rowP, setRow, wA, upd, h]
    | 7 => simp [rowP, setRow, wA, upd, h]
    | 8 => simp [rowP, setRow, wA, upd, h]
    | 9 => simp [rowP, setRow, wA, upd, h]
    | 10 => simp [rowP, setRow, wA, upd, h]
    | 11 => simp [rowP, setRow, wA, upd, h]
    | 12 => simp [rowP, setRow, wA, upd, h]
    | 13 => simp [rowP, setRow, wA, upd, h]
    | 14 => simp [rowP, setRow, wA, upd, h]
    | 15 => simp [rowP, setRow, wA, upd, h]
    | 16 => simp [rowP, setRow, wA, upd, h]
    | 17 => simp [rowP, setRow, wA, upd, h]
    | 18 => simp [rowP, setRow, wA, upd, h]
    | 19 => simp [rowP, setRow, wA, upd, h]
    | k + 20 => simp [rowP, setRow, h]
theorem rw_12 (P : PV) (r : Nat) (x : Int32) : rowP (wA P 9 r x) = setRow (rowP P) r (upd (rowP P r) 12 x) := by
  funext r' k
  by_cases h : r' = r
  · subst h
    match k with
    | 0 => simp [rowP, setRow, wA, upd]
    | 1 => simp [rowP, setRow, wA, upd]
    | 2 => simp [rowP, setRow, wA, upd]
    | 3 => simp [rowP, setRow, wA, upd]
    | 4 => simp [rowP, setRow, wA, upd]
    | 5 => simp [rowP, setRow, wA, upd]
    | 6 => simp [rowP, setRow, wA, upd]
    | 7 => simp [rowP, setRow, wA, upd]
    | 8 => simp [rowP, setRow, wA, upd]
    | 9 => simp [rowP, setRow, wA, upd]
    | 10 => simp [rowP, setRow, wA, upd]
    | 11 => simp [rowP, setRow, wA, upd]
    | 12 => simp [rowP, setRow, wA, upd]
    | 13 => simp [rowP, setRow, wA, upd]
    | 14 => simp [rowP, setRow, wA, upd]
    | 15 => simp [rowP, setRow, wA, upd]
    | 16 => simp [rowP, setRow, wA, upd]
    | 17 => simp [rowP, setRow, wA, upd]
    | 18 => simp [rowP, setRow, wA, upd]
    | 19 => simp [rowP, setRow, wA, upd]
    | k + 20 => simp [rowP, setRow, upd]
  · match k with
    | 0 => simp [rowP, setRow, wA, upd, h]
    | 1 => simp [rowP, setRow, wA, upd, h]
    | 2 => simp [rowP, setRow, wA, upd, h]
    | 3 => simp [rowP, setRow, wA, upd, h]
    | 4 => simp [rowP, setRow, wA, upd, h]
    | 5 => simp [rowP, setRow, wA, upd, h]
    | 6 => simp [rowP, setRow, wA, upd, h]
    | 7 => simp [rowP, setRow, wA, upd, h]
    | 8 => simp [rowP, setRow, wA, upd, h]
    | 9 => simp [rowP, setRow, wA, upd, h]
    | 10 => simp [rowP, setRow, wA, upd, h]
    | 11 => simp [rowP, setRow, wA, upd, h]
    | 12 => simp [rowP, setRow, wA, upd, h]
    | 13 => simp [rowP, setRow, wA, upd, h]
    | 14 => simp [rowP, setRow, wA, upd, h]
    | 15 => simp [rowP, setRow, wA, upd, h]
    | 16 => simp [rowP, setRow, wA, upd, h]
    | 17 => simp [rowP, setRow, wA, upd, h]
    | 18 => simp [rowP, setRow, wA, upd, h]
    | 19 => simp [rowP, setRow, wA, upd, h]
    | k + 20 => simp [rowP, setRow, h]
theorem rw_13 (P : PV) (r : Nat) (x : Int32) : rowP (wA P 10 r x) = setRow (rowP P) r (upd (rowP P r) 13 x) := by
  funext r' k
  by_cases h : r' = r
  · subst h
    match k with
    | 0 => simp [rowP, setRow, wA, upd]
    | 1 => simp [rowP, setRow, wA, upd]
    | 2 => simp [rowP, setRow, wA, upd]
    | 3 => simp [rowP, setRow, wA, upd]
    | 4 => simp [rowP, setRow, wA, upd]
    | 5 => simp [rowP, setRow, wA, upd]
    | 6 => simp [rowP, setRow, wA, upd]
    | 7 => simp [rowP, setRow, wA, upd]
    | 8 => simp [rowP, setRow, wA, upd]
    | 9 => simp [rowP, setRow, wA, upd]
    | 10 => simp [rowP, setRow, wA, upd]
    | 11 => simp [rowP, setRow, wA, upd]
    | 12 => simp [rowP, setRow, wA, upd]
    | 13 => simp [rowP, setRow, wA, upd]
    | 14 => simp [rowP, setRow, wA, upd]
    | 15 => simp [rowP, setRow, wA, upd]
    | 16 => simp [rowP, setRow, wA, upd]
    | 17 => simp [rowP, setRow, wA, upd]
    | 18 => simp [rowP, setRow, wA, upd]
    | 19 => simp [rowP, setRow, wA, upd]
    | k + 20 => simp [rowP, setRow, upd]
  · match k with
    | 0 => simp [rowP, setRow, wA, upd, h]
    | 1 => simp [rowP, setRow, wA, upd, h]
    | 2 => simp [rowP, setRow, wA, upd, h]
    | 3 => simp [rowP, setRow, wA, upd, h]
    | 4 => simp [rowP, setRow, wA, upd, h]
    | 5 => simp [rowP, setRow, wA, upd, h]
    | 6 => simp [rowP, setRow, wA, upd, h]
    | 7 => simp [rowP, setRow, wA, upd, h]
    | 8 => simp [rowP, setRow, wA, upd, h]
    | 9 => simp [rowP, setRow, wA, upd, h]
    | 10 => simp [rowP, setRow, wA, upd, h]
    | 11 => simp [rowP, setRow, wA, upd, h]
    | 12 => simp [rowP, setRow, wA, upd, h]
    | 13 => simp [rowP, setRow, wA, upd, h]
    | 14 => simp [rowP, setRow, wA, upd, h]
    | 15 => simp [rowP, setRow, wA, upd, h]
    | 16 => simp [rowP, setRow, wA, upd, h]
    | 17 => simp [rowP, setRow, wA, upd, h]
    | 18 => simp [rowP, setRow, wA, upd, h]
    | 19 => simp [rowP, setRow, wA, upd, h]
    | k + 20 => simp [rowP, setRow, h]
theorem rw_14 (P : PV) (r : Nat) (x : Int32) : rowP (wA P 11 r x) = setRow (rowP P) r (upd (rowP P r) 14 x) := by
  funext r' k
  by_cases h : r' = r
  · subst h
    match k with
    | 0 => simp [rowP, setRow, wA, upd]
    | 1 => simp [rowP, setRow, wA, upd]
    | 2 => simp [rowP, setRow, wA, upd]
    | 3 => simp [rowP, setRow, wA, upd]
    | 4 => simp [rowP, setRow, wA, upd]
    | 5 => simp [rowP, setRow, wA, upd]
    | 6 => simp [rowP, setRow, wA, upd]
    | 7 => simp [rowP, setRow, wA, upd]
    | 8 => simp [rowP, setRow, wA, upd]
    | 9 => simp [rowP, setRow, wA, upd]
    | 10 => simp [rowP, setRow, wA, upd]
    | 11 => simp [rowP, setRow, wA, upd]
    | 12 => simp [rowP, setRow, wA, upd]
    | 13 => simp [rowP, setRow, wA, upd]
    | 14 => simp [rowP, setRow, wA, upd]
    | 15 => simp [rowP, setRow, wA, upd]
    | 16 => simp [rowP, setRow, wA, upd]
    | 17 => simp [rowP, setRow, wA, upd]
    | 18 => simp [rowP, setRow, wA, upd]
    | 19 => simp [rowP, setRow, wA, upd]
    | k + 20 => simp [rowP, setRow, upd]
  · match k with
    | 0 => simp [rowP, setRow, wA, upd, h]
    | 1 => simp [rowP, setRow, wA, upd, h]
    | 2 => simp [rowP, setRow, wA, upd, h]
    | 3 => simp [rowP, setRow, wA, upd, h]
    | 4 => simp [rowP, setRow, wA, upd, h]
    | 5 => simp [rowP, setRow, wA, upd, h]
    | 6 => simp [rowP, setRow, wA, upd, h]
    | 7 => simp [rowP, setRow, wA, upd, h]
    | 8 => simp [rowP, setRow, wA, upd, h]
    | 9 => simp [rowP, setRow, wA, upd, h]
    | 10 => simp [rowP, setRow, wA, upd, h]
    | 11 => simp [rowP, setRow, wA, upd, h]
    | 12 => simp [rowP, setRow, wA, upd, h]
    | 13 => simp [rowP, setRow, wA, upd, h]
    | 14 => simp [rowP, setRow, wA, upd, h]
    | 15 => simp [rowP, setRow, wA, upd, h]
    | 16 => simp [rowP, setRow, wA, upd, h]
    | 17 => simp [rowP, setRow, wA, upd, h]
    | 18 => simp [rowP, setRow, wA, upd, h]
    | 19 => simp [rowP, setRow, wA, upd, h]
    | k + 20 => simp [rowP, setRow, h]
theorem rw_15 (P : PV) (r : Nat) (x : Int32) : rowP (wA P 12 r x) = setRow (rowP P) r (upd (rowP P r) 15 x) := by
  funext r' k
  by_cases h : r' = r
  · subst h
    match k with
    | 0 => simp [rowP, setRow, wA, upd]
    | 1 => simp [rowP, setRow, wA, upd]
    | 2 => simp [rowP, setRow, wA, upd]
    | 3 => simp [rowP, setRow, wA, upd]
    | 4 => simp [rowP, setRow, wA, upd]
    | 5 => simp [rowP, setRow, wA, upd]
    | 6 => simp [rowP, setRow, wA, upd]
    | 7 => simp [rowP, setRow, wA, upd]
    | 8 => simp [rowP, setRow, wA, upd]
    | 9 => simp [rowP, setRow, wA, upd]
    | 10 => simp [rowP, setRow, wA, upd]
    | 11 => simp [rowP, setRow, wA, upd]
    | 12 => simp [rowP, setRow, wA, upd]
    | 13 => simp [rowP, setRow, wA, upd]
    | 14 => simp [rowP, setRow, wA, upd]
    | 15 => simp [rowP, setRow, wA, upd]
    | 16 => simp [rowP, setRow, wA, upd]
    | 17 => simp [rowP, setRow, wA, upd]
    | 18 => simp [rowP, setRow, wA, upd]
    | 19 => simp [rowP, setRow, wA, upd]
    | k + 20 => simp [rowP, setRow, upd]
  · match k with
    | 0 => simp [rowP, setRow, wA, upd, h]
    | 1 => simp [rowP, setRow, wA, upd, h]
    | 2 => simp [rowP, setRow, wA, upd, h]
    | 3 => simp [rowP, setRow, wA, upd, h]
    | 4 => simp [rowP, setRow, wA, upd, h]
    | 5 => simp [rowP, setRow, wA, upd, h]
    | 6 => simp [rowP, setRow, wA, upd, h]
    | 7 => simp [rowP, setRow, wA, upd, h]
    | 8 => simp [rowP, setRow, wA, upd, h]
    | 9 => simp [rowP, setRow, wA, upd, h]
    | 10 => simp [rowP, setRow, wA, upd, h]
    | 11 => simp [rowP, setRow, wA, upd, h]
    | 12 => simp [rowP, setRow, wA, upd, h]
    | 13 => simp [rowP, setRow, wA, upd, h]
    | 14 => simp [rowP, setRow, wA, upd, h]
    | 15 => simp [rowP, setRow, wA, upd, h]
    | 16 => simp [rowP, setRow, wA, upd, h]
    | 17 => simp [rowP, setRow, wA, upd, h]
    | 18 => simp [rowP, setRow, wA, upd, h]
    | 19 => simp [rowP, setRow, wA, upd, h]
    | k + 20 => simp [rowP, setRow, h]
theorem rw_16 (P : PV) (r : Nat) (x : Int32) : rowP (wA P 13 (r * 4 + 0) x) = setRow (rowP P) r (upd (rowP P r) 16 x) := by
  funext r' k
  by_cases h : r' = r
  · subst h
    match k with
    | 0 => simp [rowP, setRow, wA, upd]
    | 1 => simp [rowP, setRow, wA, upd]
    | 2 => simp [rowP, setRow, wA, upd]
    | 3 => simp [rowP, setRow, wA, upd]
    | 4 => simp [rowP, setRow, wA, upd]
    | 5 => simp [rowP, setRow, wA, upd]
    | 6 => simp [rowP, setRow, wA, upd]
    | 7 => simp [rowP, setRow, wA, upd]
    | 8 => simp [rowP, setRow, wA, upd]
    | 9 => simp [rowP, setRow, wA, upd]
    | 10 => simp [rowP, setRow, wA, upd]
    | 11 => simp [rowP, setRow, wA, upd]
    | 12 => simp [rowP, setRow, wA, upd]
    | 13 => simp [rowP, setRow, wA, upd]
    | 14 => simp [rowP, setRow, wA, upd]
    | 15 => simp [rowP, setRow, wA, upd]
    | 16 => simp [rowP, setRow, wA, upd]
    | 17 => simp [rowP, setRow, wA, upd]
    | 18 => simp [rowP, setRow, wA, upd]
    | 19 => simp [rowP, setRow, wA, upd]
    | k + 20 => simp [rowP, setRow, upd]
  · match k with
    | 0 => simp [rowP, setRow, wA, upd, h]
    | 1 => simp [rowP, setRow, wA, upd, h]
    | 2 => simp [rowP, setRow, wA, upd, h]
    | 3 => simp [rowP, setRow, wA, upd, h]
    | 4 => simp [rowP, setRow, wA, upd, h]
    | 5 => simp [rowP, setRow, wA, upd, h]
    | 6 => simp [rowP, setRow, wA, upd, h]
    | 7 => simp [rowP, setRow, wA, upd, h]
    | 8 => simp [rowP, setRow, wA, upd, h]
    | 9 => simp [rowP, setRow, wA, upd, h]
    | 10 => simp [rowP, setRow, wA, upd, h]
    | 11 => simp [rowP, setRow, wA, upd, h]
    | 12 => simp [rowP, setRow, wA, upd, h]
    | 13 => simp [rowP, setRow, wA, upd, h]
    | 14 => simp [rowP, setRow, wA, upd, h]
    | 15 => simp [rowP, setRow, wA, upd, h]
    | 16 => (simp [rowP, setRow, wA, upd, h]; try (intro h2; exfalso; omega))
    | 17 => (simp [rowP, setRow, wA, upd, h]; try (intro h2; exfalso; omega))
    | 18 => (simp [rowP, setRow, wA, upd, h]; try (intro h2; exfalso; omega))
    | 19 => (simp [rowP, setRow, wA, upd, h]; try (intro h2; exfalso; omega))
    | k + 20 => simp [rowP, setRow, h]
theorem rw_17 (P : PV) (r : Nat) (x : Int32) : rowP (wA P 13 (r * 4 + 1) x) = setRow (rowP P) r (upd (rowP P r) 17 x) := by
  funext r' k
  by_cases h : r' = r
  · subst h
    match k with
    | 0 => simp [rowP, setRow, wA, upd]
    | 1 => simp [rowP, setRow, wA, upd]
    | 2 => simp [rowP, setRow, wA, upd]
    | 3 => simp [rowP, setRow, wA, upd]
    | 4 => simp [rowP, setRow, wA, upd]
    | 5 => simp [rowP, setRow, wA, upd]
    | 6 => simp [rowP, setRow, wA, upd]
    | 7 => simp [rowP, setRow, wA, upd]
    | 8 => simp [rowP, setRow, wA, upd]
    | 9 => simp [rowP, setRow, wA, upd]
    | 10 => simp [rowP, setRow, wA, upd]
    | 11 => simp [rowP, setRow, wA, upd]
    | 12 => simp [rowP, setRow, wA, upd]
    | 13 => simp [rowP, setRow, wA, upd]
    | 14 => simp [rowP, setRow, wA, upd]
    | 15 => simp [rowP, setRow, wA, upd]
    | 16 => simp [rowP, setRow, wA, upd]
    | 17 => simp [rowP, setRow, wA, upd]
    | 18 => simp [rowP, setRow, wA, upd]
    | 19 => simp [rowP, setRow, wA, upd]
    | k + 20 => simp [rowP, setRow, upd]
  · match k with
    | 0 => simp [rowP, setRow, wA, upd, h]
    | 1 => simp [rowP, setRow, wA, upd, h]
    | 2 => simp [rowP, setRow, wA, upd, h]
    | 3 => simp [rowP, setRow, wA, upd, h]
    | 4 => simp [rowP, setRow, wA, upd, h]
    | 5 => simp [rowP, setRow, wA, upd, h]
    | 6 => simp [rowP, setRow, wA, upd, h]
    | 7 => simp [rowP, setRow, wA, upd, h]
    | 8 => simp [rowP, setRow, wA, upd, h]
    | 9 => simp [rowP, setRow, wA, upd, h]
    | 10 => simp [rowP, setRow, wA, upd, h]
    | 11 => simp [rowP, setRow, wA, upd, h]
    | 12 => simp [rowP, setRow, wA, upd, h]
    | 13 => simp [rowP, setRow, wA, upd, h]
    | 14 => simp [rowP, setRow, wA, upd, h]
    | 15 => simp [rowP, setRow, wA, upd, h]
    | 16 => (simp [rowP, setRow, wA, upd, h]; try (intro h2; exfalso; omega))
    | 17 => (simp [rowP, setRow, wA, upd, h]; try (intro h2; exfalso; omega))
    | 18 => (simp [rowP, setRow, wA, upd, h]; try (intro h2; exfalso; omega))
    | 19 => (simp [rowP, setRow, wA, upd, h]; try (intro h2; exfalso; omega))
    | k + 20 => simp [rowP, setRow, h]
theorem rw_18 (P : PV) (r : Nat) (x : Int32) : rowP (wA P 13 (r * 4 + 2) x) = setRow (rowP P) r (upd (rowP P r) 18 x) := by
  funext r' k
  by_cases h : r' = r
  · subst h
    match k with
    | 0 => simp [rowP, setRow, wA, upd]
    | 1 => simp [rowP, setRow, wA, upd]
    | 2 => simp [rowP, setRow, wA, upd]
    | 3 => simp [rowP, setRow, wA, upd]
    | 4 => simp [rowP, setRow, wA, upd]
    | 5 => simp [rowP, setRow, wA, upd]
    | 6 => simp [rowP, setRow, wA, upd]
    | 7 => simp [rowP, setRow, wA, upd]
    | 8 => simp [rowP, setRow, wA, upd]
    | 9 => simp [rowP, setRow, wA, upd]
    | 10 => simp [rowP, setRow, wA, upd]
    | 11 => simp [rowP, setRow, wA, upd]
    | 12 => simp [rowP, setRow, wA, upd]
    | 13 => simp [rowP, setRow, wA, upd]
    | 14 => simp [rowP, setRow, wA, upd]
    | 15 => simp [rowP, setRow, wA, upd]
    | 16 => simp [rowP, setRow, wA, upd]
    | 17 => simp [rowP, setRow, wA, upd]
    | 18 => simp [rowP, setRow, wA, upd]
    | 19 => simp [rowP, setRow, wA, upd]
    | k + 20 => simp [rowP, setRow, upd]
  · match k with
    | 0 => simp [rowP, setRow, wA, upd, h]
    | 1 => simp [rowP, setRow, wA, upd, h]
    | 2 => simp [rowP, setRow, wA, upd, h]
    | 3 => simp [rowP, setRow, wA, upd, h]
    | 4 => simp [rowP, setRow, wA, upd, h]
    | 5 => simp [rowP, setRow, wA, upd, h]
    | 6 => simp [rowP, setRow, wA, upd, h]
    | 7 => simp [rowP, setRow, wA, upd, h]
    | 8 => simp [rowP, setRow, wA, upd, h]
    | 9 => simp [rowP, setRow, wA, upd, h]
    | 10 => simp [rowP, setRow, wA, upd, h]
    | 11 => simp [rowP, setRow, wA, upd, h]
    | 12 => simp [rowP, setRow, wA, upd, h]
    | 13 => simp [rowP, setRow, wA, upd, h]
    | 14 => simp [rowP, setRow, wA, upd, h]
    | 15 => simp [rowP, setRow, wA, upd, h]
    | 16 => (simp [rowP, setRow, wA, upd, h]; try (intro h2; exfalso; omega))
    | 17 => (simp [rowP, setRow, wA, upd, h]; try (intro h2; exfalso; omega))
    | 18 => (simp [rowP, setRow, wA, upd, h]; try (intro h2; exfalso; omega))
    | 19 => (simp [rowP, setRow, wA, upd, h]; try (intro h2; exfalso; omega))
    | k + 20 => simp [rowP, setRow, h]
theorem rw_19 (P : PV) (r : Nat) (x : Int32) : rowP (wA P 13 (r * 4 + 3) x) = setRow (rowP P) r (upd (rowP P r) 19 x) := by
  funext r' k
  by_cases h : r' = r
  · subst h
    match k with
    | 0 => simp [rowP, setRow, wA, upd]
    | 1 => simp [rowP, setRow, wA, upd]
    | 2 => simp [rowP, setRow, wA, upd]
    | 3 => simp [rowP, setRow, wA, upd]
    | 4 => simp [rowP, setRow, wA, upd]
    | 5 => simp [rowP, setRow, wA, upd]
    | 6 => simp [rowP, setRow, wA, upd]
    | 7 => simp [rowP, setRow, wA, upd]
    | 8 => simp [rowP, setRow, wA, upd]
    | 9 => simp [rowP, setRow, wA, upd]
    | 10 => simp [rowP, setRow, wA, upd]
    | 11 => simp [rowP, setRow, wA, upd]
    | 12 => simp [rowP, setRow, wA, upd]
    | 13 => simp [rowP, setRow, wA, upd]
    | 14 => simp [rowP, setRow, wA, upd]
    | 15 => simp [rowP, setRow, wA, upd]
    | 16 => simp [rowP, setRow, wA, upd]
    | 17 => simp [rowP, setRow, wA, upd]
    | 18 => simp [rowP, setRow, wA, upd]
    | 19 => simp [rowP, setRow, wA, upd]
    | k + 20 => simp [rowP, setRow, upd]
  · match k with
    | 0 => simp [rowP, setRow, wA, upd, h]
    | 1 => simp [rowP, setRow, wA, upd, h]
    | 2 => simp [rowP, setRow, wA, upd, h]
    | 3 => simp [rowP, setRow, wA, upd, h]
    | 4 => simp [rowP, setRow, wA, upd, h]
    | 5 => simp [rowP, setRow, wA, upd, h]
    | 6 => simp [rowP, setRow, wA, upd, h]
    | 7 => simp [rowP, setRow, wA, upd, h]
    | 8 => simp [rowP, setRow, wA, upd, h]
    | 9 => simp [rowP, setRow, wA, upd, h]
    | 10 => simp [rowP, setRow, wA, upd, h]
    | 11 => simp [rowP, setRow, wA, upd, h]
    | 12 => simp [rowP, setRow, wA, upd, h]
    | 13 => simp [rowP, setRow, wA, upd, h]
    | 14 => simp [rowP, setRow, wA, upd, h]
    | 15 => simp [rowP, setRow, wA, upd, h]
    | 16 => (simp [rowP, setRow, wA, upd, h]; try (intro h2; exfalso; omega))
    | 17 => (simp [rowP, setRow, wA, upd, h]; try (intro h2; exfalso; omega))
    | 18 => (simp [rowP, setRow, wA, upd, h]; try (intro h2; exfalso; omega))
    | 19 => (simp [rowP, setRow, wA, upd, h]; try (intro h2; exfalso; omega))
    | k + 20 => simp [rowP, setRow, h]
theorem rw_0 (P : PV) (r : Nat) (x : Int32) : rowP (wA P 4 (r * 7 + 0) x) = setRow (rowP P) r (upd (rowP P r) 0 x) := by
  funext r' k
  by_cases h : r' = r
  · subst h
    match k with
    | 0 => simp [rowP, setRow, wA, upd]
    | 1 => simp [rowP, setRow, wA, upd]
    | 2 => simp [rowP, setRow, wA, upd]
    | 3 => simp [rowP, setRow, wA, upd]
    | 4 => simp [rowP, setRow, wA, upd]
    | 5 => simp [rowP, setRow, wA, upd]
    | 6 => simp [rowP, setRow, wA, upd]
    | 7 => simp [rowP, setRow, wA, upd]
    | 8 => simp [rowP, setRow, wA, upd]
    | 9 => simp [rowP, setRow, wA, upd]
    | 10 => simp [rowP, setRow, wA, upd]
    | 11 => simp [rowP, setRow, wA, upd]
    | 12 => simp [rowP, setRow, wA, upd]
    | 13 => simp [rowP, setRow, wA, upd]
    | 14 => simp [rowP, setRow, wA, upd]
    | 15 => simp [rowP, setRow, wA, upd]
    | 16 => simp [rowP, setRow, wA, upd]
    | 17 => simp [rowP, setRow, wA, upd]
    | 18 => simp [rowP, setRow, wA, upd]
    | 19 => simp [rowP, setRow, wA, upd]
    | k + 20 => simp [rowP, setRow, upd]
  · match k with
    | 0 => (simp [rowP, setRow, wA, upd, h]; try (intro h2; exfalso; omega))
    | 1 => (simp [rowP, setRow, wA, upd, h]; try (intro h2; exfalso; omega))
    | 2 => (simp [rowP, setRow, wA, upd, h]; try (intro h2; exfalso; omega))
    | 3 => (simp [rowP, setRow, wA, upd, h]; try (intro h2; exfalso; omega))
    | 4 => (simp [rowP, setRow, wA, upd, h]; try (intro h2; exfalso; omega))
    | 5 => (simp [rowP, setRow, wA, upd, h]; try (intro h2; exfalso; omega))
    | 6 => (simp [rowP, setRow, wA, upd, h]; try (intro h2; exfalso; omega))
    | 7 => simp [rowP, setRow, wA, upd, h]
    | 8 => simp [rowP, setRow, wA, upd, h]
    | 9 => simp [rowP, setRow, wA, upd, h]
    | 10 => simp [rowP, setRow, wA, upd, h]
    | 11 => simp [rowP, setRow, wA, upd, h]
    | 12 => simp [rowP, setRow, wA, upd, h]
    | 13 => simp [rowP, setRow, wA, upd, h]
    | 14 => simp [rowP, setRow, wA, upd, h]
    | 15 => simp [rowP, setRow, wA, upd, h]
    | 16 => simp [rowP, setRow, wA, upd, h]
    | 17 => simp [rowP, setRow, wA, upd, h]
    | 18 => simp [rowP, setRow, wA, upd, h]
    | 19 => simp [rowP, setRow, wA, upd, h]
    | k + 20 => simp [rowP, setRow, h]
theorem rw_1 (P : PV) (r : Nat) (x : Int32) : rowP (wA P 4 (r * 7 + 1) x) = setRow (rowP P) r (upd (rowP P r) 1 x) := by
  funext r' k
  by_cases h : r' = r
  · subst h
    match k with
    | 0 => simp [rowP, setRow, wA, upd]
    | 1 => simp [rowP, setRow, wA, upd]
    | 2 => simp [rowP, setRow, wA, upd]
    | 3 => simp [rowP, setRow, wA, upd]
    | 4 => simp [rowP, setRow, wA, upd]
    | 5 => simp [rowP, setRow, wA, upd]
    | 6 => simp [rowP, setRow, wA, upd]
    | 7 => simp [rowP, setRow, wA, upd]
    | 8 => simp [rowP, setRow, wA, upd]
    | 9 => simp [rowP, setRow, wA, upd]
    | 10 => simp [rowP, setRow, wA, upd]
    | 11 => simp [rowP, setRow, wA, upd]
    | 12 => simp [rowP, setRow, wA, upd]
    | 13 => simp [rowP, setRow, wA, upd]
    | 14 => simp [rowP, setRow, wA, upd]
    | 15 => simp [rowP, setRow, wA, upd]
    | 16 => simp [rowP, setRow, wA, upd]
    | 17 => simp [rowP, setRow, wA, upd]
    | 18 => simp [rowP, setRow, wA, upd]
    | 19 => simp [rowP, setRow, wA, upd]
    | k + 20 => simp [rowP, setRow, upd]
  · match k with
    | 0 => (simp [rowP, setRow, wA, upd, h]; try (intro h2; exfalso; omega))
    | 1 => (simp [rowP, setRow, wA, upd, h]; try (intro h2; exfalso; omega))
    | 2 => (simp [rowP, setRow, wA, upd, h]; try (intro h2; exfalso; omega))
    | 3 => (simp [rowP, setRow, wA, upd, h]; try (intro h2; exfalso; omega))
    | 4 => (simp [rowP, setRow, wA, upd, h]; try (intro h2; exfalso; omega))
    | 5 => (simp [rowP, setRow, wA, upd, h]; try (intro h2; exfalso; omega))
    | 6 => (simp [rowP, setRow, wA, upd, h]; try (intro h2; exfalso; omega))
    | 7 => simp [rowP, setRow, wA, upd, h]
    | 8 => simp [rowP, setRow, wA, upd, h]
    | 9 => simp [rowP, setRow, wA, upd, h]
    | 10 => simp [rowP, setRow, wA, upd, h]
    | 11 => simp [rowP, setRow, wA, upd, h]
    | 12 => simp [rowP, setRow, wA, upd, h]
    | 13 => simp [rowP, setRow, wA, upd, h]
    | 14 => simp [rowP, setRow, wA, upd, h]
    | 15 => simp [rowP, setRow, wA, upd, h]
    | 16 => simp [rowP, setRow, wA, upd, h]
    | 17 => simp [rowP, setRow, wA, upd, h]
    | 18 => simp [rowP, setRow, wA, upd, h]
    | 19 => simp [rowP, setRow, wA, upd, h]
    | k + 20 => simp [rowP, setRow, h]
theorem rw_2 (P : PV) (r : Nat) (x : Int32) : rowP (wA P 4 (r * 7 + 2) x) = setRow (rowP P) r (upd (rowP P r) 2 x) := by
  funext r' k
  by_cases h : r' = r
  · subst h
    match k with
    | 0 => simp [rowP, setRow, wA, upd]
    | 1 => simp [rowP, setRow, wA, upd]
    | 2 => simp [rowP, setRow, wA, upd]
    | 3 => simp [rowP, setRow, wA, upd]
    | 4 => simp [rowP, setRow, wA, upd]
    | 5 => simp [rowP, setRow, wA, upd]
    | 6 => simp [rowP, setRow, wA, upd]
    | 7 => simp [rowP, setRow, wA, upd]
    | 8 => simp [rowP, setRow, wA, upd]
    | 9 => simp [rowP, setRow, wA, upd]
    | 10 => simp [rowP, setRow, wA, upd]
    | 11 => simp [rowP, setRow, wA, upd]
    | 12 => simp [rowP, setRow, wA, upd]
    | 13 => simp [rowP, setRow, wA, upd]
    | 14 => simp [rowP, setRow, wA, upd]
    | 15 => simp [rowP, setRow, wA, upd]
    | 16 => simp [rowP, setRow, wA, upd]
    | 17 => simp [rowP, setRow, wA, upd]
    | 18 => simp [rowP, setRow, wA, upd]
    | 19 => simp [rowP, setRow, wA, upd]
    | k + 20 => simp [rowP, setRow, upd]
  · match k with
    | 0 => (simp [rowP, setRow, wA, upd, h]; try (intro h2; exfalso; omega))
    | 1 => (simp [rowP, setRow, wA, upd, h]; try (intro h2; exfalso; omega))
    | 2 => (simp [rowP, setRow, wA, upd, h]; try (intro h2; exfalso; omega))
    | 3 => (simp [rowP, setRow, wA, upd, h]; try (intro h2; exfalso; omega))
    | 4 => (simp [rowP, setRow, wA, upd, h]; try (intro h2; exfalso; omega))
    | 5 => (simp [rowP, setRow, wA, upd, h]; try (intro h2; exfalso; omega))
    | 6 => (simp [rowP, setRow, wA, upd, h]; try (intro h2; exfalso; omega))
    | 7 => simp [rowP, setRow, wA, upd, h]
    | 8 => simp [rowP, setRow, wA, upd, h]
    | 9 => simp [rowP, setRow, wA, upd, h]
    | 10 => simp [rowP, setRow, wA, upd, h]
    | 11 => simp [rowP, setRow, wA, upd, h]
    | 12 => simp [rowP, setRow, wA, upd, h]
    | 13 => simp [rowP, setRow, wA, upd, h]
    | 14 => simp [rowP, setRow, wA, upd, h]
    | 15 => simp [rowP, setRow, wA, upd, h]
    | 16 => simp [rowP, setRow, wA, upd, h]
    | 17 => simp [rowP, setRow, wA, upd, h]
    | 18 => simp [rowP, setRow, wA, upd, h]
    | 19 => simp [rowP, setRow, wA, upd, h]
    | k + 20 => simp [rowP, setRow, h]
theorem rw_3 (P : PV) (r : Nat) (x : Int32) : rowP (wA P 4 (r * 7 + 3) x) = setRow (rowP P) r (upd (rowP P r) 3 x) := by
  funext r' k
  by_cases h : r' = r
  · subst h
    match k with
    | 0 => simp [rowP, setRow, wA, upd]
    | 1 => simp [rowP, setRow, wA, upd]
    | 2 => simp [rowP, setRow, wA, upd]
    | 3 => simp [rowP, setRow, wA, upd]
    | 4 => simp [rowP, setRow, wA, upd]
    | 5 => simp [rowP, setRow, wA, upd]
    | 6 => simp [rowP, setRow, wA, upd]
    | 7 => simp [rowP, setRow, wA, upd]
    | 8 => simp [rowP, setRow, wA, upd]
    | 9 => simp [rowP, setRow, wA, upd]
    | 10 => simp [rowP, setRow, wA, upd]
    | 11 => simp [rowP, setRow, wA, upd]
    | 12 => simp [rowP, setRow, wA, upd]
    | 13 => simp [rowP, setRow, wA, upd]
    | 14 => simp [rowP, setRow, wA, upd]
    | 15 => simp [rowP, setRow, wA, upd]
    | 16 => simp [rowP, setRow, wA, upd]
    | 17 => simp [rowP, setRow, wA, upd]
    | 18 => simp [rowP, setRow, wA, upd]
    | 19 => simp [rowP, setRow, wA, upd]
    | k + 20 => simp [rowP, setRow, upd]
  · match k with
    | 0 => (simp [rowP, setRow, wA, upd, h]; try (intro h2; exfalso; omega))
    | 1 => (simp [rowP, setRow, wA, upd, h]; try (intro h2; exfalso; omega))
    | 2 => (simp [rowP, setRow, wA, upd, h]; try (intro h2; exfalso; omega))
    | 3 => (simp [rowP, setRow, wA, upd, h]; try (intro h2; exfalso; omega))
    | 4 => (simp [rowP, setRow, wA, upd, h]; try (intro h2; exfalso; omega))
    | 5 => (simp [rowP, setRow, wA, upd, h]; try (intro h2; exfalso; omega))
    | 6 => (simp [rowP, setRow, wA, upd, h]; try (intro h2; exfalso; omega))
    | 7 => simp [rowP, setRow, wA, upd, h]
    | 8 => simp [rowP, setRow, wA, upd, h]
    | 9 => simp [rowP, setRow, wA, upd, h]
    | 10 => simp [rowP, setRow, wA, upd, h]
    | 11 => simp [rowP, setRow, wA, upd, h]
    | 12 => simp [rowP, setRow, wA, upd, h]
    | 13 => simp [rowP, setRow, wA, upd, h]
    | 14 => simp [rowP, setRow, wA, upd, h]
    | 15 => simp [rowP, setRow, wA, upd, h]
    | 16 => simp [rowP, setRow, wA, upd, h]
    | 17 => simp [rowP, setRow, wA, upd, h]
    | 18 => simp [rowP, setRow, wA, upd, h]
    | 19 => simp [rowP, setRow, wA, upd, h]
    | k + 20 => simp [rowP, setRow, h]
theorem rw_4 (P : PV) (r : Nat) (x : Int32) : rowP (wA P 4 (r * 7 + 4) x) = setRow (rowP P) r (upd (rowP P r) 4 x) := by
  funext r' k
  by_cases h : r' = r
  · subst h
    match k with
    | 0 => simp [rowP, setRow, wA, upd]
    | 1 => simp [rowP, setRow, wA, upd]
    | 2 => simp [rowP, setRow, wA, upd]
    | 3 => simp [rowP, setRow, wA, upd]
    | 4 => simp [rowP, setRow, wA, upd]
    | 5 => simp [rowP, setRow, wA, upd]
    | 6 => simp [rowP, setRow, wA, upd]
    | 7 => simp [rowP, setRow, wA, upd]
    | 8 => simp [rowP, setRow, wA, upd]
    | 9 => simp [rowP, setRow, wA, upd]
    | 10 => simp [rowP, setRow, wA, upd]
    | 11 => simp [rowP, setRow, wA, upd]
    | 12 => simp [rowP, setRow, wA, upd]
    | 13 => simp [rowP, setRow, wA, upd]
    | 14 => simp [rowP, setRow, wA, upd]
    | 15 => simp [rowP, setRow, wA, upd]
    | 16 => simp [rowP, setRow, wA, upd]
    | 17 => simp [rowP, setRow, wA, upd]
    | 18 => simp [rowP, setRow, wA, upd]
    | 19 => simp [rowP, setRow, wA, upd]
    | k + 20 => simp [rowP, setRow, upd]
  · match k with
    | 0 => (simp [rowP, setRow, wA, upd, h]; try (intro h2; exfalso; omega))
    | 1 => (simp [rowP, setRow, wA, upd, h]; try (intro h2; exfalso; omega))
    | 2 => (simp [rowP, setRow, wA, upd, h]; try (intro h2; exfalso; omega))
    | 3 => (simp [rowP, setRow, wA, upd, h]; try (intro h2; exfalso; omega))
    | 4 => (simp [rowP, setRow, wA, upd, h]; try (intro h2; exfalso; omega))
    | 5 => (simp [rowP, setRow, wA, upd, h]; try (intro h2; exfalso; omega))
    | 6 => (simp [rowP, setRow, wA, upd, h]; try (intro h2; exfalso; omega))
    | 7 => simp [rowP, setRow, wA, upd, h]
    | 8 => simp [rowP, setRow, wA, upd, h]
    | 9 => simp [rowP, setRow, wA, upd, h]
    | 10 => simp [rowP, setRow, wA, upd, h]
    | 11 => simp [rowP, setRow, wA, upd, h]
    | 12 => simp [rowP, setRow, wA, upd, h]
    | 13 => simp [rowP, setRow, wA, upd, h]
    | 14 => simp [rowP, setRow, wA, upd, h]
    | 15 => simp [rowP, setRow, wA, upd, h]
    | 16 => simp [rowP, setRow, wA, upd, h]
    | 17 => simp [rowP, setRow, wA, upd, h]
    | 18 => simp [rowP, setRow, wA, upd, h]
    | 19 => simp [rowP, setRow, wA, upd, h]
    | k + 20 => simp [rowP, setRow, h]
theorem rw_5 (P : PV) (r : Nat) (x : Int32) : rowP (wA P 4 (r * 7 + 5) x) = setRow (rowP P) r (upd (rowP P r) 5 x) := by
  funext r' k
  by_cases h : r' = r
  · subst h
    match k with
    | 0 => simp [rowP, setRow, wA, upd]
    | 1 => simp [rowP, setRow, wA, upd]
    | 2 => simp [rowP, setRow, wA, upd]
    | 3 => simp [rowP, setRow, wA, upd]
    | 4 => simp [rowP, setRow, wA, upd]
    | 5 => simp [rowP, setRow, wA, upd]
    | 6 => simp [rowP, setRow, wA, upd]
    | 7 => simp [rowP, setRow, wA, upd]
    | 8 => simp [rowP, setRow, wA, upd]
    | 9 => simp [rowP, setRow, wA, upd]
    | 10 => simp [rowP, setRow, wA, upd]
    | 11 => simp [rowP, setRow, wA, upd]
    | 12 => simp [rowP, setRow, wA, upd]
    | 13 => simp [rowP, setRow, wA, upd]
    | 14 => simp [rowP, setRow, wA, upd]
    | 15 => simp [rowP, setRow, wA, upd]
    | 16 => simp [rowP, setRow, wA, upd]
    | 17 => simp [rowP, setRow, wA, upd]
    | 18 => simp [rowP, setRow, wA, upd]
    | 19 => simp [rowP, setRow, wA, upd]
    | k + 20 => simp [rowP, setRow, upd]
  · match k with
    | 0 => (simp [rowP, setRow, wA, upd, h]; try (intro h2; exfalso; omega))
    | 1 => (simp [rowP, setRow, wA, upd, h]; try (intro h2; exfalso; omega))
    | 2 => (simp [rowP, setRow, wA, upd, h]; try (intro h2; exfalso; omega))
    | 3 => (simp [rowP, setRow, wA, upd, h]; try (intro h2; exfalso; omega))
    | 4 => (simp [rowP, setRow, wA, upd, h]; try (intro h2; exfalso; omega))
    | 5 => (simp [rowP, setRow, wA, upd, h]; try (intro h2; exfalso; omega))
    | 6 => (simp [rowP, setRow, wA, upd, h]; try (intro h2; exfalso; omega))
    | 7 => simp [rowP, setRow, wA, upd, h]
    | 8 => simp [rowP, setRow, wA, upd, h]
    | 9 => simp [rowP, setRow, wA, upd, h]
    | 10 => simp [rowP, setRow, wA, upd, h]
    | 11 => simp [rowP, setRow, wA, upd, h]
    | 12 => simp [rowP, setRow, wA, upd, h]
    | 13 => simp [rowP, setRow, wA, upd, h]
    | 14 => simp [rowP, setRow, wA, upd, h]
    | 15 => simp [rowP, setRow, wA, upd, h]
    | 16 => simp [rowP, setRow, wA, upd, h]
    | 17 => simp [rowP, setRow, wA, upd, h]
    | 18 => simp [rowP, setRow, wA, upd, h]
    | 19 => simp [rowP, setRow, wA, upd, h]
    | k + 20 => simp [rowP, setRow, h]
theorem rw_6 (P : PV) (r : Nat) (x : Int32) : rowP (wA P 4 (r * 7 + 6) x) = setRow (rowP P) r (upd (rowP P r) 6 x) := by
  funext r' k
  by_cases h : r' = r
  · subst h
    match k with
    | 0 => simp [rowP, setRow, wA, upd]
    | 1 => simp [rowP, setRow, wA, upd]
    | 2 => simp [rowP, setRow, wA, upd]
    | 3 => simp [rowP, setRow, wA, upd]
    | 4 => simp [rowP, setRow, wA, upd]
    | 5 => simp [rowP, setRow, wA, upd]
    | 6 => simp [rowP, setRow, wA, upd]
    | 7 => simp [rowP, setRow, wA, upd]
    | 8 => simp [rowP, setRow, wA, upd]
    | 9 => simp [rowP, setRow, wA, upd]
    | 10 => simp [rowP, setRow, wA, upd]
    | 11 => simp [rowP, setRow, wA, upd]
    | 12 => simp [rowP, setRow, wA, upd]
    | 13 => simp [rowP, setRow, wA, upd]
    | 14 => simp [rowP, setRow, wA, upd]
    | 15 => simp [rowP, setRow, wA, upd]
    | 16 => simp [rowP, setRow, wA, upd]
    | 17 => simp [rowP, setRow, wA, upd]
    | 18 => simp [rowP, setRow, wA, upd]
    | 19 => simp [rowP, setRow, wA, upd]
    | k + 20 => simp [rowP, setRow, upd]
  · match k with
    | 0 => (simp [rowP, setRow, wA, upd, h]; try (intro h2; exfalso; omega))
    | 1 => (simp [rowP, setRow, wA, upd, h]; try (intro h2; exfalso; omega))
    | 2 => (simp [rowP, setRow, wA, upd, h]; try (intro h2; exfalso; omega))
    | 3 => (simp [rowP, setRow, wA, upd, h]; try (intro h2; exfalso; omega))
    | 4 => (simp [rowP, setRow, wA, upd, h]; try (intro h2; exfalso; omega))
    | 5 => (simp [rowP, setRow, wA, upd, h]; try (intro h2; exfalso; omega))
    | 6 => (simp [rowP, setRow, wA, upd, h]; try (intro h2; exfalso; omega))
    | 7 => simp [rowP, setRow, wA, upd, h]
    | 8 => simp [rowP, setRow, wA, upd, h]
    | 9 => simp [rowP, setRow, wA, upd, h]
    | 10 => simp [rowP, setRow, wA, upd, h]
    | 11 => simp [rowP, setRow, wA, upd, h]
    | 12 => simp [rowP, setRow, wA, upd, h]
    | 13 => simp [rowP, setRow, wA, upd, h]
    | 14 => simp [rowP, setRow, wA, upd, h]
    | 15 => simp [rowP, setRow, wA, upd, h]
    | 16 => simp [rowP, setRow, wA, upd, h]
    | 17 => simp [rowP, setRow, wA, upd, h]
    | 18 => simp [rowP, setRow, wA, upd, h]
    | 19 => simp [rowP, setRow, wA, upd, h]
    | k + 20 => simp [rowP, setRow, h]
theorem rw_S (P : PV) (k : Nat) (x : Int32) : rowP (wS P k x) = rowP P := rfl
theorem rw_R (P : PV) (k : Nat) (f : Nat → Int32) (hk : 14 ≤ k) : rowP (wR P k f) = rowP P := by
  funext r j
  match j with
  | 0 => simp [rowP, wR, show 4 ≠ k by omega]
  | 1 => simp [rowP, wR, show 4 ≠ k by omega]
  | 2 => simp [rowP, wR, show 4 ≠ k by omega]
  | 3 => simp [rowP, wR, show 4 ≠ k by omega]
  | 4 => simp [rowP, wR, show 4 ≠ k by omega]
  | 5 => simp [rowP, wR, show 4 ≠ k by omega]
  | 6 => simp [rowP, wR, show 4 ≠ k by omega]
  | 7 => simp [rowP, wR, show 5 ≠ k by omega]
  | 9 => simp [rowP, wR, show 6 ≠ k by omega]
  | 10 => simp [rowP, wR, show 7 ≠ k by omega]
  | 11 => simp [rowP, wR, show 8 ≠ k by omega]
  | 12 => simp [rowP, wR, show 9 ≠ k by omega]
  | 13 => simp [rowP, wR, show 10 ≠ k by omega]
  | 14 => simp [rowP, wR, show 11 ≠ k by omega]
  | 15 => simp [rowP, wR, show 12 ≠ k by omega]
  | 16 => simp [rowP, wR, show 13 ≠ k by omega]
  | 17 => simp [rowP, wR, show 13 ≠ k by omega]
  | 18 => simp [rowP, wR, show 13 ≠ k by omega]
  | 19 => simp [rowP, wR, show 13 ≠ k by omega]
  | 8 => rfl
  | j + 20 => rfl
/-- a bit of a mask -/
def tb (x : Int32) (k : Nat) : Bool := x.toBitVec.toNat.testBit k
theorem nI_nat (x : Int32) : nI x.toBitVec.toNat = x := by
  apply Int32.toBitVec_inj.1
  show BitVec.ofNat 32 x.toBitVec.toNat = x.toBitVec
  simp
theorem tb_and (x : Int32) {k : Nat} (hk : k < 31) : (x &&& ((1 : Int32) <<< (nI k &&& 31))) = 0 ↔ tb x k = false := by
  have h := nI_and_bit (a := x.toBitVec.toNat) hk
  rw [nI_nat] at h
  exact h
theorem tb_nI {n : Nat} (h : n < 2 ^ 32) (k : Nat) : tb (nI n) k = n.testBit k := by
  unfold tb
  rw [pk_tn h]
/-- a rail's flag: how it is stuck, its voltage, target, threshold -/
def flg (st v ta th : Int32) : Bool := if st = 0 then !decide (v * 100 < ta * th) else decide (st = 2)
def flgR (row : Nat → Int32) : Bool := flg (row 11) (row 10) (row 0) (row 3)
/-- the lowest rail that is needed and not good with a true flag, from k on -/
def badF (S : Nat → Int32) (V : Nat → Nat → Int32) (nd : Int32) : Nat → Nat → Int32
  | _, 0 => -1
  | k, m + 1 => if tb nd k = true ∧ (¬ S k = 3 ∨ flgR (V k) = false) then nI k else badF S V nd (k + 1) m
def badR (S : Nat → Int32) (V : Nat → Nat → Int32) (r : Nat) : Int32 := badF S V (V r 7) 0 r
/-- all users of r, from k on, are off or failed, and discharged -/
def restF (S : Nat → Int32) (V : Nat → Nat → Int32) (res : Int32) (r : Nat) : Nat → Nat → Bool
  | _, 0 => true
  | k, m + 1 => if tb (V k 7) r = true ∧ ¬ ((S k = 0 ∨ S k = 5) ∧ ¬ res < V k 10) then false else restF S V res r (k + 1) m
def failR (r : Nat) (row : Nat → Int32) : Int32 × (Nat → Int32) := (if row 14 + 1 < row 6 then 4 else 5, upd (upd (upd row 15 (nI r)) 14 (row 14 + 1)) 18 (row 18 + 1))
/-- a rail's next state, and its row with time, failures, blame, the account of its failures -/
def nsR (wn dis flag rest : Bool) (bad : Int32) (r : Nat) (row : Nat → Int32) : Int32 × (Nat → Int32) :=
  if row 9 = 0 then (if wn then (1, upd (upd row 13 0) 14 0) else (0, row))
  else if row 9 = 1 then (if wn then (if dis then (if bad = -1 then (if row 4 < row 13 + 1 then (2, upd (upd row 13 (row 13 + 1)) 13 0) else (1, upd row 13 (row 13 + 1))) else (1, upd row 13 0)) else (1, upd row 13 0)) else (0, row))
  else if row 9 = 2 then (if wn then (if bad = -1 then (if flag then (3, upd row 15 (-1)) else (if row 13 + 1 < row 5 then (2, upd row 13 (row 13 + 1)) else failR r (upd row 13 (row 13 + 1)))) else (4, upd row 15 bad)) else (4, upd row 15 (-1)))
  else if row 9 = 3 then (if bad = -1 then (if flag then (if wn then (3, row) else (if rest then (4, upd row 15 (-1)) else (3, row))) else failR r row) else (4, upd row 15 bad))
  else if row 9 = 4 then (if dis then (if wn then (1, upd row 13 0) else (0, row)) else (4, row))
  else (if wn then (5, row) else (if dis then (0, row) else (5, row)))

