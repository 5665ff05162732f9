/-! the methods as plain functions over the small heap: written by program out of the bytecode -/
def FU : Nat := 3000
def f_X0_init (h : MH) (x0 : Nat) : Option MH :=
  (nA h 0 (64, .inl (fun _ => 0))).bind fun h1 =>
  (hP h1 0 x0 0 (.ref (h.length))).bind fun h2 =>
  some h2
def f_X0_copyFrom (h : MH) (x0 : Nat) (x1 : Nat) : Option MH :=
  (hI h 0 x1 1).bind fun v1 =>
  (hP h 0 x0 1 (.int v1)).bind fun h2 =>
  (hR h2 0 x1 0).bind fun v3 =>
  (hR h2 0 x0 0).bind fun v4 =>
  (cpA h2 v3 (0 : Int32) v4 (0 : Int32) (64 : Int32)).bind fun h5 =>
  some h5
def f_X0_enter (h : MH) (x0 : Nat) (x1 : Int32) (x2 : Int32) (x3 : Int32) (x4 : Int32) : Option MH :=
  (hR h 0 x0 0).bind fun v1 =>
  (hR h 0 x0 0).bind fun v2 =>
  (cpA h v1 (0 : Int32) v2 (4 : Int32) (60 : Int32)).bind fun h3 =>
  (hR h3 0 x0 0).bind fun v4 =>
  (sI h3 v4 (0 : Int32) x1).bind fun h5 =>
  (hR h5 0 x0 0).bind fun v6 =>
  (sI h5 v6 (1 : Int32) x2).bind fun h7 =>
  (hR h7 0 x0 0).bind fun v8 =>
  (sI h7 v8 (2 : Int32) x3).bind fun h9 =>
  (hR h9 0 x0 0).bind fun v10 =>
  (sI h9 v10 (3 : Int32) x4).bind fun h11 =>
  (hI h11 0 x0 1).bind fun v12 =>
  (hP h11 0 x0 1 (.int (mmin (v12 + (1 : Int32)) (16 : Int32)))).bind fun h13 =>
  some h13
def f_X0_numberAt (h : MH) (x0 : Nat) (x1 : Int32) (x2 : Int32) : Option Int32 :=
  (hR h 0 x0 0).bind fun v1 =>
  (aI h v1 ((x1 * (4 : Int32)) + x2)).bind fun v2 =>
  some v2
def b_X0_removeRail_43 (rec4 : MH → Nat → Int32 → Int32 → Int32 → Option (Int32 × MH)) (h : MH) (x0 : Nat) (x1 : Int32) (x2 : Int32) (x3 : Int32) : Option (Int32 × MH) :=
  rec4 h x0 x1 x2 (x3 + (1 : Int32))
def b_X0_removeRail_4 (rec4 : MH → Nat → Int32 → Int32 → Int32 → Option (Int32 × MH)) (h : MH) (x0 : Nat) (x1 : Int32) (x2 : Int32) (x3 : Int32) : Option (Int32 × MH) :=
  (hI h 0 x0 1).bind fun v1 =>
  if v1 ≤ x3 then
    ((hI h 0 x0 1).bind fun v2 =>
    (some (v2 - x2)).bind fun v3 =>
    (hP h 0 x0 1 (.int x2)).bind fun h4 =>
    some (v3, h4))
  else
    ((vcall h 0 x0 (f_X0_numberAt h x0 x3 (1 : Int32))).bind fun v5 =>
    if v5 = x1 then
      (b_X0_removeRail_43 rec4 h x0 x1 x2 x3)
    else
      ((hR h 0 x0 0).bind fun v6 =>
      (hR h 0 x0 0).bind fun v7 =>
      (cpA h v6 (x3 * (4 : Int32)) v7 (x2 * (4 : Int32)) (4 : Int32)).bind fun h8 =>
      b_X0_removeRail_43 rec4 h8 x0 x1 (x2 + (1 : Int32)) x3))
def f_X0_removeRail_4 : Nat → MH → Nat → Int32 → Int32 → Int32 → Option (Int32 × MH)
  | 0 => fun _ _ _ _ _ => none
  | n + 1 => fun h x0 x1 x2 x3 => b_X0_removeRail_4 (f_X0_removeRail_4 n) h x0 x1 x2 x3
def f_X0_removeRail (h : MH) (x0 : Nat) (x1 : Int32) : Option (Int32 × MH) :=
  f_X0_removeRail_4 FU h x0 x1 (0 : Int32) (0 : Int32)
def f_X1_init (h : MH) (x0 : Nat) : Option MH :=
  (hP h 1 x0 2 (.int (100 : Int32))).bind fun h1 =>
  (nA h1 0 (56, .inl (fun _ => 0))).bind fun h2 =>
  (hP h2 1 x0 4 (.ref (h1.length))).bind fun h3 =>
  (nA h3 0 (8, .inl (fun _ => 0))).bind fun h4 =>
  (hP h4 1 x0 5 (.ref (h3.length))).bind fun h5 =>
  (nA h5 0 (8, .inl (fun _ => 0))).bind fun h6 =>
  (hP h6 1 x0 6 (.ref (h5.length))).bind fun h7 =>
  (nA h7 0 (8, .inl (fun _ => 0))).bind fun h8 =>
  (hP h8 1 x0 7 (.ref (h7.length))).bind fun h9 =>
  (nA h9 0 (8, .inl (fun _ => 0))).bind fun h10 =>
  (hP h10 1 x0 8 (.ref (h9.length))).bind fun h11 =>
  (nA h11 0 (8, .inl (fun _ => 0))).bind fun h12 =>
  (hP h12 1 x0 9 (.ref (h11.length))).bind fun h13 =>
  (nA h13 0 (8, .inl (fun _ => 0))).bind fun h14 =>
  (hP h14 1 x0 10 (.ref (h13.length))).bind fun h15 =>
  (nA h15 0 (8, .inl (fun _ => 0))).bind fun h16 =>
  (hP h16 1 x0 11 (.ref (h15.length))).bind fun h17 =>
  (nA h17 0 (8, .inl (fun _ => 0))).bind fun h18 =>
  (hP h18 1 x0 12 (.ref (h17.length))).bind fun h19 =>
  (nA h19 0 (32, .inl (fun _ => 0))).bind fun h20 =>
  (hP h20 1 x0 13 (.ref (h19.length))).bind fun h21 =>
  (nO h21 0 [.null, .int 0]).bind fun h22 =>
  (f_X0_init h22 (h21.length)).bind fun h23 =>
  (hP h23 1 x0 14 (.ref (h21.length))).bind fun h24 =>
  (nA h24 0 (8, .inl (fun _ => 0))).bind fun h25 =>
  (hP h25 1 x0 15 (.ref (h24.length))).bind fun h26 =>
  (nA h26 0 (8, .inl (fun _ => 0))).bind fun h27 =>
  (hP h27 1 x0 16 (.ref (h26.length))).bind fun h28 =>
  (nA h28 0 (8, .inl (fun _ => 0))).bind fun h29 =>
  (hP h29 1 x0 17 (.ref (h28.length))).bind fun h30 =>
  some h30
def f_X1_copyFrom (h : MH) (x0 : Nat) (x1 : Nat) : Option MH :=
  (hI h 1 x1 0).bind fun v1 =>
  (hP h 1 x0 0 (.int v1)).bind fun h2 =>
  (hI h2 1 x1 1).bind fun v3 =>
  (hP h2 1 x0 1 (.int v3)).bind fun h4 =>
  (hI h4 1 x1 2).bind fun v5 =>
  (hP h4 1 x0 2 (.int v5)).bind fun h6 =>
  (hI h6 1 x1 3).bind fun v7 =>
  (hP h6 1 x0 3 (.int v7)).bind fun h8 =>
  (hR h8 1 x1 4).bind fun v9 =>
  (hR h8 1 x0 4).bind fun v10 =>
  (cpA h8 v9 (0 : Int32) v10 (0 : Int32) (56 : Int32)).bind fun h11 =>
  (hR h11 1 x1 5).bind fun v12 =>
  (hR h11 1 x0 5).bind fun v13 =>
  (cpA h11 v12 (0 : Int32) v13 (0 : Int32) (8 : Int32)).bind fun h14 =>
  (hR h14 1 x1 6).bind fun v15 =>
  (hR h14 1 x0 6).bind fun v16 =>
  (cpA h14 v15 (0 : Int32) v16 (0 : Int32) (8 : Int32)).bind fun h17 =>
  (hR h17 1 x1 7).bind fun v18 =>
  (hR h17 1 x0 7).bind fun v19 =>
  (cpA h17 v18 (0 : Int32) v19 (0 : Int32) (8 : Int32)).bind fun h20 =>
  (hR h20 1 x1 8).bind fun v21 =>
  (hR h20 1 x0 8).bind fun v22 =>
  (cpA h20 v21 (0 : Int32) v22 (0 : Int32) (8 : Int32)).bind fun h23 =>
  (hR h23 1 x1 9).bind fun v24 =>
  (hR h23 1 x0 9).bind fun v25 =>
  (cpA h23 v24 (0 : Int32) v25 (0 : Int32) (8 : Int32)).bind fun h26 =>
  (hR h26 1 x1 10).bind fun v27 =>
  (hR h26 1 x0 10).bind fun v28 =>
  (cpA h26 v27 (0 : Int32) v28 (0 : Int32) (8 : Int32)).bind fun h29 =>
  (hR h29 1 x1 11).bind fun v30 =>
  (hR h29 1 x0 11).bind fun v31 =>
  (cpA h29 v30 (0 : Int32) v31 (0 : Int32) (8 : Int32)).bind fun h32 =>
  (hR h32 1 x1 12).bind fun v33 =>
  (hR h32 1 x0 12).bind fun v34 =>
  (cpA h32 v33 (0 : Int32) v34 (0 : Int32) (8 : Int32)).bind fun h35 =>
  (hR h35 1 x1 13).bind fun v36 =>
  (hR h35 1 x0 13).bind fun v37 =>
  (cpA h35 v36 (0 : Int32) v37 (0 : Int32) (32 : Int32)).bind fun h38 =>
  (hR h38 1 x0 14).bind fun v39 =>
  (hR h38 1 x1 14).bind fun v40 =>
  (vcall h38 0 v39 (f_X0_copyFrom h38 v39 v40)).bind fun h41 =>
  some h41
def b_X1_add_154 (rec154 : MH → Nat → Int32 → Int32 → Option MH) (h : MH) (x0 : Nat) (x5 : Int32) (x7 : Int32) : Option MH :=
  if (4 : Int32) ≤ x7 then
    ((hI h 1 x0 0).bind fun v1 =>
    (hP h 1 x0 0 (.int (v1 + (1 : Int32)))).bind fun h2 =>
    some h2)
  else
    ((hR h 1 x0 13).bind fun v3 =>
    (sI h v3 ((x5 * (4 : Int32)) + x7) (0 : Int32)).bind fun h4 =>
    rec154 h4 x0 x5 (x7 + (1 : Int32)))
def f_X1_add_154 : Nat → MH → Nat → Int32 → Int32 → Option MH
  | 0 => fun _ _ _ _ => none
  | n + 1 => fun h x0 x5 x7 => b_X1_add_154 (f_X1_add_154 n) h x0 x5 x7
def f_X1_add (h : MH) (x0 : Nat) (x1 : Int32) (x2 : Int32) (x3 : Int32) (x4 : Int32) : Option MH :=
  (hI h 1 x0 0).bind fun v5 =>
  (some (v5 * (7 : Int32))).bind fun v6 =>
  (hR h 1 x0 4).bind fun v7 =>
  (sI h v7 (v6 + (0 : Int32)) x1).bind fun h8 =>
  (hR h8 1 x0 4).bind fun v9 =>
  (sI h8 v9 (v6 + (1 : Int32)) x2).bind fun h10 =>
  (hR h10 1 x0 4).bind fun v11 =>
  (sI h10 v11 (v6 + (2 : Int32)) x3).bind fun h12 =>
  (hR h12 1 x0 4).bind fun v13 =>
  (sI h12 v13 (v6 + (3 : Int32)) (90 : Int32)).bind fun h14 =>
  (hR h14 1 x0 4).bind fun v15 =>
  (sI h14 v15 (v6 + (4 : Int32)) (2 : Int32)).bind fun h16 =>
  (hR h16 1 x0 4).bind fun v17 =>
  (sI h16 v17 (v6 + (5 : Int32)) (40 : Int32)).bind fun h18 =>
  (hR h18 1 x0 4).bind fun v19 =>
  (sI h18 v19 (v6 + (6 : Int32)) (2 : Int32)).bind fun h20 =>
  (hR h20 1 x0 5).bind fun v21 =>
  (sI h20 v21 v5 x4).bind fun h22 =>
  (hR h22 1 x0 6).bind fun v23 =>
  (sI h22 v23 v5 (0 : Int32)).bind fun h24 =>
  (hR h24 1 x0 7).bind fun v25 =>
  (sI h24 v25 v5 (0 : Int32)).bind fun h26 =>
  (hR h26 1 x0 8).bind fun v27 =>
  (sI h26 v27 v5 (0 : Int32)).bind fun h28 =>
  (hR h28 1 x0 9).bind fun v29 =>
  (sI h28 v29 v5 (0 : Int32)).bind fun h30 =>
  (hR h30 1 x0 10).bind fun v31 =>
  (sI h30 v31 v5 (0 : Int32)).bind fun h32 =>
  (hR h32 1 x0 11).bind fun v33 =>
  (sI h32 v33 v5 (0 : Int32)).bind fun h34 =>
  (hR h34 1 x0 12).bind fun v35 =>
  (sI h34 v35 v5 (-1 : Int32)).bind fun h36 =>
  f_X1_add_154 FU h36 x0 v5 (0 : Int32)
def f_X1_propertyOf (h : MH) (x0 : Nat) (x1 : Int32) (x2 : Int32) : Option Int32 :=
  (hR h 1 x0 4).bind fun v1 =>
  (aI h v1 ((x1 * (7 : Int32)) + x2)).bind fun v2 =>
  some v2
def b_X1_isWanted_16 (h : MH) (s0 : Int32) : Option Int32 :=
  some (s0 &&& 1)
def f_X1_isWanted (h : MH) (x0 : Nat) (x1 : Int32) : Option Int32 :=
  (hI h 1 x0 3).bind fun v1 =>
  if (v1 &&& ((1 : Int32) <<< (x1 &&& 31))) = 0 then
    (b_X1_isWanted_16 h (0 : Int32))
  else
    (b_X1_isWanted_16 h (1 : Int32))
def b_X1_isDischarged_18 (h : MH) (s0 : Int32) : Option Int32 :=
  some (s0 &&& 1)
def f_X1_isDischarged (h : MH) (x0 : Nat) (x1 : Int32) : Option Int32 :=
  (hR h 1 x0 7).bind fun v1 =>
  (aI h v1 x1).bind fun v2 =>
  (hI h 1 x0 2).bind fun v3 =>
  if v3 < v2 then
    (b_X1_isDischarged_18 h (0 : Int32))
  else
    (b_X1_isDischarged_18 h (1 : Int32))
def b_X1_hasFlag_24 (h : MH) (s0 : Int32) : Option Int32 :=
  some (s0 &&& 1)
def b_X1_hasFlag_64 (h : MH) (s0 : Int32) : Option Int32 :=
  some (s0 &&& 1)
def f_X1_hasFlag (h : MH) (x0 : Nat) (x1 : Int32) : Option Int32 :=
  (hR h 1 x0 8).bind fun v1 =>
  (aI h v1 x1).bind fun v2 =>
  if v2 = 0 then
    ((some (x1 * (7 : Int32))).bind fun v3 =>
    (hR h 1 x0 7).bind fun v4 =>
    (aI h v4 x1).bind fun v5 =>
    (hR h 1 x0 4).bind fun v6 =>
    (aI h v6 (v3 + (0 : Int32))).bind fun v7 =>
    (hR h 1 x0 4).bind fun v8 =>
    (aI h v8 (v3 + (3 : Int32))).bind fun v9 =>
    if (v5 * (100 : Int32)) < (v7 * v9) then
      (b_X1_hasFlag_64 h (0 : Int32))
    else
      (b_X1_hasFlag_64 h (1 : Int32)))
  else
    ((hR h 1 x0 8).bind fun v10 =>
    (aI h v10 x1).bind fun v11 =>
    if v11 = (2 : Int32) then
      (b_X1_hasFlag_24 h (1 : Int32))
    else
      (b_X1_hasFlag_24 h (0 : Int32)))
def b_X1_withFollowers_29 (h : MH) (rec4 : Nat → Int32 → Int32 → Option Int32) (x0 : Nat) (x2 : Int32) (x3 : Int32) : Option Int32 :=
  rec4 x0 x2 (x3 + (1 : Int32))
def b_X1_withFollowers_4 (h : MH) (rec4 : Nat → Int32 → Int32 → Option Int32) (x0 : Nat) (x2 : Int32) (x3 : Int32) : Option Int32 :=
  (hI h 1 x0 0).bind fun v1 =>
  if v1 ≤ x3 then
    (some x2)
  else
    ((hR h 1 x0 5).bind fun v2 =>
    (aI h v2 x3).bind fun v3 =>
    if (x2 &&& v3) = 0 then
      (b_X1_withFollowers_29 h rec4 x0 x2 x3)
    else
      ((some (x2 ||| ((1 : Int32) <<< (x3 &&& 31)))).bind fun v4 =>
      b_X1_withFollowers_29 h rec4 x0 v4 x3))
def f_X1_withFollowers_4 (h : MH) : Nat → Nat → Int32 → Int32 → Option Int32
  | 0 => fun _ _ _ => none
  | n + 1 => fun x0 x2 x3 => b_X1_withFollowers_4 h (f_X1_withFollowers_4 h n) x0 x2 x3
def f_X1_withFollowers (h : MH) (x0 : Nat) (x1 : Int32) : Option Int32 :=
  f_X1_withFollowers_4 h FU x0 x1 (0 : Int32)
def b_X1_firstBlameOf_45 (h : MH) (x2 : Int32) : Option Int32 :=
  some x2
def b_X1_firstBlameOf_16 (h : MH) (rec16 : Nat → Int32 → Int32 → Option Int32) (x0 : Nat) (x2 : Int32) (x3 : Int32) : Option Int32 :=
  if (8 : Int32) ≤ x3 then
    (b_X1_firstBlameOf_45 h x2)
  else
    ((hR h 1 x0 12).bind fun v1 =>
    (aI h v1 x2).bind fun v2 =>
    if v2 = (-1 : Int32) then
      (b_X1_firstBlameOf_45 h x2)
    else
      ((hR h 1 x0 12).bind fun v3 =>
      (aI h v3 x2).bind fun v4 =>
      rec16 x0 v4 (x3 + (1 : Int32))))
def f_X1_firstBlameOf_16 (h : MH) : Nat → Nat → Int32 → Int32 → Option Int32
  | 0 => fun _ _ _ => none
  | n + 1 => fun x0 x2 x3 => b_X1_firstBlameOf_16 h (f_X1_firstBlameOf_16 h n) x0 x2 x3
def f_X1_firstBlameOf (h : MH) (x0 : Nat) (x1 : Int32) : Option Int32 :=
  (hR h 1 x0 12).bind fun v5 =>
  (aI h v5 x1).bind fun v6 =>
  if v6 = (-1 : Int32) then
    (some (-1 : Int32))
  else
    (f_X1_firstBlameOf_16 h FU x0 x1 (0 : Int32))
def b_X1_numberOf_98 (h : MH) (s0 : Int32) : Option Int32 :=
  some s0
def b_X1_numberOf_126 (h : MH) (s0 : Int32) : Option Int32 :=
  some s0
def f_X1_numberOf (h : MH) (x0 : Nat) (x1 : Int32) (x2 : Int32) : Option Int32 :=
  if x2 = 7 then
  ((hR h 1 x0 5).bind fun v1 =>
  (aI h v1 x1).bind fun v2 =>
  some v2)
 else
  if x2 = 8 then
  ((vcall h 1 x0 (f_X1_withFollowers h x0 ((1 : Int32) <<< (x1 &&& 31)))).bind fun v3 =>
  some (v3 &&& (((1 : Int32) <<< (x1 &&& 31)) ^^^ (-1 : Int32))))
 else
  if x2 = 9 then
  ((vcall h 1 x0 (f_X1_isWanted h x0 x1)).bind fun v4 =>
  if v4 = 0 then
    (b_X1_numberOf_98 h (0 : Int32))
  else
    (b_X1_numberOf_98 h (1 : Int32)))
 else
  if x2 = 10 then
  ((hR h 1 x0 6).bind fun v5 =>
  (aI h v5 x1).bind fun v6 =>
  some v6)
 else
  if x2 = 11 then
  ((hR h 1 x0 7).bind fun v7 =>
  (aI h v7 x1).bind fun v8 =>
  some v8)
 else
  if x2 = 12 then
  ((vcall h 1 x0 (f_X1_hasFlag h x0 x1)).bind fun v9 =>
  if v9 = 0 then
    (b_X1_numberOf_126 h (0 : Int32))
  else
    (b_X1_numberOf_126 h (1 : Int32)))
 else
  if x2 = 13 then
  ((hR h 1 x0 8).bind fun v10 =>
  (aI h v10 x1).bind fun v11 =>
  some v11)
 else
  if x2 = 14 then
  ((hR h 1 x0 9).bind fun v12 =>
  (aI h v12 x1).bind fun v13 =>
  some v13)
 else
  if x2 = 15 then
  ((hR h 1 x0 10).bind fun v14 =>
  (aI h v14 x1).bind fun v15 =>
  some v15)
 else
  if x2 = 16 then
  ((hR h 1 x0 11).bind fun v16 =>
  (aI h v16 x1).bind fun v17 =>
  some v17)
 else
  if x2 = 17 then
  ((hR h 1 x0 12).bind fun v18 =>
  (aI h v18 x1).bind fun v19 =>
  some v19)
 else
  if x2 = 18 then
  ((vcall h 1 x0 (f_X1_firstBlameOf h x0 x1)).bind fun v20 =>
  some v20)
 else
  ((vcall h 1 x0 (f_X1_propertyOf h x0 x1 x2)).bind fun v21 =>
  some v21)
def b_X1_leastPatienceOf_31 (h : MH) (rec31 : Int32 → Int32 → Int32 → Option Int32) (x2 : Int32) (x3 : Int32) (x4 : Int32) : Option Int32 :=
  (rA 7 roM (5 : Int32)).bind fun v1 =>
  if v1 < x4 then
    (some (-1 : Int32))
  else
    (if (x4 * x3) < x2 then
      (rec31 x2 x3 (x4 + (1 : Int32)))
    else
      (some x4))
def f_X1_leastPatienceOf_31 (h : MH) : Nat → Int32 → Int32 → Int32 → Option Int32
  | 0 => fun _ _ _ => none
  | n + 1 => fun x2 x3 x4 => b_X1_leastPatienceOf_31 h (f_X1_leastPatienceOf_31 h n) x2 x3 x4
def f_X1_leastPatienceOf (h : MH) (x0 : Nat) (x1 : Int32) : Option Int32 :=
  (vcall h 1 x0 (f_X1_propertyOf h x0 x1 (0 : Int32))).bind fun v2 =>
  (vcall h 1 x0 (f_X1_propertyOf h x0 x1 (3 : Int32))).bind fun v3 =>
  (some (v2 * v3)).bind fun v4 =>
  (vcall h 1 x0 (f_X1_propertyOf h x0 x1 (1 : Int32))).bind fun v5 =>
  (some (v5 * (100 : Int32))).bind fun v6 =>
  (rA 7 roL (5 : Int32)).bind fun v7 =>
  f_X1_leastPatienceOf_31 h FU v4 v6 v7
def b_X1_withAllNeeded_30 (h : MH) (rec9 : Nat → Int32 → Int32 → Option Int32) (x0 : Nat) (x2 : Int32) (x3 : Int32) : Option Int32 :=
  rec9 x0 x2 (x3 + (-1 : Int32))
def b_X1_withAllNeeded_9 (h : MH) (rec9 : Nat → Int32 → Int32 → Option Int32) (x0 : Nat) (x2 : Int32) (x3 : Int32) : Option Int32 :=
  if x3 < 0 then
    (some x2)
  else
    (if (x2 &&& ((1 : Int32) <<< (x3 &&& 31))) = 0 then
      (b_X1_withAllNeeded_30 h rec9 x0 x2 x3)
    else
      ((hR h 1 x0 5).bind fun v1 =>
      (aI h v1 x3).bind fun v2 =>
      (some (x2 ||| v2)).bind fun v3 =>
      b_X1_withAllNeeded_30 h rec9 x0 v3 x3))
def f_X1_withAllNeeded_9 (h : MH) : Nat → Nat → Int32 → Int32 → Option Int32
  | 0 => fun _ _ _ => none
  | n + 1 => fun x0 x2 x3 => b_X1_withAllNeeded_9 h (f_X1_withAllNeeded_9 h n) x0 x2 x3
def f_X1_withAllNeeded (h : MH) (x0 : Nat) (x1 : Int32) : Option Int32 :=
  (hI h 1 x0 0).bind fun v4 =>
  (some (v4 - (1 : Int32))).bind fun v5 =>
  f_X1_withAllNeeded_9 h FU x0 x1 v5
def b_X1_maskOf_28 (h : MH) (rec4 : Nat → Int32 → Int32 → Int32 → Option Int32) (x0 : Nat) (x1 : Int32) (x2 : Int32) (x3 : Int32) : Option Int32 :=
  rec4 x0 x1 x2 (x3 + (1 : Int32))
def b_X1_maskOf_4 (h : MH) (rec4 : Nat → Int32 → Int32 → Int32 → Option Int32) (x0 : Nat) (x1 : Int32) (x2 : Int32) (x3 : Int32) : Option Int32 :=
  (hI h 1 x0 0).bind fun v1 =>
  if v1 ≤ x3 then
    (some x2)
  else
    ((hR h 1 x0 6).bind fun v2 =>
    (aI h v2 x3).bind fun v3 =>
    if v3 = x1 then
      ((some (x2 ||| ((1 : Int32) <<< (x3 &&& 31)))).bind fun v4 =>
      b_X1_maskOf_28 h rec4 x0 x1 v4 x3)
    else
      (b_X1_maskOf_28 h rec4 x0 x1 x2 x3))
def f_X1_maskOf_4 (h : MH) : Nat → Nat → Int32 → Int32 → Int32 → Option Int32
  | 0 => fun _ _ _ _ => none
  | n + 1 => fun x0 x1 x2 x3 => b_X1_maskOf_4 h (f_X1_maskOf_4 h n) x0 x1 x2 x3
def f_X1_maskOf (h : MH) (x0 : Nat) (x1 : Int32) : Option Int32 :=
  f_X1_maskOf_4 h FU x0 x1 (0 : Int32) (0 : Int32)
def b_X1_sumOfVoltages_4 (h : MH) (rec4 : Nat → Int32 → Int32 → Option Int32) (x0 : Nat) (x1 : Int32) (x2 : Int32) : Option Int32 :=
  (hI h 1 x0 0).bind fun v1 =>
  if v1 ≤ x2 then
    (some x1)
  else
    ((hR h 1 x0 7).bind fun v2 =>
    (aI h v2 x2).bind fun v3 =>
    (some (x1 + v3)).bind fun v4 =>
    rec4 x0 v4 (x2 + (1 : Int32)))
def f_X1_sumOfVoltages_4 (h : MH) : Nat → Nat → Int32 → Int32 → Option Int32
  | 0 => fun _ _ _ => none
  | n + 1 => fun x0 x1 x2 => b_X1_sumOfVoltages_4 h (f_X1_sumOfVoltages_4 h n) x0 x1 x2
def f_X1_sumOfVoltages (h : MH) (x0 : Nat) : Option Int32 :=
  f_X1_sumOfVoltages_4 h FU x0 (0 : Int32) (0 : Int32)
def b_X1_isAnyShorted_2 (h : MH) (rec2 : Nat → Int32 → Option Int32) (x0 : Nat) (x1 : Int32) : Option Int32 :=
  (hI h 1 x0 0).bind fun v1 =>
  if v1 ≤ x1 then
    (some ((0 : Int32) &&& 1))
  else
    ((hR h 1 x0 9).bind fun v2 =>
    (aI h v2 x1).bind fun v3 =>
    if v3 ≤ 0 then
      (rec2 x0 (x1 + (1 : Int32)))
    else
      (some ((1 : Int32) &&& 1)))
def f_X1_isAnyShorted_2 (h : MH) : Nat → Nat → Int32 → Option Int32
  | 0 => fun _ _ => none
  | n + 1 => fun x0 x1 => b_X1_isAnyShorted_2 h (f_X1_isAnyShorted_2 h n) x0 x1
def f_X1_isAnyShorted (h : MH) (x0 : Nat) : Option Int32 :=
  f_X1_isAnyShorted_2 h FU x0 (0 : Int32)
def b_X1_isAllOff_27 (h : MH)  : Option Int32 :=
  some ((0 : Int32) &&& 1)
def b_X1_isAllOff_2 (h : MH) (rec2 : Nat → Int32 → Option Int32) (x0 : Nat) (x1 : Int32) : Option Int32 :=
  (hI h 1 x0 0).bind fun v1 =>
  if v1 ≤ x1 then
    (some ((1 : Int32) &&& 1))
  else
    ((hR h 1 x0 6).bind fun v2 =>
    (aI h v2 x1).bind fun v3 =>
    if v3 = 0 then
      ((vcall h 1 x0 (f_X1_isDischarged h x0 x1)).bind fun v4 =>
      if v4 = 0 then
        (b_X1_isAllOff_27 h )
      else
        (rec2 x0 (x1 + (1 : Int32))))
    else
      (b_X1_isAllOff_27 h ))
def f_X1_isAllOff_2 (h : MH) : Nat → Nat → Int32 → Option Int32
  | 0 => fun _ _ => none
  | n + 1 => fun x0 x1 => b_X1_isAllOff_2 h (f_X1_isAllOff_2 h n) x0 x1
def f_X1_isAllOff (h : MH) (x0 : Nat) : Option Int32 :=
  f_X1_isAllOff_2 h FU x0 (0 : Int32)
def f_X1_rememberBefore (h : MH) (x0 : Nat) : Option MH :=
  (hR h 1 x0 6).bind fun v1 =>
  (hR h 1 x0 15).bind fun v2 =>
  (cpA h v1 (0 : Int32) v2 (0 : Int32) (8 : Int32)).bind fun h3 =>
  (hR h3 1 x0 7).bind fun v4 =>
  (hR h3 1 x0 16).bind fun v5 =>
  (cpA h3 v4 (0 : Int32) v5 (0 : Int32) (8 : Int32)).bind fun h6 =>
  (hR h6 1 x0 10).bind fun v7 =>
  (hR h6 1 x0 17).bind fun v8 =>
  (cpA h6 v7 (0 : Int32) v8 (0 : Int32) (8 : Int32)).bind fun h9 =>
  some h9
def b_X1_moveVoltages_120 (rec2 : MH → Nat → Int32 → Option MH) (h : MH) (x0 : Nat) (x1 : Int32) (s0 : Nat) (s1 : Int32) (s2 : Int32) : Option MH :=
  (sI h s0 s1 s2).bind fun h1 =>
  rec2 h1 x0 (x1 + (1 : Int32))
def b_X1_moveVoltages_71 (rec2 : MH → Nat → Int32 → Option MH) (h : MH) (x0 : Nat) (x1 : Int32) (x3 : Int32) (s0 : Nat) (s1 : Int32) (s2 : Int32) : Option MH :=
  (vcall h 1 s0 (f_X1_propertyOf h s0 s1 s2)).bind fun v2 =>
  (hR h 1 x0 7).bind fun v3 =>
  (hR h 1 x0 7).bind fun v4 =>
  (aI h v4 x1).bind fun v5 =>
  if x3 ≤ v5 then
    ((hR h 1 x0 7).bind fun v6 =>
    (aI h v6 x1).bind fun v7 =>
    b_X1_moveVoltages_120 rec2 h x0 x1 v3 x1 (mmax x3 (v7 - v2)))
  else
    ((hR h 1 x0 7).bind fun v8 =>
    (aI h v8 x1).bind fun v9 =>
    b_X1_moveVoltages_120 rec2 h x0 x1 v3 x1 (mmin x3 (v9 + v2)))
def b_X1_moveVoltages_59 (rec2 : MH → Nat → Int32 → Option MH) (h : MH) (x0 : Nat) (x1 : Int32) (x2 : Int32) (s0 : Int32) : Option MH :=
  if x2 = 0 then
    (b_X1_moveVoltages_71 rec2 h x0 x1 s0 x0 x1 (2 : Int32))
  else
    (b_X1_moveVoltages_71 rec2 h x0 x1 s0 x0 x1 (1 : Int32))
def b_X1_moveVoltages_44 (rec2 : MH → Nat → Int32 → Option MH) (h : MH) (x0 : Nat) (x1 : Int32) (s0 : Int32) : Option MH :=
  if s0 = 0 then
    (b_X1_moveVoltages_59 rec2 h x0 x1 s0 (0 : Int32))
  else
    ((vcall h 1 x0 (f_X1_propertyOf h x0 x1 (0 : Int32))).bind fun v10 =>
    b_X1_moveVoltages_59 rec2 h x0 x1 s0 v10)
def b_X1_moveVoltages_43 (rec2 : MH → Nat → Int32 → Option MH) (h : MH) (x0 : Nat) (x1 : Int32) : Option MH :=
  b_X1_moveVoltages_44 rec2 h x0 x1 (0 : Int32)
def b_X1_moveVoltages_30 (rec2 : MH → Nat → Int32 → Option MH) (h : MH) (x0 : Nat) (x1 : Int32) : Option MH :=
  (hR h 1 x0 9).bind fun v11 =>
  (aI h v11 x1).bind fun v12 =>
  if v12 = 0 then
    (b_X1_moveVoltages_44 rec2 h x0 x1 (1 : Int32))
  else
    (b_X1_moveVoltages_43 rec2 h x0 x1)
def b_X1_moveVoltages_2 (rec2 : MH → Nat → Int32 → Option MH) (h : MH) (x0 : Nat) (x1 : Int32) : Option MH :=
  (hI h 1 x0 0).bind fun v13 =>
  if v13 ≤ x1 then
    (some h)
  else
    ((hR h 1 x0 6).bind fun v14 =>
    (aI h v14 x1).bind fun v15 =>
    if v15 = (2 : Int32) then
      (b_X1_moveVoltages_30 rec2 h x0 x1)
    else
      ((hR h 1 x0 6).bind fun v16 =>
      (aI h v16 x1).bind fun v17 =>
      if v17 = (3 : Int32) then
        (b_X1_moveVoltages_30 rec2 h x0 x1)
      else
        (b_X1_moveVoltages_43 rec2 h x0 x1)))
def f_X1_moveVoltages_2 : Nat → MH → Nat → Int32 → Option MH
  | 0 => fun _ _ _ => none
  | n + 1 => fun h x0 x1 => b_X1_moveVoltages_2 (f_X1_moveVoltages_2 n) h x0 x1
def f_X1_moveVoltages (h : MH) (x0 : Nat) : Option MH :=
  f_X1_moveVoltages_2 FU h x0 (0 : Int32)
def f_X1_afterOff (h : MH) (x0 : Nat) (x1 : Int32) : Option (Int32 × MH) :=
  (vcall h 1 x0 (f_X1_isWanted h x0 x1)).bind fun v1 =>
  if v1 = 0 then
    (some ((0 : Int32), h))
  else
    ((hR h 1 x0 10).bind fun v2 =>
    (sI h v2 x1 (0 : Int32)).bind fun h3 =>
    (hR h3 1 x0 11).bind fun v4 =>
    (sI h3 v4 x1 (0 : Int32)).bind fun h5 =>
    some ((1 : Int32), h5))
def b_X1_lowestBadNeed_48 (h : MH) (x2 : Int32) : Option Int32 :=
  some x2
def b_X1_lowestBadNeed_50 (h : MH) (rec2 : Nat → Int32 → Int32 → Option Int32) (x0 : Nat) (x1 : Int32) (x2 : Int32) : Option Int32 :=
  rec2 x0 x1 (x2 + (1 : Int32))
def b_X1_lowestBadNeed_25 (h : MH) (rec2 : Nat → Int32 → Int32 → Option Int32) (x0 : Nat) (x1 : Int32) (x2 : Int32) (s0 : Int32) : Option Int32 :=
  if s0 = 0 then
    (b_X1_lowestBadNeed_50 h rec2 x0 x1 x2)
  else
    ((hR h 1 x0 15).bind fun v1 =>
    (aI h v1 x2).bind fun v2 =>
    if v2 = (3 : Int32) then
      ((vcall h 1 x0 (f_X1_hasFlag h x0 x2)).bind fun v3 =>
      if v3 = 0 then
        (b_X1_lowestBadNeed_48 h x2)
      else
        (b_X1_lowestBadNeed_50 h rec2 x0 x1 x2))
    else
      (b_X1_lowestBadNeed_48 h x2))
def b_X1_lowestBadNeed_2 (h : MH) (rec2 : Nat → Int32 → Int32 → Option Int32) (x0 : Nat) (x1 : Int32) (x2 : Int32) : Option Int32 :=
  if x1 ≤ x2 then
    (some (-1 : Int32))
  else
    ((hR h 1 x0 5).bind fun v4 =>
    (aI h v4 x1).bind fun v5 =>
    if (v5 &&& ((1 : Int32) <<< (x2 &&& 31))) = 0 then
      (b_X1_lowestBadNeed_25 h rec2 x0 x1 x2 (0 : Int32))
    else
      (b_X1_lowestBadNeed_25 h rec2 x0 x1 x2 (1 : Int32)))
def f_X1_lowestBadNeed_2 (h : MH) : Nat → Nat → Int32 → Int32 → Option Int32
  | 0 => fun _ _ _ => none
  | n + 1 => fun x0 x1 x2 => b_X1_lowestBadNeed_2 h (f_X1_lowestBadNeed_2 h n) x0 x1 x2
def f_X1_lowestBadNeed (h : MH) (x0 : Nat) (x1 : Int32) : Option Int32 :=
  f_X1_lowestBadNeed_2 h FU x0 x1 (0 : Int32)
def b_X1_afterWaiting_27 (h : MH) (x0 : Nat) (x1 : Int32) : Option (Int32 × MH) :=
  (hR h 1 x0 10).bind fun v1 =>
  (sI h v1 x1 (0 : Int32)).bind fun h2 =>
  some ((1 : Int32), h2)
def f_X1_afterWaiting (h : MH) (x0 : Nat) (x1 : Int32) : Option (Int32 × MH) :=
  (vcall h 1 x0 (f_X1_isWanted h x0 x1)).bind fun v3 =>
  if v3 = 0 then
    (some ((0 : Int32), h))
  else
    ((vcall h 1 x0 (f_X1_isDischarged h x0 x1)).bind fun v4 =>
    if v4 = 0 then
      (b_X1_afterWaiting_27 h x0 x1)
    else
      ((vcall h 1 x0 (f_X1_lowestBadNeed h x0 x1)).bind fun v5 =>
      if v5 = (-1 : Int32) then
        ((hR h 1 x0 10).bind fun v6 =>
        (aI h v6 x1).bind fun v7 =>
        (sI h v6 x1 (v7 + (1 : Int32))).bind fun h8 =>
        (hR h8 1 x0 10).bind fun v9 =>
        (aI h8 v9 x1).bind fun v10 =>
        (vcall h8 1 x0 (f_X1_propertyOf h8 x0 x1 (4 : Int32))).bind fun v11 =>
        if v11 < v10 then
          ((hR h8 1 x0 10).bind fun v12 =>
          (sI h8 v12 x1 (0 : Int32)).bind fun h13 =>
          some ((2 : Int32), h13))
        else
          (some ((1 : Int32), h8)))
      else
        (b_X1_afterWaiting_27 h x0 x1)))
def b_X1_afterFailure_52 (h : MH) (s0 : Int32) : Option (Int32 × MH) :=
  some (s0, h)
def f_X1_afterFailure (h : MH) (x0 : Nat) (x1 : Int32) : Option (Int32 × MH) :=
  (hR h 1 x0 12).bind fun v1 =>
  (sI h v1 x1 x1).bind fun h2 =>
  (hR h2 1 x0 11).bind fun v3 =>
  (aI h2 v3 x1).bind fun v4 =>
  (sI h2 v3 x1 (v4 + (1 : Int32))).bind fun h5 =>
  (hR h5 1 x0 13).bind fun v6 =>
  (aI h5 v6 ((x1 * (4 : Int32)) + (2 : Int32))).bind fun v7 =>
  (sI h5 v6 ((x1 * (4 : Int32)) + (2 : Int32)) (v7 + (1 : Int32))).bind fun h8 =>
  (hR h8 1 x0 11).bind fun v9 =>
  (aI h8 v9 x1).bind fun v10 =>
  (vcall h8 1 x0 (f_X1_propertyOf h8 x0 x1 (6 : Int32))).bind fun v11 =>
  if v10 < v11 then
    (b_X1_afterFailure_52 h8 (4 : Int32))
  else
    (b_X1_afterFailure_52 h8 (5 : Int32))
def b_X1_afterRising_88 (h : MH) (s0 : Int32) : Option (Int32 × MH) :=
  some (s0, h)
def f_X1_afterRising (h : MH) (x0 : Nat) (x1 : Int32) : Option (Int32 × MH) :=
  (vcall h 1 x0 (f_X1_isWanted h x0 x1)).bind fun v1 =>
  if v1 = 0 then
    ((hR h 1 x0 12).bind fun v15 =>
    (sI h v15 x1 (-1 : Int32)).bind fun h16 =>
    some ((4 : Int32), h16))
  else
    ((vcall h 1 x0 (f_X1_lowestBadNeed h x0 x1)).bind fun v2 =>
    if v2 = (-1 : Int32) then
      ((vcall h 1 x0 (f_X1_hasFlag h x0 x1)).bind fun v3 =>
      if v3 = 0 then
        ((hR h 1 x0 10).bind fun v4 =>
        (aI h v4 x1).bind fun v5 =>
        (sI h v4 x1 (v5 + (1 : Int32))).bind fun h6 =>
        (hR h6 1 x0 10).bind fun v7 =>
        (aI h6 v7 x1).bind fun v8 =>
        (vcall h6 1 x0 (f_X1_propertyOf h6 x0 x1 (5 : Int32))).bind fun v9 =>
        if v8 < v9 then
          (b_X1_afterRising_88 h6 (2 : Int32))
        else
          ((vcall h6 1 x0 (f_X1_afterFailure h6 x0 x1)).bind fun p10 =>
          b_X1_afterRising_88 p10.2 p10.1))
      else
        ((hR h 1 x0 12).bind fun v11 =>
        (sI h v11 x1 (-1 : Int32)).bind fun h12 =>
        some ((3 : Int32), h12)))
    else
      ((hR h 1 x0 12).bind fun v13 =>
      (sI h v13 x1 v2).bind fun h14 =>
      some ((4 : Int32), h14)))
def b_X1_areUsersAtRest_74 (h : MH)  : Option Int32 :=
  some ((0 : Int32) &&& 1)
def b_X1_areUsersAtRest_76 (h : MH) (rec4 : Nat → Int32 → Int32 → Option Int32) (x0 : Nat) (x1 : Int32) (x2 : Int32) : Option Int32 :=
  rec4 x0 x1 (x2 + (1 : Int32))
def b_X1_areUsersAtRest_55 (h : MH) (rec4 : Nat → Int32 → Int32 → Option Int32) (x0 : Nat) (x1 : Int32) (x2 : Int32) (x3 : Int32) (s0 : Int32) : Option Int32 :=
  if x3 = 0 then
    (b_X1_areUsersAtRest_76 h rec4 x0 x1 x2)
  else
    (if s0 = 0 then
      (b_X1_areUsersAtRest_74 h )
    else
      ((vcall h 1 x0 (f_X1_isDischarged h x0 x2)).bind fun v1 =>
      if v1 = 0 then
        (b_X1_areUsersAtRest_74 h )
      else
        (b_X1_areUsersAtRest_76 h rec4 x0 x1 x2)))
def b_X1_areUsersAtRest_50 (h : MH) (rec4 : Nat → Int32 → Int32 → Option Int32) (x0 : Nat) (x1 : Int32) (x2 : Int32) (x3 : Int32) : Option Int32 :=
  b_X1_areUsersAtRest_55 h rec4 x0 x1 x2 x3 (1 : Int32)
def b_X1_areUsersAtRest_30 (h : MH) (rec4 : Nat → Int32 → Int32 → Option Int32) (x0 : Nat) (x1 : Int32) (x2 : Int32) (s0 : Int32) : Option Int32 :=
  (hR h 1 x0 15).bind fun v2 =>
  (aI h v2 x2).bind fun v3 =>
  if v3 = 0 then
    (b_X1_areUsersAtRest_50 h rec4 x0 x1 x2 s0)
  else
    ((hR h 1 x0 15).bind fun v4 =>
    (aI h v4 x2).bind fun v5 =>
    if v5 = (5 : Int32) then
      (b_X1_areUsersAtRest_50 h rec4 x0 x1 x2 s0)
    else
      (b_X1_areUsersAtRest_55 h rec4 x0 x1 x2 s0 (0 : Int32)))
def b_X1_areUsersAtRest_4 (h : MH) (rec4 : Nat → Int32 → Int32 → Option Int32) (x0 : Nat) (x1 : Int32) (x2 : Int32) : Option Int32 :=
  (hI h 1 x0 0).bind fun v6 =>
  if v6 ≤ x2 then
    (some ((1 : Int32) &&& 1))
  else
    ((hR h 1 x0 5).bind fun v7 =>
    (aI h v7 x2).bind fun v8 =>
    if (v8 &&& ((1 : Int32) <<< (x1 &&& 31))) = 0 then
      (b_X1_areUsersAtRest_30 h rec4 x0 x1 x2 (0 : Int32))
    else
      (b_X1_areUsersAtRest_30 h rec4 x0 x1 x2 (1 : Int32)))
def f_X1_areUsersAtRest_4 (h : MH) : Nat → Nat → Int32 → Int32 → Option Int32
  | 0 => fun _ _ _ => none
  | n + 1 => fun x0 x1 x2 => b_X1_areUsersAtRest_4 h (f_X1_areUsersAtRest_4 h n) x0 x1 x2
def f_X1_areUsersAtRest (h : MH) (x0 : Nat) (x1 : Int32) : Option Int32 :=
  (some (x1 + (1 : Int32))).bind fun v9 =>
  f_X1_areUsersAtRest_4 h FU x0 x1 v9
def b_X1_afterGood_59 (h : MH) : Option (Int32 × MH) :=
  some ((3 : Int32), h)
def f_X1_afterGood (h : MH) (x0 : Nat) (x1 : Int32) : Option (Int32 × MH) :=
  (vcall h 1 x0 (f_X1_lowestBadNeed h x0 x1)).bind fun v1 =>
  if v1 = (-1 : Int32) then
    ((vcall h 1 x0 (f_X1_hasFlag h x0 x1)).bind fun v2 =>
    if v2 = 0 then
      ((vcall h 1 x0 (f_X1_afterFailure h x0 x1)).bind fun p7 =>
      some (p7.1, p7.2))
    else
      ((vcall h 1 x0 (f_X1_isWanted h x0 x1)).bind fun v3 =>
      if v3 = 0 then
        ((vcall h 1 x0 (f_X1_areUsersAtRest h x0 x1)).bind fun v4 =>
        if v4 = 0 then
          (b_X1_afterGood_59 h)
        else
          ((hR h 1 x0 12).bind fun v5 =>
          (sI h v5 x1 (-1 : Int32)).bind fun h6 =>
          some ((4 : Int32), h6)))
      else
        (b_X1_afterGood_59 h)))
  else
    ((hR h 1 x0 12).bind fun v8 =>
    (sI h v8 x1 v1).bind fun h9 =>
    some ((4 : Int32), h9))
def f_X1_afterFalling (h : MH) (x0 : Nat) (x1 : Int32) : Option (Int32 × MH) :=
  (vcall h 1 x0 (f_X1_isDischarged h x0 x1)).bind fun v1 =>
  if v1 = 0 then
    (some ((4 : Int32), h))
  else
    ((vcall h 1 x0 (f_X1_isWanted h x0 x1)).bind fun v2 =>
    if v2 = 0 then
      (some ((0 : Int32), h))
    else
      ((hR h 1 x0 10).bind fun v3 =>
      (sI h v3 x1 (0 : Int32)).bind fun h4 =>
      some ((1 : Int32), h4)))
def b_X1_nextState_91 (h : MH) (s0 : Int32) : Option (Int32 × MH) :=
  some (s0, h)
def b_X1_nextState_90 (h : MH) : Option (Int32 × MH) :=
  b_X1_nextState_91 h (5 : Int32)
def f_X1_nextState (h : MH) (x0 : Nat) (x1 : Int32) : Option (Int32 × MH) :=
  (hR h 1 x0 6).bind fun v1 =>
  (aI h v1 x1).bind fun v2 =>
  if v2 = 0 then
  ((vcall h 1 x0 (f_X1_afterOff h x0 x1)).bind fun p3 =>
  some (p3.1, p3.2))
 else
  if v2 = 1 then
  ((vcall h 1 x0 (f_X1_afterWaiting h x0 x1)).bind fun p4 =>
  some (p4.1, p4.2))
 else
  if v2 = 2 then
  ((vcall h 1 x0 (f_X1_afterRising h x0 x1)).bind fun p5 =>
  some (p5.1, p5.2))
 else
  if v2 = 3 then
  ((vcall h 1 x0 (f_X1_afterGood h x0 x1)).bind fun p6 =>
  some (p6.1, p6.2))
 else
  if v2 = 4 then
  ((vcall h 1 x0 (f_X1_afterFalling h x0 x1)).bind fun p7 =>
  some (p7.1, p7.2))
 else
  ((vcall h 1 x0 (f_X1_isWanted h x0 x1)).bind fun v8 =>
  if v8 = 0 then
    ((vcall h 1 x0 (f_X1_isDischarged h x0 x1)).bind fun v9 =>
    if v9 = 0 then
      (b_X1_nextState_90 h)
    else
      (b_X1_nextState_91 h (0 : Int32)))
  else
    (b_X1_nextState_90 h))
def b_X1_become_45 (h : MH) (x0 : Nat) (x1 : Int32) (x2 : Int32) : Option MH :=
  (hR h 1 x0 14).bind fun v1 =>
  (hI h 1 x0 1).bind fun v2 =>
  (hR h 1 x0 12).bind fun v3 =>
  (aI h v3 x1).bind fun v4 =>
  (vcall h 0 v1 (f_X0_enter h v1 v2 x1 x2 v4)).bind fun h5 =>
  some h5
def b_X1_become_26 (h : MH) (x0 : Nat) (x1 : Int32) (x2 : Int32) : Option MH :=
  if x2 = (3 : Int32) then
    ((hR h 1 x0 13).bind fun v6 =>
    (aI h v6 ((x1 * (4 : Int32)) + (1 : Int32))).bind fun v7 =>
    (sI h v6 ((x1 * (4 : Int32)) + (1 : Int32)) (v7 + (1 : Int32))).bind fun h8 =>
    b_X1_become_45 h8 x0 x1 x2)
  else
    (b_X1_become_45 h x0 x1 x2)
def f_X1_become (h : MH) (x0 : Nat) (x1 : Int32) (x2 : Int32) : Option MH :=
  (hR h 1 x0 6).bind fun v9 =>
  (sI h v9 x1 x2).bind fun h10 =>
  if x2 = (2 : Int32) then
    ((hR h10 1 x0 13).bind fun v11 =>
    (aI h10 v11 ((x1 * (4 : Int32)) + (0 : Int32))).bind fun v12 =>
    (sI h10 v11 ((x1 * (4 : Int32)) + (0 : Int32)) (v12 + (1 : Int32))).bind fun h13 =>
    b_X1_become_26 h13 x0 x1 x2)
  else
    (b_X1_become_26 h10 x0 x1 x2)
def b_X1_endTick_53 (rec2 : MH → Nat → Int32 → Option MH) (h : MH) (x0 : Nat) (x1 : Int32) : Option MH :=
  rec2 h x0 (x1 + (1 : Int32))
def b_X1_endTick_29 (rec2 : MH → Nat → Int32 → Option MH) (h : MH) (x0 : Nat) (x1 : Int32) : Option MH :=
  (hR h 1 x0 6).bind fun v1 =>
  (aI h v1 x1).bind fun v2 =>
  if v2 = (3 : Int32) then
    ((hR h 1 x0 13).bind fun v3 =>
    (aI h v3 ((x1 * (4 : Int32)) + (3 : Int32))).bind fun v4 =>
    (sI h v3 ((x1 * (4 : Int32)) + (3 : Int32)) (v4 + (1 : Int32))).bind fun h5 =>
    b_X1_endTick_53 rec2 h5 x0 x1)
  else
    (b_X1_endTick_53 rec2 h x0 x1)
def b_X1_endTick_2 (rec2 : MH → Nat → Int32 → Option MH) (h : MH) (x0 : Nat) (x1 : Int32) : Option MH :=
  (hI h 1 x0 0).bind fun v6 =>
  if v6 ≤ x1 then
    ((hI h 1 x0 1).bind fun v7 =>
    (hP h 1 x0 1 (.int (v7 + (1 : Int32)))).bind fun h8 =>
    some h8)
  else
    ((hR h 1 x0 9).bind fun v9 =>
    (aI h v9 x1).bind fun v10 =>
    if v10 ≤ 0 then
      (b_X1_endTick_29 rec2 h x0 x1)
    else
      ((hR h 1 x0 9).bind fun v11 =>
      (aI h v11 x1).bind fun v12 =>
      (sI h v11 x1 (v12 - (1 : Int32))).bind fun h13 =>
      b_X1_endTick_29 rec2 h13 x0 x1))
def f_X1_endTick_2 : Nat → MH → Nat → Int32 → Option MH
  | 0 => fun _ _ _ => none
  | n + 1 => fun h x0 x1 => b_X1_endTick_2 (f_X1_endTick_2 n) h x0 x1
def f_X1_endTick (h : MH) (x0 : Nat) : Option MH :=
  f_X1_endTick_2 FU h x0 (0 : Int32)
def b_X1_passTick_45 (rec12 : MH → Nat → Int32 → Int32 → Option (Int32 × MH)) (h : MH) (x0 : Nat) (x1 : Int32) (x2 : Int32) : Option (Int32 × MH) :=
  rec12 h x0 x1 (x2 + (1 : Int32))
def b_X1_passTick_12 (rec12 : MH → Nat → Int32 → Int32 → Option (Int32 × MH)) (h : MH) (x0 : Nat) (x1 : Int32) (x2 : Int32) : Option (Int32 × MH) :=
  (hI h 1 x0 0).bind fun v1 =>
  if v1 ≤ x2 then
    ((vcall h 1 x0 (f_X1_endTick h x0)).bind fun h2 =>
    some (x1, h2))
  else
    ((vcall h 1 x0 (f_X1_nextState h x0 x2)).bind fun p3 =>
    (hR p3.2 1 x0 6).bind fun v4 =>
    (aI p3.2 v4 x2).bind fun v5 =>
    if p3.1 = v5 then
      (b_X1_passTick_45 rec12 p3.2 x0 x1 x2)
    else
      ((vcall p3.2 1 x0 (f_X1_become p3.2 x0 x2 p3.1)).bind fun h6 =>
      b_X1_passTick_45 rec12 h6 x0 (x1 + (1 : Int32)) x2))
def f_X1_passTick_12 : Nat → MH → Nat → Int32 → Int32 → Option (Int32 × MH)
  | 0 => fun _ _ _ _ => none
  | n + 1 => fun h x0 x1 x2 => b_X1_passTick_12 (f_X1_passTick_12 n) h x0 x1 x2
def f_X1_passTick (h : MH) (x0 : Nat) : Option (Int32 × MH) :=
  (vcall h 1 x0 (f_X1_rememberBefore h x0)).bind fun h7 =>
  (vcall h7 1 x0 (f_X1_moveVoltages h7 x0)).bind fun h8 =>
  f_X1_passTick_12 FU h8 x0 (0 : Int32) (0 : Int32)
def b_X1_wasStill_55 (h : MH)  : Option Int32 :=
  some ((0 : Int32) &&& 1)
def b_X1_wasStill_2 (h : MH) (rec2 : Nat → Int32 → Option Int32) (x0 : Nat) (x1 : Int32) : Option Int32 :=
  (hI h 1 x0 0).bind fun v1 =>
  if v1 ≤ x1 then
    (some ((1 : Int32) &&& 1))
  else
    ((hR h 1 x0 6).bind fun v2 =>
    (aI h v2 x1).bind fun v3 =>
    (hR h 1 x0 15).bind fun v4 =>
    (aI h v4 x1).bind fun v5 =>
    if v3 = v5 then
      ((hR h 1 x0 7).bind fun v6 =>
      (aI h v6 x1).bind fun v7 =>
      (hR h 1 x0 16).bind fun v8 =>
      (aI h v8 x1).bind fun v9 =>
      if v7 = v9 then
        ((hR h 1 x0 10).bind fun v10 =>
        (aI h v10 x1).bind fun v11 =>
        (hR h 1 x0 17).bind fun v12 =>
        (aI h v12 x1).bind fun v13 =>
        if v11 = v13 then
          (rec2 x0 (x1 + (1 : Int32)))
        else
          (b_X1_wasStill_55 h ))
      else
        (b_X1_wasStill_55 h ))
    else
      (b_X1_wasStill_55 h ))
def f_X1_wasStill_2 (h : MH) : Nat → Nat → Int32 → Option Int32
  | 0 => fun _ _ => none
  | n + 1 => fun x0 x1 => b_X1_wasStill_2 h (f_X1_wasStill_2 h n) x0 x1
def f_X1_wasStill (h : MH) (x0 : Nat) : Option Int32 :=
  f_X1_wasStill_2 h FU x0 (0 : Int32)
def b_X1_justDropped_63 (h : MH) (rec4 : Nat → Int32 → Int32 → Option Int32) (x0 : Nat) (x1 : Int32) (x2 : Int32) : Option Int32 :=
  rec4 x0 x1 (x2 + (1 : Int32))
def b_X1_justDropped_37 (h : MH) (rec4 : Nat → Int32 → Int32 → Option Int32) (x0 : Nat) (x1 : Int32) (x2 : Int32) (s0 : Int32) : Option Int32 :=
  if s0 = 0 then
    (b_X1_justDropped_63 h rec4 x0 x1 x2)
  else
    ((hR h 1 x0 6).bind fun v1 =>
    (aI h v1 x2).bind fun v2 =>
    (hR h 1 x0 15).bind fun v3 =>
    (aI h v3 x2).bind fun v4 =>
    if v2 = v4 then
      (b_X1_justDropped_63 h rec4 x0 x1 x2)
    else
      ((some (x1 ||| ((1 : Int32) <<< (x2 &&& 31)))).bind fun v5 =>
      b_X1_justDropped_63 h rec4 x0 v5 x2))
def b_X1_justDropped_32 (h : MH) (rec4 : Nat → Int32 → Int32 → Option Int32) (x0 : Nat) (x1 : Int32) (x2 : Int32) : Option Int32 :=
  b_X1_justDropped_37 h rec4 x0 x1 x2 (1 : Int32)
def b_X1_justDropped_4 (h : MH) (rec4 : Nat → Int32 → Int32 → Option Int32) (x0 : Nat) (x1 : Int32) (x2 : Int32) : Option Int32 :=
  (hI h 1 x0 0).bind fun v6 =>
  if v6 ≤ x2 then
    (some x1)
  else
    ((hR h 1 x0 6).bind fun v7 =>
    (aI h v7 x2).bind fun v8 =>
    if v8 = (4 : Int32) then
      (b_X1_justDropped_32 h rec4 x0 x1 x2)
    else
      ((hR h 1 x0 6).bind fun v9 =>
      (aI h v9 x2).bind fun v10 =>
      if v10 = (5 : Int32) then
        (b_X1_justDropped_32 h rec4 x0 x1 x2)
      else
        (b_X1_justDropped_37 h rec4 x0 x1 x2 (0 : Int32))))
def f_X1_justDropped_4 (h : MH) : Nat → Nat → Int32 → Int32 → Option Int32
  | 0 => fun _ _ _ => none
  | n + 1 => fun x0 x1 x2 => b_X1_justDropped_4 h (f_X1_justDropped_4 h n) x0 x1 x2
def f_X1_justDropped (h : MH) (x0 : Nat) : Option Int32 :=
  f_X1_justDropped_4 h FU x0 (0 : Int32) (0 : Int32)
def b_X1_isToDrop_43 (h : MH) (s0 : Int32) : Option Int32 :=
  some (s0 &&& 1)
def b_X1_isToDrop_38 (h : MH)  : Option Int32 :=
  b_X1_isToDrop_43 h (1 : Int32)
def b_X1_isToDrop_42 (h : MH)  : Option Int32 :=
  b_X1_isToDrop_43 h (0 : Int32)
def f_X1_isToDrop (h : MH) (x0 : Nat) (x1 : Int32) : Option Int32 :=
  (hR h 1 x0 6).bind fun v1 =>
  (aI h v1 x1).bind fun v2 =>
  if v2 = (2 : Int32) then
    (b_X1_isToDrop_38 h )
  else
    ((hR h 1 x0 6).bind fun v3 =>
    (aI h v3 x1).bind fun v4 =>
    if v4 = (3 : Int32) then
      (b_X1_isToDrop_38 h )
    else
      ((hR h 1 x0 6).bind fun v5 =>
      (aI h v5 x1).bind fun v6 =>
      if v6 = (5 : Int32) then
        ((vcall h 1 x0 (f_X1_isWanted h x0 x1)).bind fun v7 =>
        if v7 = 0 then
          (b_X1_isToDrop_42 h )
        else
          (b_X1_isToDrop_38 h ))
      else
        (b_X1_isToDrop_42 h )))
def b_X1_dropForRestart_66 (rec13 : MH → Nat → Int32 → Int32 → Int32 → Int32 → Option (Int32 × MH)) (h : MH) (x0 : Nat) (x1 : Int32) (x2 : Int32) (x3 : Int32) (x4 : Int32) : Option (Int32 × MH) :=
  rec13 h x0 x1 x2 x3 (x4 + (1 : Int32))
def b_X1_dropForRestart_13 (rec13 : MH → Nat → Int32 → Int32 → Int32 → Int32 → Option (Int32 × MH)) (h : MH) (x0 : Nat) (x1 : Int32) (x2 : Int32) (x3 : Int32) (x4 : Int32) : Option (Int32 × MH) :=
  (hI h 1 x0 0).bind fun v1 =>
  if v1 ≤ x4 then
    (some (x3, h))
  else
    (if (x2 &&& ((1 : Int32) <<< (x4 &&& 31))) = 0 then
      (b_X1_dropForRestart_66 rec13 h x0 x1 x2 x3 x4)
    else
      ((vcall h 1 x0 (f_X1_isToDrop h x0 x4)).bind fun v2 =>
      if v2 = 0 then
        (b_X1_dropForRestart_66 rec13 h x0 x1 x2 x3 x4)
      else
        ((hR h 1 x0 12).bind fun v3 =>
        (sI h v3 x4 x1).bind fun h4 =>
        (hR h4 1 x0 11).bind fun v5 =>
        (sI h4 v5 x4 (0 : Int32)).bind fun h6 =>
        (vcall h6 1 x0 (f_X1_become h6 x0 x4 (4 : Int32))).bind fun h7 =>
        b_X1_dropForRestart_66 rec13 h7 x0 x1 x2 (x3 + (1 : Int32)) x4)))
def f_X1_dropForRestart_13 : Nat → MH → Nat → Int32 → Int32 → Int32 → Int32 → Option (Int32 × MH)
  | 0 => fun _ _ _ _ _ _ => none
  | n + 1 => fun h x0 x1 x2 x3 x4 => b_X1_dropForRestart_13 (f_X1_dropForRestart_13 n) h x0 x1 x2 x3 x4
def f_X1_dropForRestart (h : MH) (x0 : Nat) (x1 : Int32) : Option (Int32 × MH) :=
  (vcall h 1 x0 (f_X1_withFollowers h x0 ((1 : Int32) <<< (x1 &&& 31)))).bind fun v8 =>
  f_X1_dropForRestart_13 FU h x0 x1 v8 (0 : Int32) x1
def f_X2_init (h : MH) (x0 : Nat) : Option MH :=
  (nA h 0 (3, .inl (fun _ => 0))).bind fun h1 =>
  (hP h1 2 x0 0 (.ref (h.length))).bind fun h2 =>
  some h2
def f_X3_init (h : MH) (x0 : Nat) : Option MH :=
  (nO h 1 [.int 0, .int 0, .int 0, .int 0, .null, .null, .null, .null, .null, .null, .null, .null, .null, .null, .null, .null, .null, .null]).bind fun h1 =>
  (f_X1_init h1 (h.length)).bind fun h2 =>
  (hP h2 3 x0 0 (.ref (h.length))).bind fun h3 =>
  (nO h3 1 [.int 0, .int 0, .int 0, .int 0, .null, .null, .null, .null, .null, .null, .null, .null, .null, .null, .null, .null, .null, .null]).bind fun h4 =>
  (f_X1_init h4 (h3.length)).bind fun h5 =>
  (hP h5 3 x0 1 (.ref (h3.length))).bind fun h6 =>
  (nA h6 2 (6, .inr (.inr (.inr (.inr (fun _ => none)))))).bind fun h7 =>
  (hP h7 3 x0 2 (.ref (h6.length))).bind fun h8 =>
  (nA h8 0 (60, .inl (fun _ => 0))).bind fun h9 =>
  (hP h9 3 x0 4 (.ref (h8.length))).bind fun h10 =>
  (nO h10 2 [.null, .int 0, .int 0, .int 0]).bind fun h11 =>
  (f_X2_init h11 (h10.length)).bind fun h12 =>
  (hP h12 3 x0 6 (.ref (h10.length))).bind fun h13 =>
  (hR h13 3 x0 2).bind fun v14 =>
  (nO h13 1 [.int 0, .int 0, .int 0, .int 0, .null, .null, .null, .null, .null, .null, .null, .null, .null, .null, .null, .null, .null, .null]).bind fun h15 =>
  (f_X1_init h15 (h13.length)).bind fun h16 =>
  (sR h16 v14 (0 : Int32) (h13.length)).bind fun h17 =>
  (hR h17 3 x0 2).bind fun v18 =>
  (nO h17 1 [.int 0, .int 0, .int 0, .int 0, .null, .null, .null, .null, .null, .null, .null, .null, .null, .null, .null, .null, .null, .null]).bind fun h19 =>
  (f_X1_init h19 (h17.length)).bind fun h20 =>
  (sR h20 v18 (1 : Int32) (h17.length)).bind fun h21 =>
  (hR h21 3 x0 2).bind fun v22 =>
  (nO h21 1 [.int 0, .int 0, .int 0, .int 0, .null, .null, .null, .null, .null, .null, .null, .null, .null, .null, .null, .null, .null, .null]).bind fun h23 =>
  (f_X1_init h23 (h21.length)).bind fun h24 =>
  (sR h24 v22 (2 : Int32) (h21.length)).bind fun h25 =>
  (hR h25 3 x0 2).bind fun v26 =>
  (nO h25 1 [.int 0, .int 0, .int 0, .int 0, .null, .null, .null, .null, .null, .null, .null, .null, .null, .null, .null, .null, .null, .null]).bind fun h27 =>
  (f_X1_init h27 (h25.length)).bind fun h28 =>
  (sR h28 v26 (3 : Int32) (h25.length)).bind fun h29 =>
  (hR h29 3 x0 2).bind fun v30 =>
  (nO h29 1 [.int 0, .int 0, .int 0, .int 0, .null, .null, .null, .null, .null, .null, .null, .null, .null, .null, .null, .null, .null, .null]).bind fun h31 =>
  (f_X1_init h31 (h29.length)).bind fun h32 =>
  (sR h32 v30 (4 : Int32) (h29.length)).bind fun h33 =>
  (hR h33 3 x0 2).bind fun v34 =>
  (nO h33 1 [.int 0, .int 0, .int 0, .int 0, .null, .null, .null, .null, .null, .null, .null, .null, .null, .null, .null, .null, .null, .null]).bind fun h35 =>
  (f_X1_init h35 (h33.length)).bind fun h36 =>
  (sR h36 v34 (5 : Int32) (h33.length)).bind fun h37 =>
  some h37
def b_X3_isInRange_23 (h : MH) (s0 : Int32) : Option Int32 :=
  some (s0 &&& 1)
def b_X3_isInRange_22 (h : MH)  : Option Int32 :=
  b_X3_isInRange_23 h (0 : Int32)
def f_X3_isInRange (h : MH) (x0 : Int32) (x1 : Int32) : Option Int32 :=
  (rA 7 roL x0).bind fun v1 =>
  if x1 < v1 then
    (b_X3_isInRange_22 h )
  else
    ((rA 7 roM x0).bind fun v2 =>
    if v2 < x1 then
      (b_X3_isInRange_22 h )
    else
      (b_X3_isInRange_23 h (1 : Int32)))
def b_X3_areBelow_17 (h : MH) (s0 : Int32) : Option Int32 :=
  some (s0 &&& 1)
def f_X3_areBelow (h : MH) (x0 : Int32) (x1 : Int32) : Option Int32 :=
  if (x1 &&& ((((1 : Int32) <<< (x0 &&& 31)) - (1 : Int32)) ^^^ (-1 : Int32))) = 0 then
    (b_X3_areBelow_17 h (1 : Int32))
  else
    (b_X3_areBelow_17 h (0 : Int32))
def f_X3_areRails (h : MH) (x0 : Nat) (x1 : Int32) : Option Int32 :=
  (hR h 3 x0 0).bind fun v1 =>
  (hI h 1 v1 0).bind fun v2 =>
  (f_X3_areBelow h v2 x1).bind fun v3 =>
  some (v3 &&& 1)
def b_X3_dropOldestSaved_9 (rec9 : MH → Nat → Nat → Int32 → Option MH) (h : MH) (x0 : Nat) (x1 : Nat) (x2 : Int32) : Option MH :=
  if (6 : Int32) ≤ x2 then
    ((hR h 3 x0 2).bind fun v1 =>
    (sR h v1 (5 : Int32) x1).bind fun h2 =>
    (hP h2 3 x0 3 (.int (5 : Int32))).bind fun h3 =>
    some h3)
  else
    ((hR h 3 x0 2).bind fun v4 =>
    (hR h 3 x0 2).bind fun v5 =>
    (aR h v5 x2).bind fun v6 =>
    (sR h v4 (x2 - (1 : Int32)) v6).bind fun h7 =>
    rec9 h7 x0 x1 (x2 + (1 : Int32)))
def f_X3_dropOldestSaved_9 : Nat → MH → Nat → Nat → Int32 → Option MH
  | 0 => fun _ _ _ _ => none
  | n + 1 => fun h x0 x1 x2 => b_X3_dropOldestSaved_9 (f_X3_dropOldestSaved_9 n) h x0 x1 x2
def f_X3_dropOldestSaved (h : MH) (x0 : Nat) : Option MH :=
  (hR h 3 x0 2).bind fun v8 =>
  (aR h v8 (0 : Int32)).bind fun v9 =>
  f_X3_dropOldestSaved_9 FU h x0 v9 (1 : Int32)
def b_X3_save_13 (h : MH) (x0 : Nat) : Option MH :=
  (hR h 3 x0 2).bind fun v1 =>
  (hI h 3 x0 3).bind fun v2 =>
  (aR h v1 v2).bind fun v3 =>
  (hR h 3 x0 0).bind fun v4 =>
  (vcall h 1 v3 (f_X1_copyFrom h v3 v4)).bind fun h5 =>
  (hI h5 3 x0 3).bind fun v6 =>
  (hP h5 3 x0 3 (.int (v6 + (1 : Int32)))).bind fun h7 =>
  some h7
def f_X3_save (h : MH) (x0 : Nat) : Option MH :=
  (hI h 3 x0 3).bind fun v8 =>
  if v8 < (6 : Int32) then
    (b_X3_save_13 h x0)
  else
    ((vcall h 3 x0 (f_X3_dropOldestSaved h x0)).bind fun h9 =>
    b_X3_save_13 h9 x0)
def b_X3_addRail_24 (h : MH) : Option (Int32 × MH) :=
  none
def f_X3_addRail (h : MH) (x0 : Nat) (x1 : Int32) (x2 : Int32) (x3 : Int32) (x4 : Int32) : Option (Int32 × MH) :=
  (f_X3_isInRange h (0 : Int32) x1).bind fun v1 =>
  if v1 = 0 then
    (b_X3_addRail_24 h)
  else
    ((f_X3_isInRange h (1 : Int32) x2).bind fun v2 =>
    if v2 = 0 then
      (b_X3_addRail_24 h)
    else
      ((f_X3_isInRange h (2 : Int32) x3).bind fun v3 =>
      if v3 = 0 then
        (b_X3_addRail_24 h)
      else
        ((vcall h 3 x0 (f_X3_areRails h x0 x4)).bind fun v4 =>
        if v4 = 0 then
          (none)
        else
          ((hR h 3 x0 0).bind fun v5 =>
          (hI h 1 v5 0).bind fun v6 =>
          if v6 < (8 : Int32) then
            ((vcall h 3 x0 (f_X3_save h x0)).bind fun h7 =>
            (hR h7 3 x0 0).bind fun v8 =>
            (vcall h7 1 v8 (f_X1_add h7 v8 x1 x2 x3 x4)).bind fun h9 =>
            (hR h9 3 x0 0).bind fun v10 =>
            (hI h9 1 v10 0).bind fun v11 =>
            some ((v11 - (1 : Int32)), h9))
          else
            (none)))))
def b_X3_isRail_20 (h : MH) (s0 : Int32) : Option Int32 :=
  some (s0 &&& 1)
def b_X3_isRail_19 (h : MH)  : Option Int32 :=
  b_X3_isRail_20 h (0 : Int32)
def f_X3_isRail (h : MH) (x0 : Nat) (x1 : Int32) : Option Int32 :=
  if x1 < 0 then
    (b_X3_isRail_19 h )
  else
    ((hR h 3 x0 0).bind fun v1 =>
    (hI h 1 v1 0).bind fun v2 =>
    if v2 ≤ x1 then
      (b_X3_isRail_19 h )
    else
      (b_X3_isRail_20 h (1 : Int32)))
def b_X3_set_18 (h : MH) : Option (Int32 × MH) :=
  none
def f_X3_set (h : MH) (x0 : Nat) (x1 : Int32) (x2 : Int32) (x3 : Int32) : Option (Int32 × MH) :=
  (vcall h 3 x0 (f_X3_isRail h x0 x1)).bind fun v1 =>
  if v1 = 0 then
    (b_X3_set_18 h)
  else
    (if x2 < 0 then
      (b_X3_set_18 h)
    else
      (if x2 < (7 : Int32) then
        ((f_X3_isInRange h x2 x3).bind fun v2 =>
        if v2 = 0 then
          (none)
        else
          ((vcall h 3 x0 (f_X3_save h x0)).bind fun h3 =>
          (hR h3 3 x0 0).bind fun v4 =>
          (vcall h3 1 v4 (f_X1_propertyOf h3 v4 x1 x2)).bind fun v5 =>
          (hR h3 3 x0 0).bind fun v6 =>
          (hR h3 1 v6 4).bind fun v7 =>
          (sI h3 v7 ((x1 * (7 : Int32)) + x2) x3).bind fun h8 =>
          some (v5, h8)))
      else
        (b_X3_set_18 h)))
def b_X3_setNeeds_71 (h : MH) (x0 : Nat) (x1 : Int32) (x2 : Int32) : Option (Int32 × MH) :=
  (vcall h 3 x0 (f_X3_save h x0)).bind fun h1 =>
  (hR h1 3 x0 0).bind fun v2 =>
  (hR h1 1 v2 5).bind fun v3 =>
  (aI h1 v3 x1).bind fun v4 =>
  (hR h1 3 x0 0).bind fun v5 =>
  (hR h1 1 v5 5).bind fun v6 =>
  (sI h1 v6 x1 x2).bind fun h7 =>
  some (v4, h7)
def f_X3_setNeeds (h : MH) (x0 : Nat) (x1 : Int32) (x2 : Int32) : Option (Int32 × MH) :=
  (vcall h 3 x0 (f_X3_isRail h x0 x1)).bind fun v8 =>
  if v8 = 0 then
    (none)
  else
    ((f_X3_areBelow h x1 x2).bind fun v9 =>
    if v9 = 0 then
      (none)
    else
      ((hR h 3 x0 0).bind fun v10 =>
      (hR h 1 v10 6).bind fun v11 =>
      (aI h v11 x1).bind fun v12 =>
      if v12 = 0 then
        (b_X3_setNeeds_71 h x0 x1 x2)
      else
        ((hR h 3 x0 0).bind fun v13 =>
        (hR h 1 v13 6).bind fun v14 =>
        (aI h v14 x1).bind fun v15 =>
        if v15 = (5 : Int32) then
          (b_X3_setNeeds_71 h x0 x1 x2)
        else
          (none))))
def b_X3_setResidue_11 (h : MH) : Option (Int32 × MH) :=
  none
def f_X3_setResidue (h : MH) (x0 : Nat) (x1 : Int32) : Option (Int32 × MH) :=
  if x1 < 0 then
    (b_X3_setResidue_11 h)
  else
    (if x1 ≤ (500 : Int32) then
      ((vcall h 3 x0 (f_X3_save h x0)).bind fun h1 =>
      (hR h1 3 x0 0).bind fun v2 =>
      (hI h1 1 v2 2).bind fun v3 =>
      (hR h1 3 x0 0).bind fun v4 =>
      (hP h1 1 v4 2 (.int x1)).bind fun h5 =>
      some (v3, h5))
    else
      (b_X3_setResidue_11 h))
def f_X3_on (h : MH) (x0 : Nat) (x1 : Int32) : Option (Int32 × MH) :=
  (vcall h 3 x0 (f_X3_areRails h x0 x1)).bind fun v1 =>
  if v1 = 0 then
    (none)
  else
    ((vcall h 3 x0 (f_X3_save h x0)).bind fun h2 =>
    (hR h2 3 x0 0).bind fun v3 =>
    (hI h2 1 v3 3).bind fun v4 =>
    (hR h2 3 x0 0).bind fun v5 =>
    (vcall h2 1 v5 (f_X1_withAllNeeded h2 v5 x1)).bind fun v6 =>
    (hP h2 1 v3 3 (.int (v4 ||| v6))).bind fun h7 =>
    (hR h7 3 x0 0).bind fun v8 =>
    (hI h7 1 v8 3).bind fun v9 =>
    some (v9, h7))
def f_X3_off (h : MH) (x0 : Nat) (x1 : Int32) : Option (Int32 × MH) :=
  (vcall h 3 x0 (f_X3_areRails h x0 x1)).bind fun v1 =>
  if v1 = 0 then
    (none)
  else
    ((vcall h 3 x0 (f_X3_save h x0)).bind fun h2 =>
    (hR h2 3 x0 0).bind fun v3 =>
    (hI h2 1 v3 3).bind fun v4 =>
    (hR h2 3 x0 0).bind fun v5 =>
    (vcall h2 1 v5 (f_X1_withFollowers h2 v5 x1)).bind fun v6 =>
    (hP h2 1 v3 3 (.int (v4 &&& (v6 ^^^ (-1 : Int32))))).bind fun h7 =>
    (hR h7 3 x0 0).bind fun v8 =>
    (hI h7 1 v8 3).bind fun v9 =>
    some (v9, h7))
def f_X3_restart (h : MH) (x0 : Nat) (x1 : Int32) : Option (Int32 × MH) :=
  (vcall h 3 x0 (f_X3_isRail h x0 x1)).bind fun v1 =>
  if v1 = 0 then
    (none)
  else
    ((hR h 3 x0 0).bind fun v2 =>
    (vcall h 1 v2 (f_X1_isWanted h v2 x1)).bind fun v3 =>
    if v3 = 0 then
      (none)
    else
      ((vcall h 3 x0 (f_X3_save h x0)).bind fun h4 =>
      (hR h4 3 x0 0).bind fun v5 =>
      (vcall h4 1 v5 (f_X1_dropForRestart h4 v5 x1)).bind fun p6 =>
      some (p6.1, p6.2)))
def b_X3_shortCircuit_29 (h : MH) : Option (Int32 × MH) :=
  none
def f_X3_shortCircuit (h : MH) (x0 : Nat) (x1 : Int32) (x2 : Int32) : Option (Int32 × MH) :=
  (vcall h 3 x0 (f_X3_isRail h x0 x1)).bind fun v1 =>
  if v1 = 0 then
    (none)
  else
    (if x2 < 0 then
      (b_X3_shortCircuit_29 h)
    else
      (if x2 ≤ (500 : Int32) then
        ((vcall h 3 x0 (f_X3_save h x0)).bind fun h2 =>
        (hR h2 3 x0 0).bind fun v3 =>
        (hR h2 1 v3 9).bind fun v4 =>
        (aI h2 v4 x1).bind fun v5 =>
        (hR h2 3 x0 0).bind fun v6 =>
        (hR h2 1 v6 9).bind fun v7 =>
        (sI h2 v7 x1 x2).bind fun h8 =>
        some (v5, h8))
      else
        (b_X3_shortCircuit_29 h)))
def b_X3_stick_27 (h : MH) : Option (Int32 × MH) :=
  none
def f_X3_stick (h : MH) (x0 : Nat) (x1 : Int32) (x2 : Int32) : Option (Int32 × MH) :=
  (vcall h 3 x0 (f_X3_isRail h x0 x1)).bind fun v1 =>
  if v1 = 0 then
    (none)
  else
    (if x2 < 0 then
      (b_X3_stick_27 h)
    else
      (if x2 ≤ (2 : Int32) then
        ((vcall h 3 x0 (f_X3_save h x0)).bind fun h2 =>
        (hR h2 3 x0 0).bind fun v3 =>
        (hR h2 1 v3 8).bind fun v4 =>
        (aI h2 v4 x1).bind fun v5 =>
        (hR h2 3 x0 0).bind fun v6 =>
        (hR h2 1 v6 8).bind fun v7 =>
        (sI h2 v7 x1 x2).bind fun h8 =>
        some (v5, h8))
      else
        (b_X3_stick_27 h)))
def b_X3_tick_12 (h : MH) : Option (Int32 × MH) :=
  none
def b_X3_tick_55 (rec55 : MH → Nat → Int32 → Int32 → Int32 → Option (Int32 × MH)) (h : MH) (x0 : Nat) (x1 : Int32) (x2 : Int32) (x3 : Int32) : Option (Int32 × MH) :=
  if x1 ≤ x3 then
    (some (x2, h))
  else
    ((hR h 3 x0 0).bind fun v1 =>
    (vcall h 1 v1 (f_X1_passTick h v1)).bind fun p2 =>
    (some (x2 + p2.1)).bind fun v3 =>
    rec55 p2.2 x0 x1 v3 (x3 + (1 : Int32)))
def f_X3_tick_55 : Nat → MH → Nat → Int32 → Int32 → Int32 → Option (Int32 × MH)
  | 0 => fun _ _ _ _ _ => none
  | n + 1 => fun h x0 x1 x2 x3 => b_X3_tick_55 (f_X3_tick_55 n) h x0 x1 x2 x3
def f_X3_tick (h : MH) (x0 : Nat) (x1 : Int32) : Option (Int32 × MH) :=
  if x1 < (1 : Int32) then
    (b_X3_tick_12 h)
  else
    (if x1 ≤ (200 : Int32) then
      ((hR h 3 x0 0).bind fun v4 =>
      (hI h 1 v4 1).bind fun v5 =>
      if (v5 + x1) ≤ (20000 : Int32) then
        ((vcall h 3 x0 (f_X3_save h x0)).bind fun h6 =>
        f_X3_tick_55 FU h6 x0 x1 (0 : Int32) (0 : Int32))
      else
        (none))
    else
      (b_X3_tick_12 h))
def b_X3_rail_28 (h : MH) : Option (Int32 × MH) :=
  none
def f_X3_rail (h : MH) (x0 : Nat) (x1 : Int32) (x2 : Int32) : Option (Int32 × MH) :=
  (vcall h 3 x0 (f_X3_isRail h x0 x1)).bind fun v1 =>
  if v1 = 0 then
    (none)
  else
    (if x2 < 0 then
      (b_X3_rail_28 h)
    else
      (if x2 < (19 : Int32) then
        ((hR h 3 x0 0).bind fun v2 =>
        (vcall h 1 v2 (f_X1_numberOf h v2 x1 x2)).bind fun v3 =>
        some (v3, h))
      else
        (b_X3_rail_28 h)))
def b_X3_account_27 (h : MH) : Option (Int32 × MH) :=
  none
def f_X3_account (h : MH) (x0 : Nat) (x1 : Int32) (x2 : Int32) : Option (Int32 × MH) :=
  (vcall h 3 x0 (f_X3_isRail h x0 x1)).bind fun v1 =>
  if v1 = 0 then
    (none)
  else
    (if x2 < 0 then
      (b_X3_account_27 h)
    else
      (if x2 < (4 : Int32) then
        ((hR h 3 x0 0).bind fun v2 =>
        (hR h 1 v2 13).bind fun v3 =>
        (aI h v3 ((x1 * (4 : Int32)) + x2)).bind fun v4 =>
        some (v4, h))
      else
        (b_X3_account_27 h)))
def b_X3_entry_19 (h : MH) : Option (Int32 × MH) :=
  none
def b_X3_entry_59 (h : MH) (s0 : Int32) : Option (Int32 × MH) :=
  some (s0, h)
def f_X3_entry (h : MH) (x0 : Nat) (x1 : Int32) (x2 : Int32) : Option (Int32 × MH) :=
  if x1 < 0 then
    (b_X3_entry_19 h)
  else
    (if (16 : Int32) ≤ x1 then
      (b_X3_entry_19 h)
    else
      (if x2 < 0 then
        (b_X3_entry_19 h)
      else
        (if x2 < (4 : Int32) then
          ((hR h 3 x0 0).bind fun v1 =>
          (hR h 1 v1 14).bind fun v2 =>
          (hI h 0 v2 1).bind fun v3 =>
          if v3 ≤ x1 then
            (b_X3_entry_59 h (-1 : Int32))
          else
            ((hR h 3 x0 0).bind fun v4 =>
            (hR h 1 v4 14).bind fun v5 =>
            (vcall h 0 v5 (f_X0_numberAt h v5 x1 x2)).bind fun v6 =>
            b_X3_entry_59 h v6))
        else
          (b_X3_entry_19 h))))
def f_X3_forget (h : MH) (x0 : Nat) (x1 : Int32) : Option (Int32 × MH) :=
  (vcall h 3 x0 (f_X3_isRail h x0 x1)).bind fun v1 =>
  if v1 = 0 then
    (none)
  else
    ((vcall h 3 x0 (f_X3_save h x0)).bind fun h2 =>
    (hR h2 3 x0 0).bind fun v3 =>
    (hR h2 1 v3 14).bind fun v4 =>
    (vcall h2 0 v4 (f_X0_removeRail h2 v4 x1)).bind fun p5 =>
    some (p5.1, p5.2))
def b_X3_countOf_160 (h : MH) (s0 : Int32) : Option (Int32 × MH) :=
  some (s0, h)
def f_X3_countOf (h : MH) (x0 : Nat) (x1 : Int32) : Option (Int32 × MH) :=
  if x1 = 0 then
  ((hR h 3 x0 0).bind fun v1 =>
  (hI h 1 v1 0).bind fun v2 =>
  some (v2, h))
 else
  if x1 = 1 then
  ((hR h 3 x0 0).bind fun v3 =>
  (hI h 1 v3 1).bind fun v4 =>
  some (v4, h))
 else
  if x1 = 2 then
  ((hR h 3 x0 0).bind fun v5 =>
  (hI h 1 v5 2).bind fun v6 =>
  some (v6, h))
 else
  if x1 = 3 then
  ((hR h 3 x0 0).bind fun v7 =>
  (hI h 1 v7 3).bind fun v8 =>
  some (v8, h))
 else
  if x1 = 4 then
  ((hR h 3 x0 0).bind fun v9 =>
  (vcall h 1 v9 (f_X1_maskOf h v9 (3 : Int32))).bind fun v10 =>
  some (v10, h))
 else
  if x1 = 5 then
  ((hR h 3 x0 0).bind fun v11 =>
  (vcall h 1 v11 (f_X1_maskOf h v11 (5 : Int32))).bind fun v12 =>
  some (v12, h))
 else
  if x1 = 6 then
  ((hR h 3 x0 0).bind fun v13 =>
  (hR h 1 v13 14).bind fun v14 =>
  (hI h 0 v14 1).bind fun v15 =>
  some (v15, h))
 else
  if x1 = 7 then
  ((hR h 3 x0 0).bind fun v16 =>
  (vcall h 1 v16 (f_X1_sumOfVoltages h v16)).bind fun v17 =>
  some (v17, h))
 else
  if x1 = 8 then
  ((hI h 3 x0 3).bind fun v18 =>
  some (v18, h))
 else
  ((hR h 3 x0 1).bind fun v19 =>
  (hR h 3 x0 0).bind fun v20 =>
  (vcall h 1 v19 (f_X1_copyFrom h v19 v20)).bind fun h21 =>
  (hR h21 3 x0 1).bind fun v22 =>
  (vcall h21 1 v22 (f_X1_passTick h21 v22)).bind fun p23 =>
  (hR p23.2 3 x0 1).bind fun v24 =>
  (vcall p23.2 1 v24 (f_X1_wasStill p23.2 v24)).bind fun v25 =>
  if v25 = 0 then
    (b_X3_countOf_160 p23.2 (0 : Int32))
  else
    (b_X3_countOf_160 p23.2 (1 : Int32)))
def b_X3_count_10 (h : MH) : Option (Int32 × MH) :=
  none
def f_X3_count (h : MH) (x0 : Nat) (x1 : Int32) : Option (Int32 × MH) :=
  if x1 < 0 then
    (b_X3_count_10 h)
  else
    (if x1 < (10 : Int32) then
      ((vcall h 3 x0 (f_X3_countOf h x0 x1)).bind fun p1 =>
      some (p1.1, p1.2))
    else
      (b_X3_count_10 h))
def b_X3_allGoodIn_83 (rec13 : MH → Nat → Int32 → Option (Int32 × MH)) (h : MH) (x0 : Nat) (x1 : Int32) : Option (Int32 × MH) :=
  rec13 h x0 (x1 + (1 : Int32))
def b_X3_allGoodIn_58 (rec13 : MH → Nat → Int32 → Option (Int32 × MH)) (h : MH) (x0 : Nat) (x1 : Int32) (s0 : Int32) : Option (Int32 × MH) :=
  (hR h 3 x0 1).bind fun v1 =>
  (vcall h 1 v1 (f_X1_passTick h v1)).bind fun p2 =>
  if s0 = 0 then
    (b_X3_allGoodIn_83 rec13 p2.2 x0 x1)
  else
    ((hR p2.2 3 x0 1).bind fun v3 =>
    (vcall p2.2 1 v3 (f_X1_wasStill p2.2 v3)).bind fun v4 =>
    if v4 = 0 then
      (b_X3_allGoodIn_83 rec13 p2.2 x0 x1)
    else
      (some ((-1 : Int32), p2.2)))
def b_X3_allGoodIn_13 (rec13 : MH → Nat → Int32 → Option (Int32 × MH)) (h : MH) (x0 : Nat) (x1 : Int32) : Option (Int32 × MH) :=
  if (1000 : Int32) < x1 then
    (some ((-1 : Int32), h))
  else
    ((hR h 3 x0 1).bind fun v5 =>
    (hI h 1 v5 3).bind fun v6 =>
    (hR h 3 x0 1).bind fun v7 =>
    (vcall h 1 v7 (f_X1_maskOf h v7 (3 : Int32))).bind fun v8 =>
    if (v6 &&& (v8 ^^^ (-1 : Int32))) = 0 then
      (some (x1, h))
    else
      ((hR h 3 x0 1).bind fun v9 =>
      (vcall h 1 v9 (f_X1_isAnyShorted h v9)).bind fun v10 =>
      if v10 = 0 then
        (b_X3_allGoodIn_58 rec13 h x0 x1 (1 : Int32))
      else
        (b_X3_allGoodIn_58 rec13 h x0 x1 (0 : Int32))))
def f_X3_allGoodIn_13 : Nat → MH → Nat → Int32 → Option (Int32 × MH)
  | 0 => fun _ _ _ => none
  | n + 1 => fun h x0 x1 => b_X3_allGoodIn_13 (f_X3_allGoodIn_13 n) h x0 x1
def f_X3_allGoodIn (h : MH) (x0 : Nat) : Option (Int32 × MH) :=
  (hR h 3 x0 1).bind fun v11 =>
  (hR h 3 x0 0).bind fun v12 =>
  (vcall h 1 v11 (f_X1_copyFrom h v11 v12)).bind fun h13 =>
  f_X3_allGoodIn_13 FU h13 x0 (0 : Int32)
def b_X3_allOffIn_21 (rec21 : MH → Nat → Int32 → Option (Int32 × MH)) (h : MH) (x0 : Nat) (x1 : Int32) : Option (Int32 × MH) :=
  if (1000 : Int32) < x1 then
    (some ((-1 : Int32), h))
  else
    ((hR h 3 x0 1).bind fun v1 =>
    (vcall h 1 v1 (f_X1_isAllOff h v1)).bind fun v2 =>
    if v2 = 0 then
      ((hR h 3 x0 1).bind fun v3 =>
      (vcall h 1 v3 (f_X1_passTick h v3)).bind fun p4 =>
      rec21 p4.2 x0 (x1 + (1 : Int32)))
    else
      (some (x1, h)))
def f_X3_allOffIn_21 : Nat → MH → Nat → Int32 → Option (Int32 × MH)
  | 0 => fun _ _ _ => none
  | n + 1 => fun h x0 x1 => b_X3_allOffIn_21 (f_X3_allOffIn_21 n) h x0 x1
def f_X3_allOffIn (h : MH) (x0 : Nat) : Option (Int32 × MH) :=
  (hR h 3 x0 1).bind fun v5 =>
  (hR h 3 x0 0).bind fun v6 =>
  (vcall h 1 v5 (f_X1_copyFrom h v5 v6)).bind fun h7 =>
  (hR h7 3 x0 1).bind fun v8 =>
  (hP h7 1 v8 3 (.int (0 : Int32))).bind fun h9 =>
  f_X3_allOffIn_21 FU h9 x0 (0 : Int32)
def b_X3_ifShort_39 (h : MH) : Option (Int32 × MH) :=
  none
def b_X3_ifShort_130 (h : MH) (s0 : Nat) (s1 : Int32) : Option (Int32 × MH) :=
  (vcall h 1 s0 (f_X1_maskOf h s0 s1)).bind fun v1 =>
  some (v1, h)
def b_X3_ifShort_76 (rec76 : MH → Nat → Int32 → Int32 → Int32 → Option (Int32 × MH)) (h : MH) (x0 : Nat) (x3 : Int32) (x4 : Int32) (x5 : Int32) : Option (Int32 × MH) :=
  if (100 : Int32) ≤ x5 then
    (if x3 = 0 then
      (some (x4, h))
    else
      ((hR h 3 x0 1).bind fun v2 =>
      if x3 = (1 : Int32) then
        (b_X3_ifShort_130 h v2 (3 : Int32))
      else
        (b_X3_ifShort_130 h v2 (5 : Int32))))
  else
    ((hR h 3 x0 1).bind fun v3 =>
    (vcall h 1 v3 (f_X1_passTick h v3)).bind fun p4 =>
    (hR p4.2 3 x0 1).bind fun v5 =>
    (vcall p4.2 1 v5 (f_X1_justDropped p4.2 v5)).bind fun v6 =>
    (some (x4 ||| v6)).bind fun v7 =>
    rec76 p4.2 x0 x3 v7 (x5 + (1 : Int32)))
def f_X3_ifShort_76 : Nat → MH → Nat → Int32 → Int32 → Int32 → Option (Int32 × MH)
  | 0 => fun _ _ _ _ _ => none
  | n + 1 => fun h x0 x3 x4 x5 => b_X3_ifShort_76 (f_X3_ifShort_76 n) h x0 x3 x4 x5
def f_X3_ifShort (h : MH) (x0 : Nat) (x1 : Int32) (x2 : Int32) (x3 : Int32) : Option (Int32 × MH) :=
  (vcall h 3 x0 (f_X3_isRail h x0 x1)).bind fun v8 =>
  if v8 = 0 then
    (none)
  else
    (if x2 < (1 : Int32) then
      (b_X3_ifShort_39 h)
    else
      (if (500 : Int32) < x2 then
        (b_X3_ifShort_39 h)
      else
        (if x3 < 0 then
          (b_X3_ifShort_39 h)
        else
          (if x3 ≤ (2 : Int32) then
            ((hR h 3 x0 1).bind fun v9 =>
            (hR h 3 x0 0).bind fun v10 =>
            (vcall h 1 v9 (f_X1_copyFrom h v9 v10)).bind fun h11 =>
            (hR h11 3 x0 1).bind fun v12 =>
            (hR h11 1 v12 9).bind fun v13 =>
            (sI h11 v13 x1 x2).bind fun h14 =>
            f_X3_ifShort_76 FU h14 x0 x3 (0 : Int32) (0 : Int32))
          else
            (b_X3_ifShort_39 h)))))
def f_X3_leastPatience (h : MH) (x0 : Nat) (x1 : Int32) : Option (Int32 × MH) :=
  (vcall h 3 x0 (f_X3_isRail h x0 x1)).bind fun v1 =>
  if v1 = 0 then
    (none)
  else
    ((hR h 3 x0 0).bind fun v2 =>
    (vcall h 1 v2 (f_X1_leastPatienceOf h v2 x1)).bind fun v3 =>
    some (v3, h))
def b_X3_goodShare_26 (h : MH) (rec26 : Nat → Int32 → Int32 → Int32 → Option UInt64) (x0 : Nat) (x1 : Int32) (x2 : Int32) (x3 : Int32) : Option UInt64 :=
  (hR h 3 x0 0).bind fun v1 =>
  (hI h 1 v1 0).bind fun v2 =>
  if v2 ≤ x3 then
    ((fddiv (FP.i2d x2) (FP.i2d x1)).bind fun v3 =>
    some v3)
  else
    ((hR h 3 x0 0).bind fun v4 =>
    (hR h 1 v4 13).bind fun v5 =>
    (aI h v5 ((x3 * (4 : Int32)) + (3 : Int32))).bind fun v6 =>
    (some (x2 + v6)).bind fun v7 =>
    rec26 x0 x1 v7 (x3 + (1 : Int32)))
def f_X3_goodShare_26 (h : MH) : Nat → Nat → Int32 → Int32 → Int32 → Option UInt64
  | 0 => fun _ _ _ _ => none
  | n + 1 => fun x0 x1 x2 x3 => b_X3_goodShare_26 h (f_X3_goodShare_26 h n) x0 x1 x2 x3
def f_X3_goodShare (h : MH) (x0 : Nat) : Option UInt64 :=
  (hR h 3 x0 0).bind fun v8 =>
  (hI h 1 v8 1).bind fun v9 =>
  (hR h 3 x0 0).bind fun v10 =>
  (hI h 1 v10 0).bind fun v11 =>
  (some (v9 * v11)).bind fun v12 =>
  if v12 = 0 then
    (some (0 : UInt64))
  else
    (f_X3_goodShare_26 h FU x0 v12 (0 : Int32) (0 : Int32))
def b_L_cell_18 (sc : Nat × (Nat → Int32)) (h : MH) (s0 : Int32) : Option Int32 :=
  some s0
def f_L_cell (sc : Nat × (Nat → Int32)) (h : MH) (x1 : Int32) : Option Int32 :=
  if (Int32.ofNat sc.1) ≤ x1 then
    (b_L_cell_18 sc h ((961987163 : Int32) * (x1 + (1 : Int32))))
  else
    ((rA sc.1 sc.2 x1).bind fun v1 =>
    b_L_cell_18 sc h v1)
def f_L_at (h : MH) (x0 : Int32) (x1 : Int32) : Option Int32 :=
  (firem (ushr x0 (1 : Int32)) x1).bind fun v1 =>
  some v1
def b_L_flag_57 (h : MH) (s0 : Int32) : Option Int32 :=
  some (s0 &&& 1)
def b_L_flag_52 (h : MH)  : Option Int32 :=
  b_L_flag_57 h (1 : Int32)
def b_L_flag_56 (h : MH)  : Option Int32 :=
  b_L_flag_57 h (0 : Int32)
def f_L_flag (h : MH) (x0 : Int32) (x1 : Nat) (x2 : Nat) : Option Int32 :=
  (aI h x2 (((9 : Int32) * x0) + (4 : Int32))).bind fun v1 =>
  if v1 = (2 : Int32) then
    (b_L_flag_52 h )
  else
    ((aI h x2 (((9 : Int32) * x0) + (4 : Int32))).bind fun v2 =>
    if v2 = 0 then
      ((aI h x2 (((9 : Int32) * x0) + (3 : Int32))).bind fun v3 =>
      (aI h x1 ((7 : Int32) * x0)).bind fun v4 =>
      (aI h x1 (((7 : Int32) * x0) + (3 : Int32))).bind fun v5 =>
      if ((100 : Int32) * v3) < (v4 * v5) then
        (b_L_flag_56 h )
      else
        (b_L_flag_52 h ))
    else
      (b_L_flag_56 h ))
def b_L_enter_130 (h : MH) : Option MH :=
  some h
def b_L_enter_59 (rec59 : MH → Int32 → Int32 → Nat → Nat → Nat → Int32 → Option MH) (h : MH) (x0 : Int32) (x1 : Int32) (x2 : Nat) (x4 : Nat) (x5 : Nat) (x6 : Int32) : Option MH :=
  if x6 < 0 then
    ((aI h x5 (2 : Int32)).bind fun v1 =>
    (sI h x4 (0 : Int32) v1).bind fun h2 =>
    (sI h2 x4 (1 : Int32) x0).bind fun h3 =>
    (sI h3 x4 (2 : Int32) x1).bind fun h4 =>
    (aI h4 x2 (((9 : Int32) * x0) + (8 : Int32))).bind fun v5 =>
    (sI h4 x4 (3 : Int32) v5).bind fun h6 =>
    (aI h6 x5 (3 : Int32)).bind fun v7 =>
    if (16 : Int32) ≤ v7 then
      (b_L_enter_130 h6)
    else
      ((aI h6 x5 (3 : Int32)).bind fun v8 =>
      (sI h6 x5 (3 : Int32) (v8 + (1 : Int32))).bind fun h9 =>
      b_L_enter_130 h9))
  else
    ((aI h x4 x6).bind fun v10 =>
    (sI h x4 (x6 + (4 : Int32)) v10).bind fun h11 =>
    rec59 h11 x0 x1 x2 x4 x5 (x6 + (-1 : Int32)))
def f_L_enter_59 : Nat → MH → Int32 → Int32 → Nat → Nat → Nat → Int32 → Option MH
  | 0 => fun _ _ _ _ _ _ _ => none
  | n + 1 => fun h x0 x1 x2 x4 x5 x6 => b_L_enter_59 (f_L_enter_59 n) h x0 x1 x2 x4 x5 x6
def b_L_enter_55 (h : MH) (x0 : Int32) (x1 : Int32) (x2 : Nat) (x4 : Nat) (x5 : Nat) : Option MH :=
  f_L_enter_59 FU h x0 x1 x2 x4 x5 (59 : Int32)
def b_L_enter_42 (h : MH) (x0 : Int32) (x1 : Int32) (x2 : Nat) (x3 : Nat) (x4 : Nat) (x5 : Nat) : Option MH :=
  (aI h x3 ((((4 : Int32) * x0) + x1) - (2 : Int32))).bind fun v12 =>
  (sI h x3 ((((4 : Int32) * x0) + x1) - (2 : Int32)) (v12 + (1 : Int32))).bind fun h13 =>
  b_L_enter_55 h13 x0 x1 x2 x4 x5
def b_L_enter_32 (h : MH) (x0 : Int32) (x1 : Int32) (x2 : Nat) (x3 : Nat) (x4 : Nat) (x5 : Nat) : Option MH :=
  if x1 = (2 : Int32) then
    (b_L_enter_42 h x0 x1 x2 x3 x4 x5)
  else
    (if x1 = (3 : Int32) then
      (b_L_enter_42 h x0 x1 x2 x3 x4 x5)
    else
      (b_L_enter_55 h x0 x1 x2 x4 x5))
def f_L_enter (h : MH) (x0 : Int32) (x1 : Int32) (x2 : Nat) (x3 : Nat) (x4 : Nat) (x5 : Nat) : Option MH :=
  (sI h x2 (((9 : Int32) * x0) + (2 : Int32)) x1).bind fun h14 =>
  (aI h14 x5 (4 : Int32)).bind fun v15 =>
  (sI h14 x5 (4 : Int32) (v15 + (1 : Int32))).bind fun h16 =>
  if x1 ≤ (3 : Int32) then
    (b_L_enter_32 h16 x0 x1 x2 x3 x4 x5)
  else
    ((aI h16 x5 (5 : Int32)).bind fun v17 =>
    (sI h16 x5 (5 : Int32) (v17 ||| ((1 : Int32) <<< (x0 &&& 31)))).bind fun h18 =>
    b_L_enter_32 h18 x0 x1 x2 x3 x4 x5)
def b_L_next_63 (h : MH) (rec12 : Int32 → Int32 → Nat → Nat → Nat → Int32 → Int32 → Int32 → Option Int32) (x0 : Int32) (x1 : Int32) (x2 : Nat) (x3 : Nat) (x4 : Nat) (x5 : Int32) (x6 : Int32) (x7 : Int32) : Option Int32 :=
  rec12 x0 x1 x2 x3 x4 x5 x6 (x7 + (1 : Int32))
def b_L_next_59 (h : MH) (rec12 : Int32 → Int32 → Nat → Nat → Nat → Int32 → Int32 → Int32 → Option Int32) (x0 : Int32) (x1 : Int32) (x2 : Nat) (x3 : Nat) (x4 : Nat) (x5 : Int32) (x7 : Int32) : Option Int32 :=
  b_L_next_63 h rec12 x0 x1 x2 x3 x4 x5 x7 x7
def b_L_next_228 (h : MH) (s0 : Int32) : Option Int32 :=
  some s0
def b_L_next_227 (h : MH)  : Option Int32 :=
  b_L_next_228 h (-1 : Int32)
def b_L_next_131 (h : MH) (s0 : Int32) : Option Int32 :=
  some s0
def b_L_next_206 (h : MH) (s0 : Int32) : Option Int32 :=
  some s0
def b_L_next_311 (h : MH) (s0 : Int32) : Option Int32 :=
  some s0
def b_L_next_408 (h : MH)  : Option Int32 :=
  some (-1 : Int32)
def b_L_next_410 (h : MH) (rec343 : Int32 → Int32 → Nat → Nat → Int32 → Option Int32) (x0 : Int32) (x1 : Int32) (x3 : Nat) (x4 : Nat) (x10 : Int32) : Option Int32 :=
  rec343 x0 x1 x3 x4 (x10 + (1 : Int32))
def b_L_next_343 (h : MH) (rec343 : Int32 → Int32 → Nat → Nat → Int32 → Option Int32) (x0 : Int32) (x1 : Int32) (x3 : Nat) (x4 : Nat) (x10 : Int32) : Option Int32 :=
  (aI h x4 (0 : Int32)).bind fun v1 =>
  if v1 ≤ x10 then
    (some (24 : Int32))
  else
    ((aI h x3 ((9 : Int32) * x10)).bind fun v2 =>
    if ((v2 >>> (x0 &&& 31)) &&& (1 : Int32)) = (1 : Int32) then
      ((aI h x3 (((9 : Int32) * x10) + (3 : Int32))).bind fun v3 =>
      (aI h x4 (1 : Int32)).bind fun v4 =>
      if v4 < v3 then
        (b_L_next_408 h )
      else
        (if ((x1 >>> (((3 : Int32) * x10) &&& 31)) &&& (7 : Int32)) = 0 then
          (b_L_next_410 h rec343 x0 x1 x3 x4 x10)
        else
          (if ((x1 >>> (((3 : Int32) * x10) &&& 31)) &&& (7 : Int32)) = (5 : Int32) then
            (b_L_next_410 h rec343 x0 x1 x3 x4 x10)
          else
            (b_L_next_408 h ))))
    else
      (b_L_next_410 h rec343 x0 x1 x3 x4 x10))
def f_L_next_343 (h : MH) : Nat → Int32 → Int32 → Nat → Nat → Int32 → Option Int32
  | 0 => fun _ _ _ _ _ => none
  | n + 1 => fun x0 x1 x3 x4 x10 => b_L_next_343 h (f_L_next_343 h n) x0 x1 x3 x4 x10
def b_L_next_243 (h : MH) (x0 : Int32) (x1 : Int32) (x2 : Nat) (x3 : Nat) (x4 : Nat) (x5 : Int32) (x6 : Int32) (x7 : Int32) (x9 : Int32) : Option Int32 :=
  if x6 < 0 then
    (if x9 = (2 : Int32) then
      ((f_L_flag h x0 x2 x3).bind fun v7 =>
      if v7 = 0 then
        ((aI h x3 (x5 + (6 : Int32))).bind fun v8 =>
        (aI h x2 (((7 : Int32) * x0) + (5 : Int32))).bind fun v9 =>
        if (v8 + (1 : Int32)) < v9 then
          (b_L_next_311 h (-1 : Int32))
        else
          (b_L_next_311 h ((6 : Int32) + ((20 : Int32) * (x0 + (2 : Int32))))))
      else
        (b_L_next_311 h (23 : Int32)))
    else
      ((f_L_flag h x0 x2 x3).bind fun v5 =>
      if v5 = 0 then
        (some ((6 : Int32) + ((20 : Int32) * (x0 + (2 : Int32)))))
      else
        (if x7 = 0 then
          ((some (x0 + (1 : Int32))).bind fun v6 =>
          f_L_next_343 h FU x0 x1 x3 x4 v6)
        else
          (some (-1 : Int32)))))
  else
    (some ((4 : Int32) + ((20 : Int32) * (x6 + (2 : Int32)))))
def b_L_next_180 (h : MH) (s0 : Int32) : Option Int32 :=
  some s0
def b_L_next_179 (h : MH)  : Option Int32 :=
  b_L_next_180 h (-1 : Int32)
def b_L_next_104 (h : MH) (x0 : Int32) (x1 : Int32) (x2 : Nat) (x3 : Nat) (x4 : Nat) (x5 : Int32) (x6 : Int32) (x7 : Int32) (s0 : Int32) : Option Int32 :=
  (some ((x1 >>> (((3 : Int32) * x0) &&& 31)) &&& (7 : Int32))).bind fun v10 =>
  if v10 = 0 then
    (if x7 = 0 then
      (b_L_next_131 h (-1 : Int32))
    else
      (b_L_next_131 h (1 : Int32)))
  else
    (if v10 = (1 : Int32) then
      (if x7 = 0 then
        (b_L_next_180 h (0 : Int32))
      else
        (if s0 = 0 then
          (b_L_next_179 h )
        else
          (if 0 ≤ x6 then
            (b_L_next_179 h )
          else
            ((aI h x3 (x5 + (6 : Int32))).bind fun v11 =>
            (aI h x2 (((7 : Int32) * x0) + (4 : Int32))).bind fun v12 =>
            if v11 < v12 then
              (b_L_next_179 h )
            else
              (b_L_next_180 h (2 : Int32))))))
    else
      (if v10 = (4 : Int32) then
        (if s0 = 0 then
          (b_L_next_206 h (-1 : Int32))
        else
          (if x7 = 0 then
            (b_L_next_206 h (0 : Int32))
          else
            (b_L_next_206 h (1 : Int32))))
      else
        (if v10 = (5 : Int32) then
          (if x7 = 0 then
            (if s0 = 0 then
              (b_L_next_227 h )
            else
              (b_L_next_228 h (0 : Int32)))
          else
            (b_L_next_227 h ))
        else
          (if v10 = (2 : Int32) then
            (if x7 = 0 then
              (some (24 : Int32))
            else
              (b_L_next_243 h x0 x1 x2 x3 x4 x5 x6 x7 v10))
          else
            (b_L_next_243 h x0 x1 x2 x3 x4 x5 x6 x7 v10)))))
def b_L_next_84 (h : MH) (x0 : Int32) (x1 : Int32) (x2 : Nat) (x3 : Nat) (x4 : Nat) (x5 : Int32) (x6 : Int32) (s0 : Int32) : Option Int32 :=
  (aI h x3 (x5 + (3 : Int32))).bind fun v13 =>
  (aI h x4 (1 : Int32)).bind fun v14 =>
  if v14 < v13 then
    (b_L_next_104 h x0 x1 x2 x3 x4 x5 x6 s0 (0 : Int32))
  else
    (b_L_next_104 h x0 x1 x2 x3 x4 x5 x6 s0 (1 : Int32))
def b_L_next_69 (h : MH) (x0 : Int32) (x1 : Int32) (x2 : Nat) (x3 : Nat) (x4 : Nat) (x5 : Int32) (x6 : Int32) : Option Int32 :=
  (aI h x3 (x5 + (1 : Int32))).bind fun v15 =>
  if v15 = (1 : Int32) then
    (b_L_next_84 h x0 x1 x2 x3 x4 x5 x6 (1 : Int32))
  else
    (b_L_next_84 h x0 x1 x2 x3 x4 x5 x6 (0 : Int32))
def b_L_next_12 (h : MH) (rec12 : Int32 → Int32 → Nat → Nat → Nat → Int32 → Int32 → Int32 → Option Int32) (x0 : Int32) (x1 : Int32) (x2 : Nat) (x3 : Nat) (x4 : Nat) (x5 : Int32) (x6 : Int32) (x7 : Int32) : Option Int32 :=
  if x0 ≤ x7 then
    (b_L_next_69 h x0 x1 x2 x3 x4 x5 x6)
  else
    (if 0 ≤ x6 then
      (b_L_next_69 h x0 x1 x2 x3 x4 x5 x6)
    else
      ((aI h x3 x5).bind fun v16 =>
      if ((v16 >>> (x7 &&& 31)) &&& (1 : Int32)) = (1 : Int32) then
        (if ((x1 >>> (((3 : Int32) * x7) &&& 31)) &&& (7 : Int32)) = (3 : Int32) then
          ((f_L_flag h x7 x2 x3).bind fun v17 =>
          if v17 = 0 then
            (b_L_next_59 h rec12 x0 x1 x2 x3 x4 x5 x7)
          else
            (b_L_next_63 h rec12 x0 x1 x2 x3 x4 x5 x6 x7))
        else
          (b_L_next_59 h rec12 x0 x1 x2 x3 x4 x5 x7))
      else
        (b_L_next_63 h rec12 x0 x1 x2 x3 x4 x5 x6 x7)))
def f_L_next_12 (h : MH) : Nat → Int32 → Int32 → Nat → Nat → Nat → Int32 → Int32 → Int32 → Option Int32
  | 0 => fun _ _ _ _ _ _ _ _ => none
  | n + 1 => fun x0 x1 x2 x3 x4 x5 x6 x7 => b_L_next_12 h (f_L_next_12 h n) x0 x1 x2 x3 x4 x5 x6 x7
def f_L_next (h : MH) (x0 : Int32) (x1 : Int32) (x2 : Nat) (x3 : Nat) (x4 : Nat) : Option Int32 :=
  (some ((9 : Int32) * x0)).bind fun v18 =>
  f_L_next_12 h FU x0 x1 x2 x3 x4 v18 (-1 : Int32) (0 : Int32)
def b_L_tick_161 (rec6 : MH → Nat → Nat → Nat → Nat → Nat → Int32 → Int32 → Option MH) (h : MH) (x0 : Nat) (x1 : Nat) (x2 : Nat) (x3 : Nat) (x4 : Nat) (x5 : Int32) (x6 : Int32) (x7 : Int32) (s0 : Nat) (s1 : Int32) (s2 : Int32) : Option MH :=
  (sI h s0 s1 s2).bind fun h1 =>
  (aI h1 x1 (x7 + (2 : Int32))).bind fun v2 =>
  (some (x5 ||| (v2 <<< (((3 : Int32) * x6) &&& 31)))).bind fun v3 =>
  rec6 h1 x0 x1 x2 x3 x4 v3 (x6 + (1 : Int32))
def b_L_tick_102 (rec6 : MH → Nat → Nat → Nat → Nat → Nat → Int32 → Int32 → Option MH) (h : MH) (x0 : Nat) (x1 : Nat) (x2 : Nat) (x3 : Nat) (x4 : Nat) (x5 : Int32) (x6 : Int32) (x7 : Int32) (x9 : Int32) (s0 : Int32) : Option MH :=
  (aI h x1 (x7 + (3 : Int32))).bind fun v4 =>
  (some (x9 - v4)).bind fun v5 =>
  if v5 ≤ s0 then
    (if (-s0) ≤ v5 then
      (b_L_tick_161 rec6 h x0 x1 x2 x3 x4 x5 x6 x7 x1 (x7 + (3 : Int32)) x9)
    else
      ((aI h x1 (x7 + (3 : Int32))).bind fun v6 =>
      b_L_tick_161 rec6 h x0 x1 x2 x3 x4 x5 x6 x7 x1 (x7 + (3 : Int32)) (v6 - s0)))
  else
    ((aI h x1 (x7 + (3 : Int32))).bind fun v7 =>
    b_L_tick_161 rec6 h x0 x1 x2 x3 x4 x5 x6 x7 x1 (x7 + (3 : Int32)) (v7 + s0))
def b_L_tick_74 (rec6 : MH → Nat → Nat → Nat → Nat → Nat → Int32 → Int32 → Option MH) (h : MH) (x0 : Nat) (x1 : Nat) (x2 : Nat) (x3 : Nat) (x4 : Nat) (x5 : Int32) (x6 : Int32) (x7 : Int32) (x8 : Int32) (s0 : Int32) : Option MH :=
  if x8 = 0 then
    ((aI h x0 (((7 : Int32) * x6) + (2 : Int32))).bind fun v8 =>
    b_L_tick_102 rec6 h x0 x1 x2 x3 x4 x5 x6 x7 s0 v8)
  else
    ((aI h x0 (((7 : Int32) * x6) + (1 : Int32))).bind fun v9 =>
    b_L_tick_102 rec6 h x0 x1 x2 x3 x4 x5 x6 x7 s0 v9)
def b_L_tick_56 (rec6 : MH → Nat → Nat → Nat → Nat → Nat → Int32 → Int32 → Option MH) (h : MH) (x0 : Nat) (x1 : Nat) (x2 : Nat) (x3 : Nat) (x4 : Nat) (x5 : Int32) (x6 : Int32) (x7 : Int32) (s0 : Int32) : Option MH :=
  if s0 = 0 then
    (b_L_tick_74 rec6 h x0 x1 x2 x3 x4 x5 x6 x7 s0 (0 : Int32))
  else
    ((aI h x0 ((7 : Int32) * x6)).bind fun v10 =>
    b_L_tick_74 rec6 h x0 x1 x2 x3 x4 x5 x6 x7 s0 v10)
def b_L_tick_55 (rec6 : MH → Nat → Nat → Nat → Nat → Nat → Int32 → Int32 → Option MH) (h : MH) (x0 : Nat) (x1 : Nat) (x2 : Nat) (x3 : Nat) (x4 : Nat) (x5 : Int32) (x6 : Int32) (x7 : Int32) : Option MH :=
  b_L_tick_56 rec6 h x0 x1 x2 x3 x4 x5 x6 x7 (0 : Int32)
def b_L_tick_42 (rec6 : MH → Nat → Nat → Nat → Nat → Nat → Int32 → Int32 → Option MH) (h : MH) (x0 : Nat) (x1 : Nat) (x2 : Nat) (x3 : Nat) (x4 : Nat) (x5 : Int32) (x6 : Int32) (x7 : Int32) : Option MH :=
  (aI h x1 (x7 + (5 : Int32))).bind fun v11 =>
  if v11 = 0 then
    (b_L_tick_56 rec6 h x0 x1 x2 x3 x4 x5 x6 x7 (1 : Int32))
  else
    (b_L_tick_55 rec6 h x0 x1 x2 x3 x4 x5 x6 x7)
def b_L_tick_531 (rec187 : MH → Nat → Nat → Nat → Nat → Nat → Int32 → Int32 → Option MH) (h : MH) (x0 : Nat) (x1 : Nat) (x2 : Nat) (x3 : Nat) (x4 : Nat) (x5 : Int32) (x6 : Int32) : Option MH :=
  rec187 h x0 x1 x2 x3 x4 x5 (x6 + (1 : Int32))
def b_L_tick_523 (rec187 : MH → Nat → Nat → Nat → Nat → Nat → Int32 → Int32 → Option MH) (h : MH) (x0 : Nat) (x1 : Nat) (x2 : Nat) (x3 : Nat) (x4 : Nat) (x5 : Int32) (x6 : Int32) (s0 : Int32) (s1 : Int32) : Option MH :=
  (f_L_enter h s0 s1 x1 x2 x3 x4).bind fun h12 =>
  b_L_tick_531 rec187 h12 x0 x1 x2 x3 x4 x5 x6
def b_L_tick_483 (rec187 : MH → Nat → Nat → Nat → Nat → Nat → Int32 → Int32 → Option MH) (h : MH) (x0 : Nat) (x1 : Nat) (x2 : Nat) (x3 : Nat) (x4 : Nat) (x5 : Int32) (x6 : Int32) (x7 : Int32) (x9 : Int32) (x10 : Int32) : Option MH :=
  if x10 = 0 then
    ((firem x9 (20 : Int32)).bind fun v13 =>
    b_L_tick_523 rec187 h x0 x1 x2 x3 x4 x5 x6 x6 v13)
  else
    ((aI h x1 (x7 + (7 : Int32))).bind fun v14 =>
    (aI h x0 (((7 : Int32) * x6) + (6 : Int32))).bind fun v15 =>
    if v14 < v15 then
      (b_L_tick_523 rec187 h x0 x1 x2 x3 x4 x5 x6 x6 (4 : Int32))
    else
      (b_L_tick_523 rec187 h x0 x1 x2 x3 x4 x5 x6 x6 (5 : Int32)))
def b_L_tick_455 (rec187 : MH → Nat → Nat → Nat → Nat → Nat → Int32 → Int32 → Option MH) (h : MH) (x0 : Nat) (x1 : Nat) (x2 : Nat) (x3 : Nat) (x4 : Nat) (x5 : Int32) (x6 : Int32) (x7 : Int32) (x9 : Int32) (x10 : Int32) : Option MH :=
  if x10 = 0 then
    (b_L_tick_483 rec187 h x0 x1 x2 x3 x4 x5 x6 x7 x9 x10)
  else
    ((aI h x1 (x7 + (7 : Int32))).bind fun v16 =>
    (sI h x1 (x7 + (7 : Int32)) (v16 + (1 : Int32))).bind fun h17 =>
    (aI h17 x2 (((4 : Int32) * x6) + (2 : Int32))).bind fun v18 =>
    (sI h17 x2 (((4 : Int32) * x6) + (2 : Int32)) (v18 + (1 : Int32))).bind fun h19 =>
    b_L_tick_483 rec187 h19 x0 x1 x2 x3 x4 x5 x6 x7 x9 x10)
def b_L_tick_434 (rec187 : MH → Nat → Nat → Nat → Nat → Nat → Int32 → Int32 → Option MH) (h : MH) (x0 : Nat) (x1 : Nat) (x2 : Nat) (x3 : Nat) (x4 : Nat) (x5 : Int32) (x6 : Int32) (x7 : Int32) (x9 : Int32) (x10 : Int32) : Option MH :=
  if x9 < (20 : Int32) then
    (b_L_tick_455 rec187 h x0 x1 x2 x3 x4 x5 x6 x7 x9 x10)
  else
    ((fidiv x9 (20 : Int32)).bind fun v20 =>
    (sI h x1 (x7 + (8 : Int32)) (v20 - (2 : Int32))).bind fun h21 =>
    b_L_tick_455 rec187 h21 x0 x1 x2 x3 x4 x5 x6 x7 x9 x10)
def b_L_tick_421 (rec187 : MH → Nat → Nat → Nat → Nat → Nat → Int32 → Int32 → Option MH) (h : MH) (x0 : Nat) (x1 : Nat) (x2 : Nat) (x3 : Nat) (x4 : Nat) (x5 : Int32) (x6 : Int32) (x7 : Int32) (x8 : Int32) (x9 : Int32) (x10 : Int32) : Option MH :=
  if x8 = 0 then
    ((sI h x1 (x7 + (7 : Int32)) (0 : Int32)).bind fun h22 =>
    b_L_tick_434 rec187 h22 x0 x1 x2 x3 x4 x5 x6 x7 x9 x10)
  else
    (b_L_tick_434 rec187 h x0 x1 x2 x3 x4 x5 x6 x7 x9 x10)
def b_L_tick_413 (rec187 : MH → Nat → Nat → Nat → Nat → Nat → Int32 → Int32 → Option MH) (h : MH) (x0 : Nat) (x1 : Nat) (x2 : Nat) (x3 : Nat) (x4 : Nat) (x5 : Int32) (x6 : Int32) (x7 : Int32) (x8 : Int32) (x9 : Int32) (x10 : Int32) : Option MH :=
  (sI h x1 (x7 + (6 : Int32)) (0 : Int32)).bind fun h23 =>
  b_L_tick_421 rec187 h23 x0 x1 x2 x3 x4 x5 x6 x7 x8 x9 x10
def b_L_tick_393 (rec187 : MH → Nat → Nat → Nat → Nat → Nat → Int32 → Int32 → Option MH) (h : MH) (x0 : Nat) (x1 : Nat) (x2 : Nat) (x3 : Nat) (x4 : Nat) (x5 : Int32) (x6 : Int32) (x7 : Int32) (x8 : Int32) (x9 : Int32) (x10 : Int32) : Option MH :=
  if 0 ≤ x9 then
    (if x9 = (1 : Int32) then
      (b_L_tick_413 rec187 h x0 x1 x2 x3 x4 x5 x6 x7 x8 x9 x10)
    else
      (if x9 = (2 : Int32) then
        (b_L_tick_413 rec187 h x0 x1 x2 x3 x4 x5 x6 x7 x8 x9 x10)
      else
        (b_L_tick_421 rec187 h x0 x1 x2 x3 x4 x5 x6 x7 x8 x9 x10)))
  else
    (b_L_tick_531 rec187 h x0 x1 x2 x3 x4 x5 x6)
def b_L_tick_382 (rec187 : MH → Nat → Nat → Nat → Nat → Nat → Int32 → Int32 → Option MH) (h : MH) (x0 : Nat) (x1 : Nat) (x2 : Nat) (x3 : Nat) (x4 : Nat) (x5 : Int32) (x6 : Int32) (x7 : Int32) (x8 : Int32) (x9 : Int32) (x10 : Int32) : Option MH :=
  (aI h x1 (x7 + (6 : Int32))).bind fun v24 =>
  (sI h x1 (x7 + (6 : Int32)) (v24 + (1 : Int32))).bind fun h25 =>
  b_L_tick_393 rec187 h25 x0 x1 x2 x3 x4 x5 x6 x7 x8 x9 x10
def b_L_tick_364 (rec187 : MH → Nat → Nat → Nat → Nat → Nat → Int32 → Int32 → Option MH) (h : MH) (x0 : Nat) (x1 : Nat) (x2 : Nat) (x3 : Nat) (x4 : Nat) (x5 : Int32) (x6 : Int32) (x7 : Int32) (x8 : Int32) (x9 : Int32) (s0 : Int32) : Option MH :=
  if x8 = (2 : Int32) then
    (if x9 < 0 then
      (b_L_tick_382 rec187 h x0 x1 x2 x3 x4 x5 x6 x7 x8 x9 s0)
    else
      (if s0 = 0 then
        (b_L_tick_393 rec187 h x0 x1 x2 x3 x4 x5 x6 x7 x8 x9 s0)
      else
        (b_L_tick_382 rec187 h x0 x1 x2 x3 x4 x5 x6 x7 x8 x9 s0)))
  else
    (b_L_tick_393 rec187 h x0 x1 x2 x3 x4 x5 x6 x7 x8 x9 s0)
def b_L_tick_363 (rec187 : MH → Nat → Nat → Nat → Nat → Nat → Int32 → Int32 → Option MH) (h : MH) (x0 : Nat) (x1 : Nat) (x2 : Nat) (x3 : Nat) (x4 : Nat) (x5 : Int32) (x6 : Int32) (x7 : Int32) (x8 : Int32) (x9 : Int32) : Option MH :=
  b_L_tick_364 rec187 h x0 x1 x2 x3 x4 x5 x6 x7 x8 x9 (0 : Int32)
def b_L_tick_344 (rec187 : MH → Nat → Nat → Nat → Nat → Nat → Int32 → Int32 → Option MH) (h : MH) (x0 : Nat) (x1 : Nat) (x2 : Nat) (x3 : Nat) (x4 : Nat) (x5 : Int32) (x6 : Int32) (x7 : Int32) (x8 : Int32) (x9 : Int32) : Option MH :=
  if x9 < 0 then
    (b_L_tick_363 rec187 h x0 x1 x2 x3 x4 x5 x6 x7 x8 x9)
  else
    ((firem x9 (20 : Int32)).bind fun v26 =>
    if v26 = (6 : Int32) then
      (b_L_tick_364 rec187 h x0 x1 x2 x3 x4 x5 x6 x7 x8 x9 (1 : Int32))
    else
      (b_L_tick_363 rec187 h x0 x1 x2 x3 x4 x5 x6 x7 x8 x9))
def b_L_tick_601 (rec540 : MH → Nat → Nat → Nat → Int32 → Option MH) (h : MH) (x1 : Nat) (x2 : Nat) (x4 : Nat) (x6 : Int32) (s0 : Nat) (s1 : Int32) (s2 : Int32) (s3 : Int32) : Option MH :=
  (sI h s0 s1 (s2 + s3)).bind fun h27 =>
  rec540 h27 x1 x2 x4 (x6 + (1 : Int32))
def b_L_tick_574 (rec540 : MH → Nat → Nat → Nat → Int32 → Option MH) (h : MH) (x1 : Nat) (x2 : Nat) (x4 : Nat) (x6 : Int32) : Option MH :=
  (aI h x2 (((4 : Int32) * x6) + (3 : Int32))).bind fun v28 =>
  (aI h x1 (((9 : Int32) * x6) + (2 : Int32))).bind fun v29 =>
  if v29 = (3 : Int32) then
    (b_L_tick_601 rec540 h x1 x2 x4 x6 x2 (((4 : Int32) * x6) + (3 : Int32)) v28 (1 : Int32))
  else
    (b_L_tick_601 rec540 h x1 x2 x4 x6 x2 (((4 : Int32) * x6) + (3 : Int32)) v28 (0 : Int32))
def b_L_tick_540 (rec540 : MH → Nat → Nat → Nat → Int32 → Option MH) (h : MH) (x1 : Nat) (x2 : Nat) (x4 : Nat) (x6 : Int32) : Option MH :=
  (aI h x4 (0 : Int32)).bind fun v30 =>
  if v30 ≤ x6 then
    ((aI h x4 (2 : Int32)).bind fun v31 =>
    (sI h x4 (2 : Int32) (v31 + (1 : Int32))).bind fun h32 =>
    some h32)
  else
    ((aI h x1 (((9 : Int32) * x6) + (5 : Int32))).bind fun v33 =>
    if v33 ≤ 0 then
      (b_L_tick_574 rec540 h x1 x2 x4 x6)
    else
      ((aI h x1 (((9 : Int32) * x6) + (5 : Int32))).bind fun v34 =>
      (sI h x1 (((9 : Int32) * x6) + (5 : Int32)) (v34 - (1 : Int32))).bind fun h35 =>
      b_L_tick_574 rec540 h35 x1 x2 x4 x6))
def f_L_tick_540 : Nat → MH → Nat → Nat → Nat → Int32 → Option MH
  | 0 => fun _ _ _ _ _ => none
  | n + 1 => fun h x1 x2 x4 x6 => b_L_tick_540 (f_L_tick_540 n) h x1 x2 x4 x6
def b_L_tick_311 (rec187 : MH → Nat → Nat → Nat → Nat → Nat → Int32 → Int32 → Option MH) (rec258 : MH → Nat → Nat → Nat → Nat → Nat → Int32 → Int32 → Int32 → Int32 → Int32 → Int32 → Int32 → Option MH) (h : MH) (x0 : Nat) (x1 : Nat) (x2 : Nat) (x3 : Nat) (x4 : Nat) (x5 : Int32) (x6 : Int32) (x7 : Int32) (x8 : Int32) (x9 : Int32) (x11 : Int32) (s0 : Int32) : Option MH :=
  rec258 h x0 x1 x2 x3 x4 x5 x6 x7 x8 x9 s0 (x11 + (1 : Int32))
def b_L_tick_306 (rec187 : MH → Nat → Nat → Nat → Nat → Nat → Int32 → Int32 → Option MH) (rec258 : MH → Nat → Nat → Nat → Nat → Nat → Int32 → Int32 → Int32 → Int32 → Int32 → Int32 → Int32 → Option MH) (h : MH) (x0 : Nat) (x1 : Nat) (x2 : Nat) (x3 : Nat) (x4 : Nat) (x5 : Int32) (x6 : Int32) (x7 : Int32) (x8 : Int32) (x9 : Int32) (x11 : Int32) : Option MH :=
  b_L_tick_311 rec187 rec258 h x0 x1 x2 x3 x4 x5 x6 x7 x8 x9 x11 (1 : Int32)
def b_L_tick_310 (rec187 : MH → Nat → Nat → Nat → Nat → Nat → Int32 → Int32 → Option MH) (rec258 : MH → Nat → Nat → Nat → Nat → Nat → Int32 → Int32 → Int32 → Int32 → Int32 → Int32 → Int32 → Option MH) (h : MH) (x0 : Nat) (x1 : Nat) (x2 : Nat) (x3 : Nat) (x4 : Nat) (x5 : Int32) (x6 : Int32) (x7 : Int32) (x8 : Int32) (x9 : Int32) (x11 : Int32) : Option MH :=
  b_L_tick_311 rec187 rec258 h x0 x1 x2 x3 x4 x5 x6 x7 x8 x9 x11 (0 : Int32)
def b_L_tick_343 (rec187 : MH → Nat → Nat → Nat → Nat → Nat → Int32 → Int32 → Option MH) (h : MH) (x0 : Nat) (x1 : Nat) (x2 : Nat) (x3 : Nat) (x4 : Nat) (x5 : Int32) (x6 : Int32) (x7 : Int32) (x8 : Int32) (x9 : Int32) (s0 : Nat) (s1 : Int32) (s2 : Int32) : Option MH :=
  (sI h s0 s1 s2).bind fun h36 =>
  b_L_tick_344 rec187 h36 x0 x1 x2 x3 x4 x5 x6 x7 x8 x9
def b_L_tick_258 (rec187 : MH → Nat → Nat → Nat → Nat → Nat → Int32 → Int32 → Option MH) (rec258 : MH → Nat → Nat → Nat → Nat → Nat → Int32 → Int32 → Int32 → Int32 → Int32 → Int32 → Int32 → Option MH) (h : MH) (x0 : Nat) (x1 : Nat) (x2 : Nat) (x3 : Nat) (x4 : Nat) (x5 : Int32) (x6 : Int32) (x7 : Int32) (x8 : Int32) (x9 : Int32) (x10 : Int32) (x11 : Int32) : Option MH :=
  if x6 ≤ x11 then
    (if x10 = 0 then
      (b_L_tick_343 rec187 h x0 x1 x2 x3 x4 x5 x6 x7 x8 x9 x1 (x7 + (6 : Int32)) (0 : Int32))
    else
      ((aI h x1 (x7 + (6 : Int32))).bind fun v37 =>
      b_L_tick_343 rec187 h x0 x1 x2 x3 x4 x5 x6 x7 x8 x9 x1 (x7 + (6 : Int32)) (v37 + (1 : Int32))))
  else
    (if x10 = 0 then
      (b_L_tick_310 rec187 rec258 h x0 x1 x2 x3 x4 x5 x6 x7 x8 x9 x11)
    else
      ((aI h x1 x7).bind fun v38 =>
      if ((v38 >>> (x11 &&& 31)) &&& (1 : Int32)) = 0 then
        (b_L_tick_306 rec187 rec258 h x0 x1 x2 x3 x4 x5 x6 x7 x8 x9 x11)
      else
        (if ((x5 >>> (((3 : Int32) * x11) &&& 31)) &&& (7 : Int32)) = (3 : Int32) then
          ((f_L_flag h x11 x0 x1).bind fun v39 =>
          if v39 = 0 then
            (b_L_tick_310 rec187 rec258 h x0 x1 x2 x3 x4 x5 x6 x7 x8 x9 x11)
          else
            (b_L_tick_306 rec187 rec258 h x0 x1 x2 x3 x4 x5 x6 x7 x8 x9 x11))
        else
          (b_L_tick_310 rec187 rec258 h x0 x1 x2 x3 x4 x5 x6 x7 x8 x9 x11))))
def f_L_tick_258 (rec187 : MH → Nat → Nat → Nat → Nat → Nat → Int32 → Int32 → Option MH) : Nat → MH → Nat → Nat → Nat → Nat → Nat → Int32 → Int32 → Int32 → Int32 → Int32 → Int32 → Int32 → Option MH
  | 0 => fun _ _ _ _ _ _ _ _ _ _ _ _ _ => none
  | n + 1 => fun h x0 x1 x2 x3 x4 x5 x6 x7 x8 x9 x10 x11 => b_L_tick_258 rec187 (f_L_tick_258 rec187 n) h x0 x1 x2 x3 x4 x5 x6 x7 x8 x9 x10 x11
def b_L_tick_253 (rec187 : MH → Nat → Nat → Nat → Nat → Nat → Int32 → Int32 → Option MH) (h : MH) (x0 : Nat) (x1 : Nat) (x2 : Nat) (x3 : Nat) (x4 : Nat) (x5 : Int32) (x6 : Int32) (x7 : Int32) (x8 : Int32) (x9 : Int32) (s0 : Int32) : Option MH :=
  f_L_tick_258 rec187 FU h x0 x1 x2 x3 x4 x5 x6 x7 x8 x9 s0 (0 : Int32)
def b_L_tick_187 (rec187 : MH → Nat → Nat → Nat → Nat → Nat → Int32 → Int32 → Option MH) (h : MH) (x0 : Nat) (x1 : Nat) (x2 : Nat) (x3 : Nat) (x4 : Nat) (x5 : Int32) (x6 : Int32) : Option MH :=
  (aI h x4 (0 : Int32)).bind fun v40 =>
  if v40 ≤ x6 then
    (f_L_tick_540 FU h x1 x2 x4 (0 : Int32))
  else
    ((some ((9 : Int32) * x6)).bind fun v41 =>
    (aI h x1 (v41 + (2 : Int32))).bind fun v42 =>
    (f_L_next h x6 x5 x0 x1 x4).bind fun v43 =>
    if v42 = (1 : Int32) then
      (if 0 ≤ v43 then
        (b_L_tick_344 rec187 h x0 x1 x2 x3 x4 x5 x6 v41 v42 v43)
      else
        ((aI h x1 (v41 + (3 : Int32))).bind fun v44 =>
        (aI h x4 (1 : Int32)).bind fun v45 =>
        if v45 < v44 then
          (b_L_tick_253 rec187 h x0 x1 x2 x3 x4 x5 x6 v41 v42 v43 (0 : Int32))
        else
          (b_L_tick_253 rec187 h x0 x1 x2 x3 x4 x5 x6 v41 v42 v43 (1 : Int32))))
    else
      (b_L_tick_344 rec187 h x0 x1 x2 x3 x4 x5 x6 v41 v42 v43))
def f_L_tick_187 : Nat → MH → Nat → Nat → Nat → Nat → Nat → Int32 → Int32 → Option MH
  | 0 => fun _ _ _ _ _ _ _ _ => none
  | n + 1 => fun h x0 x1 x2 x3 x4 x5 x6 => b_L_tick_187 (f_L_tick_187 n) h x0 x1 x2 x3 x4 x5 x6
def b_L_tick_6 (rec6 : MH → Nat → Nat → Nat → Nat → Nat → Int32 → Int32 → Option MH) (h : MH) (x0 : Nat) (x1 : Nat) (x2 : Nat) (x3 : Nat) (x4 : Nat) (x5 : Int32) (x6 : Int32) : Option MH :=
  (aI h x4 (0 : Int32)).bind fun v46 =>
  if v46 ≤ x6 then
    (f_L_tick_187 FU h x0 x1 x2 x3 x4 x5 (0 : Int32))
  else
    ((some ((9 : Int32) * x6)).bind fun v47 =>
    (aI h x1 (v47 + (2 : Int32))).bind fun v48 =>
    if v48 = (2 : Int32) then
      (b_L_tick_42 rec6 h x0 x1 x2 x3 x4 x5 x6 v47)
    else
      ((aI h x1 (v47 + (2 : Int32))).bind fun v49 =>
      if v49 = (3 : Int32) then
        (b_L_tick_42 rec6 h x0 x1 x2 x3 x4 x5 x6 v47)
      else
        (b_L_tick_55 rec6 h x0 x1 x2 x3 x4 x5 x6 v47)))
def f_L_tick_6 : Nat → MH → Nat → Nat → Nat → Nat → Nat → Int32 → Int32 → Option MH
  | 0 => fun _ _ _ _ _ _ _ _ => none
  | n + 1 => fun h x0 x1 x2 x3 x4 x5 x6 => b_L_tick_6 (f_L_tick_6 n) h x0 x1 x2 x3 x4 x5 x6
def f_L_tick (h : MH) (x0 : Nat) (x1 : Nat) (x2 : Nat) (x3 : Nat) (x4 : Nat) : Option MH :=
  f_L_tick_6 FU h x0 x1 x2 x3 x4 (0 : Int32) (0 : Int32)
def b_L_mask_37 (h : MH) (rec6 : Int32 → Int32 → Nat → Nat → Int32 → Int32 → Option Int32) (x0 : Int32) (x1 : Int32) (x2 : Nat) (x3 : Nat) (x5 : Int32) (s0 : Int32) (s1 : Int32) : Option Int32 :=
  (some (s0 ||| s1)).bind fun v1 =>
  rec6 x0 x1 x2 x3 v1 (x5 + (1 : Int32))
def b_L_mask_6 (h : MH) (rec6 : Int32 → Int32 → Nat → Nat → Int32 → Int32 → Option Int32) (x0 : Int32) (x1 : Int32) (x2 : Nat) (x3 : Nat) (x4 : Int32) (x5 : Int32) : Option Int32 :=
  (aI h x3 (0 : Int32)).bind fun v2 =>
  if v2 ≤ x5 then
    (some x4)
  else
    ((aI h x2 (((9 : Int32) * x5) + x0)).bind fun v3 =>
    if v3 = x1 then
      (b_L_mask_37 h rec6 x0 x1 x2 x3 x5 x4 ((1 : Int32) <<< (x5 &&& 31)))
    else
      (b_L_mask_37 h rec6 x0 x1 x2 x3 x5 x4 (0 : Int32)))
def f_L_mask_6 (h : MH) : Nat → Int32 → Int32 → Nat → Nat → Int32 → Int32 → Option Int32
  | 0 => fun _ _ _ _ _ _ => none
  | n + 1 => fun x0 x1 x2 x3 x4 x5 => b_L_mask_6 h (f_L_mask_6 h n) x0 x1 x2 x3 x4 x5
def f_L_mask (h : MH) (x0 : Int32) (x1 : Int32) (x2 : Nat) (x3 : Nat) : Option Int32 :=
  f_L_mask_6 h FU x0 x1 x2 x3 (0 : Int32) (0 : Int32)
def b_L_closed_78 (h : MH) (rec6 : Int32 → Nat → Nat → Int32 → Int32 → Option Int32) (rec17 : Int32 → Nat → Nat → Int32 → Int32 → Int32 → Option Int32) (x1 : Int32) (x2 : Nat) (x3 : Nat) (x4 : Int32) (x5 : Int32) (x6 : Int32) : Option Int32 :=
  rec17 x1 x2 x3 x4 x5 (x6 + (1 : Int32))
def b_L_closed_51 (h : MH) (rec6 : Int32 → Nat → Nat → Int32 → Int32 → Option Int32) (rec17 : Int32 → Nat → Nat → Int32 → Int32 → Int32 → Option Int32) (x1 : Int32) (x2 : Nat) (x3 : Nat) (x4 : Int32) (x5 : Int32) (x6 : Int32) : Option Int32 :=
  if x1 = 0 then
    (if ((x4 >>> (x6 &&& 31)) &&& (1 : Int32)) = (1 : Int32) then
      ((aI h x2 ((9 : Int32) * x6)).bind fun v1 =>
      (some (x4 ||| v1)).bind fun v2 =>
      b_L_closed_78 h rec6 rec17 x1 x2 x3 v2 x5 x6)
    else
      (b_L_closed_78 h rec6 rec17 x1 x2 x3 x4 x5 x6))
  else
    (b_L_closed_78 h rec6 rec17 x1 x2 x3 x4 x5 x6)
def b_L_closed_17 (h : MH) (rec6 : Int32 → Nat → Nat → Int32 → Int32 → Option Int32) (rec17 : Int32 → Nat → Nat → Int32 → Int32 → Int32 → Option Int32) (x1 : Int32) (x2 : Nat) (x3 : Nat) (x4 : Int32) (x5 : Int32) (x6 : Int32) : Option Int32 :=
  (aI h x3 (0 : Int32)).bind fun v3 =>
  if v3 ≤ x6 then
    (rec6 x1 x2 x3 x4 (x5 + (1 : Int32)))
  else
    (if x1 = 0 then
      (b_L_closed_51 h rec6 rec17 x1 x2 x3 x4 x5 x6)
    else
      ((aI h x2 ((9 : Int32) * x6)).bind fun v4 =>
      if (v4 &&& x4) = 0 then
        (b_L_closed_51 h rec6 rec17 x1 x2 x3 x4 x5 x6)
      else
        ((some (x4 ||| ((1 : Int32) <<< (x6 &&& 31)))).bind fun v5 =>
        b_L_closed_51 h rec6 rec17 x1 x2 x3 v5 x5 x6)))
def f_L_closed_17 (h : MH) (rec6 : Int32 → Nat → Nat → Int32 → Int32 → Option Int32) : Nat → Int32 → Nat → Nat → Int32 → Int32 → Int32 → Option Int32
  | 0 => fun _ _ _ _ _ _ => none
  | n + 1 => fun x1 x2 x3 x4 x5 x6 => b_L_closed_17 h rec6 (f_L_closed_17 h rec6 n) x1 x2 x3 x4 x5 x6
def b_L_closed_6 (h : MH) (rec6 : Int32 → Nat → Nat → Int32 → Int32 → Option Int32) (x1 : Int32) (x2 : Nat) (x3 : Nat) (x4 : Int32) (x5 : Int32) : Option Int32 :=
  (aI h x3 (0 : Int32)).bind fun v6 =>
  if v6 ≤ x5 then
    (some x4)
  else
    (f_L_closed_17 h rec6 FU x1 x2 x3 x4 x5 (0 : Int32))
def f_L_closed_6 (h : MH) : Nat → Int32 → Nat → Nat → Int32 → Int32 → Option Int32
  | 0 => fun _ _ _ _ _ => none
  | n + 1 => fun x1 x2 x3 x4 x5 => b_L_closed_6 h (f_L_closed_6 h n) x1 x2 x3 x4 x5
def f_L_closed (h : MH) (x0 : Int32) (x1 : Int32) (x2 : Nat) (x3 : Nat) : Option Int32 :=
  f_L_closed_6 h FU x1 x2 x3 x0 (0 : Int32)
def b_L_patience_56 (h : MH) (s0 : Int32) : Option Int32 :=
  some s0
def f_L_patience (h : MH) (x0 : Int32) (x1 : Nat) : Option Int32 :=
  (aI h x1 ((7 : Int32) * x0)).bind fun v1 =>
  (aI h x1 (((7 : Int32) * x0) + (3 : Int32))).bind fun v2 =>
  (fidiv ((v1 * v2) + (99 : Int32)) (100 : Int32)).bind fun v3 =>
  (aI h x1 (((7 : Int32) * x0) + (1 : Int32))).bind fun v4 =>
  (aI h x1 (((7 : Int32) * x0) + (1 : Int32))).bind fun v5 =>
  (fidiv ((v3 + v4) - (1 : Int32)) v5).bind fun v6 =>
  if v6 ≤ (200 : Int32) then
    (b_L_patience_56 h v6)
  else
    (b_L_patience_56 h (-1 : Int32))
def b_L_told_585 (h : MH) (s0 : Int32) : Option (Int32 × MH) :=
  some ((s0 &&& 1), h)
def b_L_told_584 (h : MH) : Option (Int32 × MH) :=
  b_L_told_585 h (0 : Int32)
def b_L_told_576 (h : MH) (s0 : UInt64) (s1 : UInt64) : Option (Int32 × MH) :=
  if (Op.cmpValue (FP.dcmp s0 s1) .l) = 0 then
    (b_L_told_585 h (1 : Int32))
  else
    (b_L_told_584 h)
def b_L_told_424 (rec385 : MH → Nat → Nat → Nat → Nat → Int32 → Int32 → Int32 → Option (Int32 × MH)) (h : MH) (x0 : Nat) (x2 : Nat) (x4 : Nat) (x5 : Nat) (x6 : Int32) (x7 : Int32) (x8 : Int32) (s0 : Int32) (s1 : Int32) : Option (Int32 × MH) :=
  if s0 = s1 then
    (rec385 h x0 x2 x4 x5 x6 x7 (x8 + (1 : Int32)))
  else
    (some (((0 : Int32) &&& 1), h))
def b_L_told_385 (rec385 : MH → Nat → Nat → Nat → Nat → Int32 → Int32 → Int32 → Option (Int32 × MH)) (h : MH) (x0 : Nat) (x2 : Nat) (x4 : Nat) (x5 : Nat) (x6 : Int32) (x7 : Int32) (x8 : Int32) : Option (Int32 × MH) :=
  if (64 : Int32) ≤ x8 then
    ((aI h x5 (2 : Int32)).bind fun v1 =>
    (aI h x5 (0 : Int32)).bind fun v2 =>
    (some (v1 * v2)).bind fun v3 =>
    (vcall h 3 x0 (f_X3_count h x0 (0 : Int32))).bind fun p4 =>
    (aI p4.2 x5 (0 : Int32)).bind fun v5 =>
    if p4.1 = v5 then
      ((vcall p4.2 3 x0 (f_X3_count p4.2 x0 (1 : Int32))).bind fun p6 =>
      (aI p6.2 x5 (2 : Int32)).bind fun v7 =>
      if p6.1 = v7 then
        ((vcall p6.2 3 x0 (f_X3_count p6.2 x0 (2 : Int32))).bind fun p8 =>
        (aI p8.2 x5 (1 : Int32)).bind fun v9 =>
        if p8.1 = v9 then
          ((vcall p8.2 3 x0 (f_X3_count p8.2 x0 (3 : Int32))).bind fun p10 =>
          (f_L_mask p10.2 (1 : Int32) (1 : Int32) x2 x5).bind fun v11 =>
          if p10.1 = v11 then
            ((vcall p10.2 3 x0 (f_X3_count p10.2 x0 (4 : Int32))).bind fun p12 =>
            (f_L_mask p12.2 (2 : Int32) (3 : Int32) x2 x5).bind fun v13 =>
            if p12.1 = v13 then
              ((vcall p12.2 3 x0 (f_X3_count p12.2 x0 (5 : Int32))).bind fun p14 =>
              (f_L_mask p14.2 (2 : Int32) (5 : Int32) x2 x5).bind fun v15 =>
              if p14.1 = v15 then
                ((vcall p14.2 3 x0 (f_X3_count p14.2 x0 (6 : Int32))).bind fun p16 =>
                (aI p16.2 x5 (3 : Int32)).bind fun v17 =>
                if p16.1 = v17 then
                  ((vcall p16.2 3 x0 (f_X3_count p16.2 x0 (7 : Int32))).bind fun p18 =>
                  if p18.1 = x6 then
                    ((vcall p18.2 3 x0 (f_X3_goodShare p18.2 x0)).bind fun v19 =>
                    if v3 = 0 then
                      (b_L_told_576 p18.2 v19 (0 : UInt64))
                    else
                      ((fdmul (4607182418800017408 : UInt64) (FP.i2d x7)).bind fun v20 =>
                      (fddiv v20 (FP.i2d v3)).bind fun v21 =>
                      b_L_told_576 p18.2 v19 v21))
                  else
                    (b_L_told_584 p18.2))
                else
                  (b_L_told_584 p16.2))
              else
                (b_L_told_584 p14.2))
            else
              (b_L_told_584 p12.2))
          else
            (b_L_told_584 p10.2))
        else
          (b_L_told_584 p8.2))
      else
        (b_L_told_584 p6.2))
    else
      (b_L_told_584 p4.2))
  else
    ((fidiv x8 (4 : Int32)).bind fun v22 =>
    (firem x8 (4 : Int32)).bind fun v23 =>
    (vcall h 3 x0 (f_X3_entry h x0 v22 v23)).bind fun p24 =>
    (fidiv x8 (4 : Int32)).bind fun v25 =>
    (aI p24.2 x5 (3 : Int32)).bind fun v26 =>
    if v26 ≤ v25 then
      (b_L_told_424 rec385 p24.2 x0 x2 x4 x5 x6 x7 x8 p24.1 (-1 : Int32))
    else
      ((aI p24.2 x4 x8).bind fun v27 =>
      b_L_told_424 rec385 p24.2 x0 x2 x4 x5 x6 x7 x8 p24.1 v27))
def f_L_told_385 : Nat → MH → Nat → Nat → Nat → Nat → Int32 → Int32 → Int32 → Option (Int32 × MH)
  | 0 => fun _ _ _ _ _ _ _ _ => none
  | n + 1 => fun h x0 x2 x4 x5 x6 x7 x8 => b_L_told_385 (f_L_told_385 n) h x0 x2 x4 x5 x6 x7 x8
def b_L_told_140 (rec9 : MH → Nat → Nat → Nat → Nat → Nat → Nat → Int32 → Int32 → Int32 → Option (Int32 × MH)) (rec100 : MH → Nat → Nat → Nat → Nat → Nat → Nat → Int32 → Int32 → Int32 → Int32 → Int32 → Int32 → Option (Int32 × MH)) (h : MH) (x0 : Nat) (x1 : Nat) (x2 : Nat) (x3 : Nat) (x4 : Nat) (x5 : Nat) (x6 : Int32) (x7 : Int32) (x8 : Int32) (x9 : Int32) (x11 : Int32) (s0 : Int32) : Option (Int32 × MH) :=
  rec100 h x0 x1 x2 x3 x4 x5 x6 x7 x8 x9 s0 (x11 + (1 : Int32))
def b_L_told_244 (h : MH) : Option (Int32 × MH) :=
  some (((0 : Int32) &&& 1), h)
def b_L_told_297 (h : MH) : Option (Int32 × MH) :=
  some (((0 : Int32) &&& 1), h)
def b_L_told_342 (rec9 : MH → Nat → Nat → Nat → Nat → Nat → Nat → Int32 → Int32 → Int32 → Option (Int32 × MH)) (rec342 : MH → Nat → Nat → Nat → Nat → Nat → Nat → Int32 → Int32 → Int32 → Int32 → Option (Int32 × MH)) (h : MH) (x0 : Nat) (x1 : Nat) (x2 : Nat) (x3 : Nat) (x4 : Nat) (x5 : Nat) (x6 : Int32) (x7 : Int32) (x8 : Int32) (x11 : Int32) : Option (Int32 × MH) :=
  if (4 : Int32) ≤ x11 then
    (rec9 h x0 x1 x2 x3 x4 x5 x6 x7 (x8 + (1 : Int32)))
  else
    ((vcall h 3 x0 (f_X3_account h x0 x8 x11)).bind fun p28 =>
    (aI p28.2 x3 (((4 : Int32) * x8) + x11)).bind fun v29 =>
    if p28.1 = v29 then
      (rec342 p28.2 x0 x1 x2 x3 x4 x5 x6 x7 x8 (x11 + (1 : Int32)))
    else
      (some (((0 : Int32) &&& 1), p28.2)))
def f_L_told_342 (rec9 : MH → Nat → Nat → Nat → Nat → Nat → Nat → Int32 → Int32 → Int32 → Option (Int32 × MH)) : Nat → MH → Nat → Nat → Nat → Nat → Nat → Nat → Int32 → Int32 → Int32 → Int32 → Option (Int32 × MH)
  | 0 => fun _ _ _ _ _ _ _ _ _ _ _ => none
  | n + 1 => fun h x0 x1 x2 x3 x4 x5 x6 x7 x8 x11 => b_L_told_342 rec9 (f_L_told_342 rec9 n) h x0 x1 x2 x3 x4 x5 x6 x7 x8 x11
def b_L_told_303 (rec9 : MH → Nat → Nat → Nat → Nat → Nat → Nat → Int32 → Int32 → Int32 → Option (Int32 × MH)) (rec303 : MH → Nat → Nat → Nat → Nat → Nat → Nat → Int32 → Int32 → Int32 → Int32 → Int32 → Option (Int32 × MH)) (h : MH) (x0 : Nat) (x1 : Nat) (x2 : Nat) (x3 : Nat) (x4 : Nat) (x5 : Nat) (x6 : Int32) (x7 : Int32) (x8 : Int32) (x9 : Int32) (x11 : Int32) : Option (Int32 × MH) :=
  if (18 : Int32) ≤ x11 then
    (f_L_told_342 rec9 FU h x0 x1 x2 x3 x4 x5 x6 x7 x8 (0 : Int32))
  else
    ((vcall h 3 x0 (f_X3_rail h x0 x8 x11)).bind fun p30 =>
    (aI p30.2 x2 ((x9 + x11) - (9 : Int32))).bind fun v31 =>
    if p30.1 = v31 then
      (rec303 p30.2 x0 x1 x2 x3 x4 x5 x6 x7 x8 x9 (x11 + (1 : Int32)))
    else
      (some (((0 : Int32) &&& 1), p30.2)))
def f_L_told_303 (rec9 : MH → Nat → Nat → Nat → Nat → Nat → Nat → Int32 → Int32 → Int32 → Option (Int32 × MH)) : Nat → MH → Nat → Nat → Nat → Nat → Nat → Nat → Int32 → Int32 → Int32 → Int32 → Int32 → Option (Int32 × MH)
  | 0 => fun _ _ _ _ _ _ _ _ _ _ _ _ => none
  | n + 1 => fun h x0 x1 x2 x3 x4 x5 x6 x7 x8 x9 x11 => b_L_told_303 rec9 (f_L_told_303 rec9 n) h x0 x1 x2 x3 x4 x5 x6 x7 x8 x9 x11
def b_L_told_213 (rec9 : MH → Nat → Nat → Nat → Nat → Nat → Nat → Int32 → Int32 → Int32 → Option (Int32 × MH)) (h : MH) (x0 : Nat) (x1 : Nat) (x2 : Nat) (x3 : Nat) (x4 : Nat) (x5 : Nat) (x6 : Int32) (x7 : Int32) (x8 : Int32) (x9 : Int32) (x10 : Int32) (s0 : Int32) (s1 : Int32) : Option (Int32 × MH) :=
  if s0 = s1 then
    ((vcall h 3 x0 (f_X3_rail h x0 x8 (18 : Int32))).bind fun p32 =>
    if p32.1 = x10 then
      ((vcall p32.2 3 x0 (f_X3_leastPatience p32.2 x0 x8)).bind fun p33 =>
      (f_L_patience p33.2 x8 x1).bind fun v34 =>
      if p33.1 = v34 then
        ((vcall p33.2 3 x0 (f_X3_rail p33.2 x0 x8 (9 : Int32))).bind fun p35 =>
        (aI p35.2 x2 (x9 + (1 : Int32))).bind fun v36 =>
        if p35.1 = v36 then
          ((vcall p35.2 3 x0 (f_X3_rail p35.2 x0 x8 (10 : Int32))).bind fun p37 =>
          (aI p37.2 x2 (x9 + (2 : Int32))).bind fun v38 =>
          if p37.1 = v38 then
            ((vcall p37.2 3 x0 (f_X3_rail p37.2 x0 x8 (11 : Int32))).bind fun p39 =>
            (aI p39.2 x2 (x9 + (3 : Int32))).bind fun v40 =>
            if p39.1 = v40 then
              (f_L_told_303 rec9 FU p39.2 x0 x1 x2 x3 x4 x5 x6 x7 x8 x9 (13 : Int32))
            else
              (b_L_told_297 p39.2))
          else
            (b_L_told_297 p37.2))
        else
          (b_L_told_297 p35.2))
      else
        (b_L_told_244 p33.2))
    else
      (b_L_told_244 p32.2))
  else
    (b_L_told_244 h)
def b_L_told_148 (rec9 : MH → Nat → Nat → Nat → Nat → Nat → Nat → Int32 → Int32 → Int32 → Option (Int32 × MH)) (h : MH) (x0 : Nat) (x1 : Nat) (x2 : Nat) (x3 : Nat) (x4 : Nat) (x5 : Nat) (x6 : Int32) (x7 : Int32) (x8 : Int32) (x9 : Int32) (x10 : Int32) : Option (Int32 × MH) :=
  (vcall h 3 x0 (f_X3_rail h x0 x8 (7 : Int32))).bind fun p41 =>
  (aI p41.2 x2 x9).bind fun v42 =>
  if p41.1 = v42 then
    ((vcall p41.2 3 x0 (f_X3_rail p41.2 x0 x8 (8 : Int32))).bind fun p43 =>
    (f_L_closed p43.2 ((1 : Int32) <<< (x8 &&& 31)) (1 : Int32) x2 x5).bind fun v44 =>
    if p43.1 = (v44 - ((1 : Int32) <<< (x8 &&& 31))) then
      ((vcall p43.2 3 x0 (f_X3_rail p43.2 x0 x8 (12 : Int32))).bind fun p45 =>
      (f_L_flag p45.2 x8 x1 x2).bind fun v46 =>
      if v46 = 0 then
        (b_L_told_213 rec9 p45.2 x0 x1 x2 x3 x4 x5 x6 x7 x8 x9 x10 p45.1 (0 : Int32))
      else
        (b_L_told_213 rec9 p45.2 x0 x1 x2 x3 x4 x5 x6 x7 x8 x9 x10 p45.1 (1 : Int32)))
    else
      (b_L_told_244 p43.2))
  else
    (b_L_told_244 p41.2)
def b_L_told_100 (rec9 : MH → Nat → Nat → Nat → Nat → Nat → Nat → Int32 → Int32 → Int32 → Option (Int32 × MH)) (rec100 : MH → Nat → Nat → Nat → Nat → Nat → Nat → Int32 → Int32 → Int32 → Int32 → Int32 → Int32 → Option (Int32 × MH)) (h : MH) (x0 : Nat) (x1 : Nat) (x2 : Nat) (x3 : Nat) (x4 : Nat) (x5 : Nat) (x6 : Int32) (x7 : Int32) (x8 : Int32) (x9 : Int32) (x10 : Int32) (x11 : Int32) : Option (Int32 × MH) :=
  if (8 : Int32) ≤ x11 then
    (b_L_told_148 rec9 h x0 x1 x2 x3 x4 x5 x6 x7 x8 x9 x10)
  else
    (if x10 < 0 then
      (b_L_told_148 rec9 h x0 x1 x2 x3 x4 x5 x6 x7 x8 x9 x10)
    else
      ((aI h x2 (((9 : Int32) * x10) + (8 : Int32))).bind fun v47 =>
      if v47 < 0 then
        (b_L_told_140 rec9 rec100 h x0 x1 x2 x3 x4 x5 x6 x7 x8 x9 x11 x10)
      else
        ((aI h x2 (((9 : Int32) * x10) + (8 : Int32))).bind fun v48 =>
        b_L_told_140 rec9 rec100 h x0 x1 x2 x3 x4 x5 x6 x7 x8 x9 x11 v48)))
def f_L_told_100 (rec9 : MH → Nat → Nat → Nat → Nat → Nat → Nat → Int32 → Int32 → Int32 → Option (Int32 × MH)) : Nat → MH → Nat → Nat → Nat → Nat → Nat → Nat → Int32 → Int32 → Int32 → Int32 → Int32 → Int32 → Option (Int32 × MH)
  | 0 => fun _ _ _ _ _ _ _ _ _ _ _ _ _ => none
  | n + 1 => fun h x0 x1 x2 x3 x4 x5 x6 x7 x8 x9 x10 x11 => b_L_told_100 rec9 (f_L_told_100 rec9 n) h x0 x1 x2 x3 x4 x5 x6 x7 x8 x9 x10 x11
def b_L_told_52 (rec9 : MH → Nat → Nat → Nat → Nat → Nat → Nat → Int32 → Int32 → Int32 → Option (Int32 × MH)) (rec52 : MH → Nat → Nat → Nat → Nat → Nat → Nat → Int32 → Int32 → Int32 → Int32 → Int32 → Option (Int32 × MH)) (h : MH) (x0 : Nat) (x1 : Nat) (x2 : Nat) (x3 : Nat) (x4 : Nat) (x5 : Nat) (x6 : Int32) (x7 : Int32) (x8 : Int32) (x9 : Int32) (x10 : Int32) : Option (Int32 × MH) :=
  if (7 : Int32) ≤ x10 then
    ((aI h x2 (x9 + (8 : Int32))).bind fun v49 =>
    f_L_told_100 rec9 FU h x0 x1 x2 x3 x4 x5 x6 x7 x8 x9 v49 (0 : Int32))
  else
    ((vcall h 3 x0 (f_X3_rail h x0 x8 x10)).bind fun p50 =>
    (aI p50.2 x1 (((7 : Int32) * x8) + x10)).bind fun v51 =>
    if p50.1 = v51 then
      (rec52 p50.2 x0 x1 x2 x3 x4 x5 x6 x7 x8 x9 (x10 + (1 : Int32)))
    else
      (some (((0 : Int32) &&& 1), p50.2)))
def f_L_told_52 (rec9 : MH → Nat → Nat → Nat → Nat → Nat → Nat → Int32 → Int32 → Int32 → Option (Int32 × MH)) : Nat → MH → Nat → Nat → Nat → Nat → Nat → Nat → Int32 → Int32 → Int32 → Int32 → Int32 → Option (Int32 × MH)
  | 0 => fun _ _ _ _ _ _ _ _ _ _ _ _ => none
  | n + 1 => fun h x0 x1 x2 x3 x4 x5 x6 x7 x8 x9 x10 => b_L_told_52 rec9 (f_L_told_52 rec9 n) h x0 x1 x2 x3 x4 x5 x6 x7 x8 x9 x10
def b_L_told_9 (rec9 : MH → Nat → Nat → Nat → Nat → Nat → Nat → Int32 → Int32 → Int32 → Option (Int32 × MH)) (h : MH) (x0 : Nat) (x1 : Nat) (x2 : Nat) (x3 : Nat) (x4 : Nat) (x5 : Nat) (x6 : Int32) (x7 : Int32) (x8 : Int32) : Option (Int32 × MH) :=
  (aI h x5 (0 : Int32)).bind fun v52 =>
  if v52 ≤ x8 then
    (f_L_told_385 FU h x0 x2 x4 x5 x6 x7 (0 : Int32))
  else
    ((some ((9 : Int32) * x8)).bind fun v53 =>
    (aI h x2 (v53 + (3 : Int32))).bind fun v54 =>
    (some (x6 + v54)).bind fun v55 =>
    (aI h x3 (((4 : Int32) * x8) + (3 : Int32))).bind fun v56 =>
    (some (x7 + v56)).bind fun v57 =>
    f_L_told_52 rec9 FU h x0 x1 x2 x3 x4 x5 v55 v57 x8 v53 (0 : Int32))
def f_L_told_9 : Nat → MH → Nat → Nat → Nat → Nat → Nat → Nat → Int32 → Int32 → Int32 → Option (Int32 × MH)
  | 0 => fun _ _ _ _ _ _ _ _ _ _ => none
  | n + 1 => fun h x0 x1 x2 x3 x4 x5 x6 x7 x8 => b_L_told_9 (f_L_told_9 n) h x0 x1 x2 x3 x4 x5 x6 x7 x8
def f_L_told (h : MH) (x0 : Nat) (x1 : Nat) (x2 : Nat) (x3 : Nat) (x4 : Nat) (x5 : Nat) : Option (Int32 × MH) :=
  f_L_told_9 FU h x0 x1 x2 x3 x4 x5 (0 : Int32) (0 : Int32) (0 : Int32)
def b_L_ahead_585 (rec27 : MH → Nat → Int32 → Int32 → Nat → Nat → Nat → Nat → Nat → Nat → Nat → Int32 → Option (Int32 × MH)) (h : MH) (x0 : Nat) (x1 : Int32) (x2 : Int32) (x3 : Nat) (x4 : Nat) (x5 : Nat) (x6 : Nat) (x7 : Nat) (x8 : Nat) (x9 : Nat) (x10 : Int32) : Option (Int32 × MH) :=
  rec27 h x0 x1 x2 x3 x4 x5 x6 x7 x8 x9 (x10 + (1 : Int32))
def b_L_ahead_580 (rec27 : MH → Nat → Int32 → Int32 → Nat → Nat → Nat → Nat → Nat → Nat → Nat → Int32 → Option (Int32 × MH)) (h : MH) (x0 : Nat) (x1 : Int32) (x2 : Int32) (x3 : Nat) (x4 : Nat) (x5 : Nat) (x6 : Nat) (x7 : Nat) (x8 : Nat) (x9 : Nat) (x10 : Int32) (s0 : Int32) (s1 : Int32) : Option (Int32 × MH) :=
  if s0 = s1 then
    (b_L_ahead_585 rec27 h x0 x1 x2 x3 x4 x5 x6 x7 x8 x9 x10)
  else
    (some (((0 : Int32) &&& 1), h))
def b_L_ahead_569 (rec27 : MH → Nat → Int32 → Int32 → Nat → Nat → Nat → Nat → Nat → Nat → Nat → Int32 → Option (Int32 × MH)) (h : MH) (x0 : Nat) (x1 : Int32) (x2 : Int32) (x3 : Nat) (x4 : Nat) (x5 : Nat) (x6 : Nat) (x7 : Nat) (x8 : Nat) (x9 : Nat) (x10 : Int32) (x11 : Int32) (x12 : Int32) (s0 : Int32) : Option (Int32 × MH) :=
  if x12 = 0 then
    (b_L_ahead_580 rec27 h x0 x1 x2 x3 x4 x5 x6 x7 x8 x9 x10 s0 (-1 : Int32))
  else
    (b_L_ahead_580 rec27 h x0 x1 x2 x3 x4 x5 x6 x7 x8 x9 x10 s0 x11)
def b_L_ahead_553 (rec27 : MH → Nat → Int32 → Int32 → Nat → Nat → Nat → Nat → Nat → Nat → Nat → Int32 → Option (Int32 × MH)) (h : MH) (x0 : Nat) (x1 : Int32) (x2 : Int32) (x3 : Nat) (x4 : Nat) (x5 : Nat) (x6 : Nat) (x7 : Nat) (x8 : Nat) (x9 : Nat) (x10 : Int32) (x11 : Int32) (x12 : Int32) : Option (Int32 × MH) :=
  if x10 = 0 then
    ((vcall h 3 x0 (f_X3_allGoodIn h x0)).bind fun p2 =>
    b_L_ahead_569 rec27 p2.2 x0 x1 x2 x3 x4 x5 x6 x7 x8 x9 x10 x11 x12 p2.1)
  else
    ((vcall h 3 x0 (f_X3_allOffIn h x0)).bind fun p1 =>
    b_L_ahead_569 rec27 p1.2 x0 x1 x2 x3 x4 x5 x6 x7 x8 x9 x10 x11 x12 p1.1)
def b_L_ahead_519 (rec27 : MH → Nat → Int32 → Int32 → Nat → Nat → Nat → Nat → Nat → Nat → Nat → Int32 → Option (Int32 × MH)) (rec416 : MH → Nat → Int32 → Int32 → Nat → Nat → Nat → Nat → Nat → Nat → Nat → Int32 → Int32 → Int32 → Option (Int32 × MH)) (rec435 : MH → Nat → Int32 → Int32 → Nat → Nat → Nat → Nat → Nat → Nat → Nat → Int32 → Int32 → Int32 → Int32 → Option (Int32 × MH)) (h : MH) (x0 : Nat) (x1 : Int32) (x2 : Int32) (x3 : Nat) (x4 : Nat) (x5 : Nat) (x6 : Nat) (x7 : Nat) (x8 : Nat) (x9 : Nat) (x10 : Int32) (x11 : Int32) (x13 : Int32) (s0 : Int32) : Option (Int32 × MH) :=
  rec435 h x0 x1 x2 x3 x4 x5 x6 x7 x8 x9 x10 x11 s0 (x13 + (1 : Int32))
def b_L_ahead_514 (rec27 : MH → Nat → Int32 → Int32 → Nat → Nat → Nat → Nat → Nat → Nat → Nat → Int32 → Option (Int32 × MH)) (rec416 : MH → Nat → Int32 → Int32 → Nat → Nat → Nat → Nat → Nat → Nat → Nat → Int32 → Int32 → Int32 → Option (Int32 × MH)) (rec435 : MH → Nat → Int32 → Int32 → Nat → Nat → Nat → Nat → Nat → Nat → Nat → Int32 → Int32 → Int32 → Int32 → Option (Int32 × MH)) (h : MH) (x0 : Nat) (x1 : Int32) (x2 : Int32) (x3 : Nat) (x4 : Nat) (x5 : Nat) (x6 : Nat) (x7 : Nat) (x8 : Nat) (x9 : Nat) (x10 : Int32) (x11 : Int32) (x13 : Int32) : Option (Int32 × MH) :=
  b_L_ahead_519 rec27 rec416 rec435 h x0 x1 x2 x3 x4 x5 x6 x7 x8 x9 x10 x11 x13 (1 : Int32)
def b_L_ahead_518 (rec27 : MH → Nat → Int32 → Int32 → Nat → Nat → Nat → Nat → Nat → Nat → Nat → Int32 → Option (Int32 × MH)) (rec416 : MH → Nat → Int32 → Int32 → Nat → Nat → Nat → Nat → Nat → Nat → Nat → Int32 → Int32 → Int32 → Option (Int32 × MH)) (rec435 : MH → Nat → Int32 → Int32 → Nat → Nat → Nat → Nat → Nat → Nat → Nat → Int32 → Int32 → Int32 → Int32 → Option (Int32 × MH)) (h : MH) (x0 : Nat) (x1 : Int32) (x2 : Int32) (x3 : Nat) (x4 : Nat) (x5 : Nat) (x6 : Nat) (x7 : Nat) (x8 : Nat) (x9 : Nat) (x10 : Int32) (x11 : Int32) (x13 : Int32) : Option (Int32 × MH) :=
  b_L_ahead_519 rec27 rec416 rec435 h x0 x1 x2 x3 x4 x5 x6 x7 x8 x9 x10 x11 x13 (0 : Int32)
def b_L_ahead_435 (rec27 : MH → Nat → Int32 → Int32 → Nat → Nat → Nat → Nat → Nat → Nat → Nat → Int32 → Option (Int32 × MH)) (rec416 : MH → Nat → Int32 → Int32 → Nat → Nat → Nat → Nat → Nat → Nat → Nat → Int32 → Int32 → Int32 → Option (Int32 × MH)) (rec435 : MH → Nat → Int32 → Int32 → Nat → Nat → Nat → Nat → Nat → Nat → Nat → Int32 → Int32 → Int32 → Int32 → Option (Int32 × MH)) (h : MH) (x0 : Nat) (x1 : Int32) (x2 : Int32) (x3 : Nat) (x4 : Nat) (x5 : Nat) (x6 : Nat) (x7 : Nat) (x8 : Nat) (x9 : Nat) (x10 : Int32) (x11 : Int32) (x12 : Int32) (x13 : Int32) : Option (Int32 × MH) :=
  (aI h x5 (0 : Int32)).bind fun v3 =>
  if v3 ≤ x13 then
    (if x12 = 0 then
      ((f_L_tick h x3 x6 x7 x8 x9).bind fun h4 =>
      rec416 h4 x0 x1 x2 x3 x4 x5 x6 x7 x8 x9 x10 (x11 + (1 : Int32)) x12)
    else
      (b_L_ahead_553 rec27 h x0 x1 x2 x3 x4 x5 x6 x7 x8 x9 x10 x11 x12))
  else
    (if x12 = 0 then
      (b_L_ahead_518 rec27 rec416 rec435 h x0 x1 x2 x3 x4 x5 x6 x7 x8 x9 x10 x11 x13)
    else
      (if x10 = 0 then
        ((aI h x6 (((9 : Int32) * x13) + (1 : Int32))).bind fun v8 =>
        if v8 = 0 then
          (b_L_ahead_514 rec27 rec416 rec435 h x0 x1 x2 x3 x4 x5 x6 x7 x8 x9 x10 x11 x13)
        else
          ((aI h x6 (((9 : Int32) * x13) + (2 : Int32))).bind fun v9 =>
          if v9 = (3 : Int32) then
            (b_L_ahead_514 rec27 rec416 rec435 h x0 x1 x2 x3 x4 x5 x6 x7 x8 x9 x10 x11 x13)
          else
            (b_L_ahead_518 rec27 rec416 rec435 h x0 x1 x2 x3 x4 x5 x6 x7 x8 x9 x10 x11 x13)))
      else
        ((aI h x6 (((9 : Int32) * x13) + (2 : Int32))).bind fun v5 =>
        if v5 = 0 then
          ((aI h x6 (((9 : Int32) * x13) + (3 : Int32))).bind fun v6 =>
          (aI h x5 (1 : Int32)).bind fun v7 =>
          if v7 < v6 then
            (b_L_ahead_518 rec27 rec416 rec435 h x0 x1 x2 x3 x4 x5 x6 x7 x8 x9 x10 x11 x13)
          else
            (b_L_ahead_514 rec27 rec416 rec435 h x0 x1 x2 x3 x4 x5 x6 x7 x8 x9 x10 x11 x13))
        else
          (b_L_ahead_518 rec27 rec416 rec435 h x0 x1 x2 x3 x4 x5 x6 x7 x8 x9 x10 x11 x13))))
def f_L_ahead_435 (rec27 : MH → Nat → Int32 → Int32 → Nat → Nat → Nat → Nat → Nat → Nat → Nat → Int32 → Option (Int32 × MH)) (rec416 : MH → Nat → Int32 → Int32 → Nat → Nat → Nat → Nat → Nat → Nat → Nat → Int32 → Int32 → Int32 → Option (Int32 × MH)) : Nat → MH → Nat → Int32 → Int32 → Nat → Nat → Nat → Nat → Nat → Nat → Nat → Int32 → Int32 → Int32 → Int32 → Option (Int32 × MH)
  | 0 => fun _ _ _ _ _ _ _ _ _ _ _ _ _ _ _ => none
  | n + 1 => fun h x0 x1 x2 x3 x4 x5 x6 x7 x8 x9 x10 x11 x12 x13 => b_L_ahead_435 rec27 rec416 (f_L_ahead_435 rec27 rec416 n) h x0 x1 x2 x3 x4 x5 x6 x7 x8 x9 x10 x11 x12 x13
def b_L_ahead_416 (rec27 : MH → Nat → Int32 → Int32 → Nat → Nat → Nat → Nat → Nat → Nat → Nat → Int32 → Option (Int32 × MH)) (rec416 : MH → Nat → Int32 → Int32 → Nat → Nat → Nat → Nat → Nat → Nat → Nat → Int32 → Int32 → Int32 → Option (Int32 × MH)) (h : MH) (x0 : Nat) (x1 : Int32) (x2 : Int32) (x3 : Nat) (x4 : Nat) (x5 : Nat) (x6 : Nat) (x7 : Nat) (x8 : Nat) (x9 : Nat) (x10 : Int32) (x11 : Int32) (x12 : Int32) : Option (Int32 × MH) :=
  if (1001 : Int32) ≤ x11 then
    (b_L_ahead_553 rec27 h x0 x1 x2 x3 x4 x5 x6 x7 x8 x9 x10 x11 x12)
  else
    (if x12 = 0 then
      (f_L_ahead_435 rec27 rec416 FU h x0 x1 x2 x3 x4 x5 x6 x7 x8 x9 x10 x11 (1 : Int32) (0 : Int32))
    else
      (b_L_ahead_553 rec27 h x0 x1 x2 x3 x4 x5 x6 x7 x8 x9 x10 x11 x12))
def f_L_ahead_416 (rec27 : MH → Nat → Int32 → Int32 → Nat → Nat → Nat → Nat → Nat → Nat → Nat → Int32 → Option (Int32 × MH)) : Nat → MH → Nat → Int32 → Int32 → Nat → Nat → Nat → Nat → Nat → Nat → Nat → Int32 → Int32 → Int32 → Option (Int32 × MH)
  | 0 => fun _ _ _ _ _ _ _ _ _ _ _ _ _ _ => none
  | n + 1 => fun h x0 x1 x2 x3 x4 x5 x6 x7 x8 x9 x10 x11 x12 => b_L_ahead_416 rec27 (f_L_ahead_416 rec27 n) h x0 x1 x2 x3 x4 x5 x6 x7 x8 x9 x10 x11 x12
def b_L_ahead_410 (rec27 : MH → Nat → Int32 → Int32 → Nat → Nat → Nat → Nat → Nat → Nat → Nat → Int32 → Option (Int32 × MH)) (h : MH) (x0 : Nat) (x1 : Int32) (x2 : Int32) (x3 : Nat) (x4 : Nat) (x5 : Nat) (x6 : Nat) (x7 : Nat) (x8 : Nat) (x9 : Nat) (x10 : Int32) : Option (Int32 × MH) :=
  f_L_ahead_416 rec27 FU h x0 x1 x2 x3 x4 x5 x6 x7 x8 x9 x10 (0 : Int32) (0 : Int32)
def b_L_ahead_384 (rec27 : MH → Nat → Int32 → Int32 → Nat → Nat → Nat → Nat → Nat → Nat → Nat → Int32 → Option (Int32 × MH)) (rec384 : MH → Nat → Int32 → Int32 → Nat → Nat → Nat → Nat → Nat → Nat → Nat → Int32 → Int32 → Option (Int32 × MH)) (h : MH) (x0 : Nat) (x1 : Int32) (x2 : Int32) (x3 : Nat) (x4 : Nat) (x5 : Nat) (x6 : Nat) (x7 : Nat) (x8 : Nat) (x9 : Nat) (x10 : Int32) (x11 : Int32) : Option (Int32 × MH) :=
  (aI h x5 (0 : Int32)).bind fun v10 =>
  if v10 ≤ x11 then
    (b_L_ahead_410 rec27 h x0 x1 x2 x3 x4 x5 x6 x7 x8 x9 x10)
  else
    ((sI h x6 (((9 : Int32) * x11) + (1 : Int32)) (0 : Int32)).bind fun h11 =>
    rec384 h11 x0 x1 x2 x3 x4 x5 x6 x7 x8 x9 x10 (x11 + (1 : Int32)))
def f_L_ahead_384 (rec27 : MH → Nat → Int32 → Int32 → Nat → Nat → Nat → Nat → Nat → Nat → Nat → Int32 → Option (Int32 × MH)) : Nat → MH → Nat → Int32 → Int32 → Nat → Nat → Nat → Nat → Nat → Nat → Nat → Int32 → Int32 → Option (Int32 × MH)
  | 0 => fun _ _ _ _ _ _ _ _ _ _ _ _ _ => none
  | n + 1 => fun h x0 x1 x2 x3 x4 x5 x6 x7 x8 x9 x10 x11 => b_L_ahead_384 rec27 (f_L_ahead_384 rec27 n) h x0 x1 x2 x3 x4 x5 x6 x7 x8 x9 x10 x11
def b_L_ahead_373 (h : MH) : Option (Int32 × MH) :=
  some (((0 : Int32) &&& 1), h)
def b_L_ahead_290 (rec27 : MH → Nat → Int32 → Int32 → Nat → Nat → Nat → Nat → Nat → Nat → Nat → Int32 → Option (Int32 × MH)) (rec290 : MH → Nat → Int32 → Int32 → Nat → Nat → Nat → Nat → Nat → Nat → Nat → Int32 → Int32 → Int32 → Int32 → Option (Int32 × MH)) (h : MH) (x0 : Nat) (x1 : Int32) (x2 : Int32) (x3 : Nat) (x4 : Nat) (x5 : Nat) (x6 : Nat) (x7 : Nat) (x8 : Nat) (x9 : Nat) (x10 : Int32) (x11 : Int32) (x12 : Int32) (x13 : Int32) : Option (Int32 × MH) :=
  if (100 : Int32) ≤ x13 then
    ((vcall h 3 x0 (f_X3_ifShort h x0 x11 x12 (0 : Int32))).bind fun p12 =>
    (aI p12.2 x9 (5 : Int32)).bind fun v13 =>
    if p12.1 = v13 then
      ((vcall p12.2 3 x0 (f_X3_ifShort p12.2 x0 x11 x12 (1 : Int32))).bind fun p14 =>
      (f_L_mask p14.2 (2 : Int32) (3 : Int32) x6 x9).bind fun v15 =>
      if p14.1 = v15 then
        ((vcall p14.2 3 x0 (f_X3_ifShort p14.2 x0 x11 x12 (2 : Int32))).bind fun p16 =>
        (f_L_mask p16.2 (2 : Int32) (5 : Int32) x6 x9).bind fun v17 =>
        if p16.1 = v17 then
          (b_L_ahead_585 rec27 p16.2 x0 x1 x2 x3 x4 x5 x6 x7 x8 x9 x10)
        else
          (b_L_ahead_373 p16.2))
      else
        (b_L_ahead_373 p14.2))
    else
      (b_L_ahead_373 p12.2))
  else
    ((f_L_tick h x3 x6 x7 x8 x9).bind fun h18 =>
    rec290 h18 x0 x1 x2 x3 x4 x5 x6 x7 x8 x9 x10 x11 x12 (x13 + (1 : Int32)))
def f_L_ahead_290 (rec27 : MH → Nat → Int32 → Int32 → Nat → Nat → Nat → Nat → Nat → Nat → Nat → Int32 → Option (Int32 × MH)) : Nat → MH → Nat → Int32 → Int32 → Nat → Nat → Nat → Nat → Nat → Nat → Nat → Int32 → Int32 → Int32 → Int32 → Option (Int32 × MH)
  | 0 => fun _ _ _ _ _ _ _ _ _ _ _ _ _ _ _ => none
  | n + 1 => fun h x0 x1 x2 x3 x4 x5 x6 x7 x8 x9 x10 x11 x12 x13 => b_L_ahead_290 rec27 (f_L_ahead_290 rec27 n) h x0 x1 x2 x3 x4 x5 x6 x7 x8 x9 x10 x11 x12 x13
def b_L_ahead_264 (rec27 : MH → Nat → Int32 → Int32 → Nat → Nat → Nat → Nat → Nat → Nat → Nat → Int32 → Option (Int32 × MH)) (h : MH) (x0 : Nat) (x1 : Int32) (x2 : Int32) (x3 : Nat) (x4 : Nat) (x5 : Nat) (x6 : Nat) (x7 : Nat) (x8 : Nat) (x9 : Nat) (x10 : Int32) (x11 : Int32) (s0 : Int32) (s1 : Int32) (s2 : Int32) : Option (Int32 × MH) :=
  (f_L_at h s1 s2).bind fun v19 =>
  (some (s0 + v19)).bind fun v20 =>
  (sI h x6 (((9 : Int32) * x11) + (5 : Int32)) v20).bind fun h21 =>
  (sI h21 x9 (5 : Int32) (0 : Int32)).bind fun h22 =>
  f_L_ahead_290 rec27 FU h22 x0 x1 x2 x3 x4 x5 x6 x7 x8 x9 x10 x11 v20 (0 : Int32)
def b_L_ahead_199 (rec27 : MH → Nat → Int32 → Int32 → Nat → Nat → Nat → Nat → Nat → Nat → Nat → Int32 → Option (Int32 × MH)) (rec109 : MH → Nat → Int32 → Int32 → Nat → Nat → Nat → Nat → Nat → Nat → Nat → Int32 → Int32 → Int32 → Option (Int32 × MH)) (h : MH) (x0 : Nat) (x1 : Int32) (x2 : Int32) (x3 : Nat) (x4 : Nat) (x5 : Nat) (x6 : Nat) (x7 : Nat) (x8 : Nat) (x9 : Nat) (x10 : Int32) (x12 : Int32) (s0 : Int32) : Option (Int32 × MH) :=
  rec109 h x0 x1 x2 x3 x4 x5 x6 x7 x8 x9 x10 s0 (x12 + (1 : Int32))
def b_L_ahead_198 (rec27 : MH → Nat → Int32 → Int32 → Nat → Nat → Nat → Nat → Nat → Nat → Nat → Int32 → Option (Int32 × MH)) (rec109 : MH → Nat → Int32 → Int32 → Nat → Nat → Nat → Nat → Nat → Nat → Nat → Int32 → Int32 → Int32 → Option (Int32 × MH)) (h : MH) (x0 : Nat) (x1 : Int32) (x2 : Int32) (x3 : Nat) (x4 : Nat) (x5 : Nat) (x6 : Nat) (x7 : Nat) (x8 : Nat) (x9 : Nat) (x10 : Int32) (x12 : Int32) : Option (Int32 × MH) :=
  b_L_ahead_199 rec27 rec109 h x0 x1 x2 x3 x4 x5 x6 x7 x8 x9 x10 x12 (0 : Int32)
def b_L_ahead_223 (rec27 : MH → Nat → Int32 → Int32 → Nat → Nat → Nat → Nat → Nat → Nat → Nat → Int32 → Option (Int32 × MH)) (h : MH) (x0 : Nat) (x1 : Int32) (x2 : Int32) (x3 : Nat) (x4 : Nat) (x5 : Nat) (x6 : Nat) (x7 : Nat) (x8 : Nat) (x9 : Nat) (x10 : Int32) (s0 : Int32) (s1 : Int32) : Option (Int32 × MH) :=
  if s0 = s1 then
    (b_L_ahead_585 rec27 h x0 x1 x2 x3 x4 x5 x6 x7 x8 x9 x10)
  else
    (some (((0 : Int32) &&& 1), h))
def b_L_ahead_109 (rec27 : MH → Nat → Int32 → Int32 → Nat → Nat → Nat → Nat → Nat → Nat → Nat → Int32 → Option (Int32 × MH)) (rec109 : MH → Nat → Int32 → Int32 → Nat → Nat → Nat → Nat → Nat → Nat → Nat → Int32 → Int32 → Int32 → Option (Int32 × MH)) (h : MH) (x0 : Nat) (x1 : Int32) (x2 : Int32) (x3 : Nat) (x4 : Nat) (x5 : Nat) (x6 : Nat) (x7 : Nat) (x8 : Nat) (x9 : Nat) (x10 : Int32) (x11 : Int32) (x12 : Int32) : Option (Int32 × MH) :=
  (aI h x5 (0 : Int32)).bind fun v23 =>
  if v23 ≤ x12 then
    ((vcall h 3 x0 (f_X3_count h x0 (9 : Int32))).bind fun p24 =>
    if x11 = 0 then
      (b_L_ahead_223 rec27 p24.2 x0 x1 x2 x3 x4 x5 x6 x7 x8 x9 x10 p24.1 (0 : Int32))
    else
      (b_L_ahead_223 rec27 p24.2 x0 x1 x2 x3 x4 x5 x6 x7 x8 x9 x10 p24.1 (1 : Int32)))
  else
    (if x11 = 0 then
      (b_L_ahead_198 rec27 rec109 h x0 x1 x2 x3 x4 x5 x6 x7 x8 x9 x10 x12)
    else
      ((aI h x6 (((9 : Int32) * x12) + (2 : Int32))).bind fun v25 =>
      (aI h x4 (((9 : Int32) * x12) + (2 : Int32))).bind fun v26 =>
      if v25 = v26 then
        ((aI h x6 (((9 : Int32) * x12) + (3 : Int32))).bind fun v27 =>
        (aI h x4 (((9 : Int32) * x12) + (3 : Int32))).bind fun v28 =>
        if v27 = v28 then
          ((aI h x6 (((9 : Int32) * x12) + (6 : Int32))).bind fun v29 =>
          (aI h x4 (((9 : Int32) * x12) + (6 : Int32))).bind fun v30 =>
          if v29 = v30 then
            (b_L_ahead_199 rec27 rec109 h x0 x1 x2 x3 x4 x5 x6 x7 x8 x9 x10 x12 (1 : Int32))
          else
            (b_L_ahead_198 rec27 rec109 h x0 x1 x2 x3 x4 x5 x6 x7 x8 x9 x10 x12))
        else
          (b_L_ahead_198 rec27 rec109 h x0 x1 x2 x3 x4 x5 x6 x7 x8 x9 x10 x12))
      else
        (b_L_ahead_198 rec27 rec109 h x0 x1 x2 x3 x4 x5 x6 x7 x8 x9 x10 x12)))
def f_L_ahead_109 (rec27 : MH → Nat → Int32 → Int32 → Nat → Nat → Nat → Nat → Nat → Nat → Nat → Int32 → Option (Int32 × MH)) : Nat → MH → Nat → Int32 → Int32 → Nat → Nat → Nat → Nat → Nat → Nat → Nat → Int32 → Int32 → Int32 → Option (Int32 × MH)
  | 0 => fun _ _ _ _ _ _ _ _ _ _ _ _ _ _ => none
  | n + 1 => fun h x0 x1 x2 x3 x4 x5 x6 x7 x8 x9 x10 x11 x12 => b_L_ahead_109 rec27 (f_L_ahead_109 rec27 n) h x0 x1 x2 x3 x4 x5 x6 x7 x8 x9 x10 x11 x12
def b_L_ahead_62 (rec27 : MH → Nat → Int32 → Int32 → Nat → Nat → Nat → Nat → Nat → Nat → Nat → Int32 → Option (Int32 × MH)) (rec62 : MH → Nat → Int32 → Int32 → Nat → Nat → Nat → Nat → Nat → Nat → Nat → Int32 → Int32 → Option (Int32 × MH)) (h : MH) (x0 : Nat) (x1 : Int32) (x2 : Int32) (x3 : Nat) (x4 : Nat) (x5 : Nat) (x6 : Nat) (x7 : Nat) (x8 : Nat) (x9 : Nat) (x10 : Int32) (x11 : Int32) : Option (Int32 × MH) :=
  if (6 : Int32) ≤ x11 then
    (if x10 = (3 : Int32) then
      ((f_L_tick h x3 x6 x7 x8 x9).bind fun h34 =>
      f_L_ahead_109 rec27 FU h34 x0 x1 x2 x3 x4 x5 x6 x7 x8 x9 x10 (1 : Int32) (0 : Int32))
    else
      (if x10 = (2 : Int32) then
        ((aI h x5 (0 : Int32)).bind fun v31 =>
        (f_L_at h x1 v31).bind fun v32 =>
        (f_L_at h (x1 >>> ((4 : Int32) &&& 31)) (3 : Int32)).bind fun v33 =>
        if v33 = 0 then
          (b_L_ahead_264 rec27 h x0 x1 x2 x3 x4 x5 x6 x7 x8 x9 x10 v32 (1 : Int32) x2 (500 : Int32))
        else
          (b_L_ahead_264 rec27 h x0 x1 x2 x3 x4 x5 x6 x7 x8 x9 x10 v32 (1 : Int32) x2 (30 : Int32)))
      else
        (if x10 = (1 : Int32) then
          (f_L_ahead_384 rec27 FU h x0 x1 x2 x3 x4 x5 x6 x7 x8 x9 x10 (0 : Int32))
        else
          (b_L_ahead_410 rec27 h x0 x1 x2 x3 x4 x5 x6 x7 x8 x9 x10))))
  else
    ((aI h x5 x11).bind fun v35 =>
    (sI h x9 x11 v35).bind fun h36 =>
    rec62 h36 x0 x1 x2 x3 x4 x5 x6 x7 x8 x9 x10 (x11 + (1 : Int32)))
def f_L_ahead_62 (rec27 : MH → Nat → Int32 → Int32 → Nat → Nat → Nat → Nat → Nat → Nat → Nat → Int32 → Option (Int32 × MH)) : Nat → MH → Nat → Int32 → Int32 → Nat → Nat → Nat → Nat → Nat → Nat → Nat → Int32 → Int32 → Option (Int32 × MH)
  | 0 => fun _ _ _ _ _ _ _ _ _ _ _ _ _ => none
  | n + 1 => fun h x0 x1 x2 x3 x4 x5 x6 x7 x8 x9 x10 x11 => b_L_ahead_62 rec27 (f_L_ahead_62 rec27 n) h x0 x1 x2 x3 x4 x5 x6 x7 x8 x9 x10 x11
def b_L_ahead_36 (rec27 : MH → Nat → Int32 → Int32 → Nat → Nat → Nat → Nat → Nat → Nat → Nat → Int32 → Option (Int32 × MH)) (rec36 : MH → Nat → Int32 → Int32 → Nat → Nat → Nat → Nat → Nat → Nat → Nat → Int32 → Int32 → Option (Int32 × MH)) (h : MH) (x0 : Nat) (x1 : Int32) (x2 : Int32) (x3 : Nat) (x4 : Nat) (x5 : Nat) (x6 : Nat) (x7 : Nat) (x8 : Nat) (x9 : Nat) (x10 : Int32) (x11 : Int32) : Option (Int32 × MH) :=
  if (54 : Int32) ≤ x11 then
    (f_L_ahead_62 rec27 FU h x0 x1 x2 x3 x4 x5 x6 x7 x8 x9 x10 (0 : Int32))
  else
    ((aI h x4 x11).bind fun v37 =>
    (sI h x6 x11 v37).bind fun h38 =>
    rec36 h38 x0 x1 x2 x3 x4 x5 x6 x7 x8 x9 x10 (x11 + (1 : Int32)))
def f_L_ahead_36 (rec27 : MH → Nat → Int32 → Int32 → Nat → Nat → Nat → Nat → Nat → Nat → Nat → Int32 → Option (Int32 × MH)) : Nat → MH → Nat → Int32 → Int32 → Nat → Nat → Nat → Nat → Nat → Nat → Nat → Int32 → Int32 → Option (Int32 × MH)
  | 0 => fun _ _ _ _ _ _ _ _ _ _ _ _ _ => none
  | n + 1 => fun h x0 x1 x2 x3 x4 x5 x6 x7 x8 x9 x10 x11 => b_L_ahead_36 rec27 (f_L_ahead_36 rec27 n) h x0 x1 x2 x3 x4 x5 x6 x7 x8 x9 x10 x11
def b_L_ahead_27 (rec27 : MH → Nat → Int32 → Int32 → Nat → Nat → Nat → Nat → Nat → Nat → Nat → Int32 → Option (Int32 × MH)) (h : MH) (x0 : Nat) (x1 : Int32) (x2 : Int32) (x3 : Nat) (x4 : Nat) (x5 : Nat) (x6 : Nat) (x7 : Nat) (x8 : Nat) (x9 : Nat) (x10 : Int32) : Option (Int32 × MH) :=
  if (4 : Int32) ≤ x10 then
    (some (((1 : Int32) &&& 1), h))
  else
    (f_L_ahead_36 rec27 FU h x0 x1 x2 x3 x4 x5 x6 x7 x8 x9 x10 (0 : Int32))
def f_L_ahead_27 : Nat → MH → Nat → Int32 → Int32 → Nat → Nat → Nat → Nat → Nat → Nat → Nat → Int32 → Option (Int32 × MH)
  | 0 => fun _ _ _ _ _ _ _ _ _ _ _ _ => none
  | n + 1 => fun h x0 x1 x2 x3 x4 x5 x6 x7 x8 x9 x10 => b_L_ahead_27 (f_L_ahead_27 n) h x0 x1 x2 x3 x4 x5 x6 x7 x8 x9 x10
def f_L_ahead (h : MH) (x0 : Nat) (x1 : Int32) (x2 : Int32) (x3 : Nat) (x4 : Nat) (x5 : Nat) : Option (Int32 × MH) :=
  (nA h 0 (54, .inl (fun _ => 0))).bind fun h39 =>
  (some (h.length)).bind fun v40 =>
  (nA h39 0 (24, .inl (fun _ => 0))).bind fun h41 =>
  (some (h39.length)).bind fun v42 =>
  (nA h41 0 (64, .inl (fun _ => 0))).bind fun h43 =>
  (some (h41.length)).bind fun v44 =>
  (nA h43 0 (6, .inl (fun _ => 0))).bind fun h45 =>
  (some (h43.length)).bind fun v46 =>
  f_L_ahead_27 FU h45 x0 x1 x2 x3 x4 x5 v40 v42 v44 v46 (0 : Int32)
def b_L_value_105 (h : MH) (s0 : Int32) : Option Int32 :=
  some s0
def b_L_value_44 (h : MH) (s0 : Int32) (s1 : Int32) (s2 : Int32) : Option Int32 :=
  (f_L_at h s1 s2).bind fun v1 =>
  b_L_value_105 h (s0 + v1)
def f_L_value (h : MH) (x0 : Int32) (x1 : Int32) : Option Int32 :=
  if x0 = 0 then
    ((f_L_at h x1 (4901 : Int32)).bind fun v7 =>
    b_L_value_105 h ((100 : Int32) + v7))
  else
    (if (3 : Int32) ≤ x0 then
      (if x0 = (3 : Int32) then
        ((f_L_at h x1 (51 : Int32)).bind fun v5 =>
        b_L_value_105 h ((50 : Int32) + v5))
      else
        (if x0 = (4 : Int32) then
          ((f_L_at h x1 (12 : Int32)).bind fun v4 =>
          b_L_value_105 h v4)
        else
          (if x0 = (5 : Int32) then
            ((f_L_at h x1 (60 : Int32)).bind fun v3 =>
            b_L_value_105 h ((1 : Int32) + v3))
          else
            ((f_L_at h x1 (4 : Int32)).bind fun v2 =>
            b_L_value_105 h ((1 : Int32) + v2)))))
    else
      ((f_L_at h (x1 >>> ((9 : Int32) &&& 31)) (2 : Int32)).bind fun v6 =>
      if v6 = 0 then
        (b_L_value_44 h (1 : Int32) x1 (1000 : Int32))
      else
        (b_L_value_44 h (1 : Int32) x1 (200 : Int32))))
def b_L_act_225 (h : MH) (s0 : Int32) : Option (Int32 × MH) :=
  some ((s0 &&& 1), h)
def b_L_act_158 (rec129 : MH → Nat → Int32 → Nat → Nat → Int32 → Nat → Int32 → Option (Int32 × MH)) (h : MH) (x0 : Nat) (x3 : Int32) (x5 : Nat) (x8 : Nat) (x9 : Int32) (x10 : Nat) (x11 : Int32) (s0 : Nat) (s1 : Int32) (s2 : Int32) : Option (Int32 × MH) :=
  (sI h s0 s1 s2).bind fun h1 =>
  rec129 h1 x0 x3 x5 x8 x9 x10 (x11 + (1 : Int32))
def b_L_act_129 (rec129 : MH → Nat → Int32 → Nat → Nat → Int32 → Nat → Int32 → Option (Int32 × MH)) (h : MH) (x0 : Nat) (x3 : Int32) (x5 : Nat) (x8 : Nat) (x9 : Int32) (x10 : Nat) (x11 : Int32) : Option (Int32 × MH) :=
  if (9 : Int32) ≤ x11 then
    ((f_L_at h (x3 >>> ((4 : Int32) &&& 31)) ((1 : Int32) <<< (x9 &&& 31))).bind fun v2 =>
    (sI h x5 ((9 : Int32) * x9) v2).bind fun h3 =>
    (aI h3 x8 (0 : Int32)).bind fun v4 =>
    (sI h3 x8 (0 : Int32) (v4 + (1 : Int32))).bind fun h5 =>
    (aI h5 x10 (0 : Int32)).bind fun v6 =>
    (aI h5 x10 (1 : Int32)).bind fun v7 =>
    (aI h5 x10 (2 : Int32)).bind fun v8 =>
    (aI h5 x5 ((9 : Int32) * x9)).bind fun v9 =>
    (vcall h5 3 x0 (f_X3_addRail h5 x0 v6 v7 v8 v9)).bind fun p10 =>
    if p10.1 = x9 then
      (b_L_act_225 p10.2 (1 : Int32))
    else
      (b_L_act_225 p10.2 (0 : Int32)))
  else
    (if x11 = (8 : Int32) then
      (b_L_act_158 rec129 h x0 x3 x5 x8 x9 x10 x11 x5 (((9 : Int32) * x9) + x11) (-1 : Int32))
    else
      (b_L_act_158 rec129 h x0 x3 x5 x8 x9 x10 x11 x5 (((9 : Int32) * x9) + x11) (0 : Int32)))
def f_L_act_129 : Nat → MH → Nat → Int32 → Nat → Nat → Int32 → Nat → Int32 → Option (Int32 × MH)
  | 0 => fun _ _ _ _ _ _ _ _ => none
  | n + 1 => fun h x0 x3 x5 x8 x9 x10 x11 => b_L_act_129 (f_L_act_129 n) h x0 x3 x5 x8 x9 x10 x11
def b_L_act_97 (rec97 : MH → Nat → Int32 → Nat → Nat → Nat → Int32 → Nat → Int32 → Option (Int32 × MH)) (h : MH) (x0 : Nat) (x3 : Int32) (x4 : Nat) (x5 : Nat) (x8 : Nat) (x9 : Int32) (x10 : Nat) (x11 : Int32) : Option (Int32 × MH) :=
  if (7 : Int32) ≤ x11 then
    (f_L_act_129 FU h x0 x3 x5 x8 x9 x10 (0 : Int32))
  else
    ((aI h x10 x11).bind fun v11 =>
    (sI h x4 (((7 : Int32) * x9) + x11) v11).bind fun h12 =>
    rec97 h12 x0 x3 x4 x5 x8 x9 x10 (x11 + (1 : Int32)))
def f_L_act_97 : Nat → MH → Nat → Int32 → Nat → Nat → Nat → Int32 → Nat → Int32 → Option (Int32 × MH)
  | 0 => fun _ _ _ _ _ _ _ _ _ => none
  | n + 1 => fun h x0 x3 x4 x5 x8 x9 x10 x11 => b_L_act_97 (f_L_act_97 n) h x0 x3 x4 x5 x8 x9 x10 x11
def b_L_act_307 (h : MH) (s0 : Int32) : Option (Int32 × MH) :=
  some ((s0 &&& 1), h)
def b_L_act_263 (rec263 : MH → Nat → Nat → Nat → Nat → Nat → Nat → Int32 → Int32 → Option (Int32 × MH)) (h : MH) (x0 : Nat) (x4 : Nat) (x5 : Nat) (x6 : Nat) (x7 : Nat) (x8 : Nat) (x9 : Int32) (x10 : Int32) : Option (Int32 × MH) :=
  if x9 ≤ x10 then
    ((vcall h 3 x0 (f_X3_tick h x0 x9)).bind fun p13 =>
    (aI p13.2 x8 (4 : Int32)).bind fun v14 =>
    if p13.1 = v14 then
      (b_L_act_307 p13.2 (1 : Int32))
    else
      (b_L_act_307 p13.2 (0 : Int32)))
  else
    ((f_L_tick h x4 x5 x6 x7 x8).bind fun h15 =>
    rec263 h15 x0 x4 x5 x6 x7 x8 x9 (x10 + (1 : Int32)))
def f_L_act_263 : Nat → MH → Nat → Nat → Nat → Nat → Nat → Nat → Int32 → Int32 → Option (Int32 × MH)
  | 0 => fun _ _ _ _ _ _ _ _ _ => none
  | n + 1 => fun h x0 x4 x5 x6 x7 x8 x9 x10 => b_L_act_263 (f_L_act_263 n) h x0 x4 x5 x6 x7 x8 x9 x10
def b_L_act_249 (h : MH) (x0 : Nat) (x4 : Nat) (x5 : Nat) (x6 : Nat) (x7 : Nat) (x8 : Nat) (s0 : Int32) (s1 : Int32) (s2 : Int32) : Option (Int32 × MH) :=
  (f_L_at h s1 s2).bind fun v16 =>
  (some (s0 + v16)).bind fun v17 =>
  (sI h x8 (4 : Int32) (0 : Int32)).bind fun h18 =>
  f_L_act_263 FU h18 x0 x4 x5 x6 x7 x8 v17 (0 : Int32)
def b_L_act_433 (rec392 : MH → Nat → Int32 → Nat → Nat → Int32 → Int32 → Int32 → Option (Int32 × MH)) (h : MH) (x0 : Nat) (x1 : Int32) (x5 : Nat) (x8 : Nat) (x9 : Int32) (x10 : Int32) (x11 : Int32) : Option (Int32 × MH) :=
  rec392 h x0 x1 x5 x8 x9 x10 (x11 + (1 : Int32))
def b_L_act_432 (rec392 : MH → Nat → Int32 → Nat → Nat → Int32 → Int32 → Int32 → Option (Int32 × MH)) (h : MH) (x0 : Nat) (x1 : Int32) (x5 : Nat) (x8 : Nat) (x9 : Int32) (x10 : Int32) (x11 : Int32) (s0 : Nat) (s1 : Int32) (s2 : Int32) : Option (Int32 × MH) :=
  (sI h s0 s1 s2).bind fun h19 =>
  b_L_act_433 rec392 h19 x0 x1 x5 x8 x9 x10 x11
def b_L_act_477 (h : MH) (s0 : Int32) : Option (Int32 × MH) :=
  some ((s0 &&& 1), h)
def b_L_act_460 (h : MH) (x5 : Nat) (x8 : Nat) (s0 : Int32) : Option (Int32 × MH) :=
  (f_L_mask h (1 : Int32) (1 : Int32) x5 x8).bind fun v20 =>
  if s0 = v20 then
    (b_L_act_477 h (1 : Int32))
  else
    (b_L_act_477 h (0 : Int32))
def b_L_act_392 (rec392 : MH → Nat → Int32 → Nat → Nat → Int32 → Int32 → Int32 → Option (Int32 × MH)) (h : MH) (x0 : Nat) (x1 : Int32) (x5 : Nat) (x8 : Nat) (x9 : Int32) (x10 : Int32) (x11 : Int32) : Option (Int32 × MH) :=
  (aI h x8 (0 : Int32)).bind fun v21 =>
  if v21 ≤ x11 then
    (if (9 : Int32) ≤ x1 then
      ((vcall h 3 x0 (f_X3_off h x0 x9)).bind fun p22 =>
      b_L_act_460 p22.2 x5 x8 p22.1)
    else
      ((vcall h 3 x0 (f_X3_on h x0 x9)).bind fun p23 =>
      b_L_act_460 p23.2 x5 x8 p23.1))
  else
    (if ((x10 >>> (x11 &&& 31)) &&& (1 : Int32)) = (1 : Int32) then
      (if (9 : Int32) ≤ x1 then
        (b_L_act_432 rec392 h x0 x1 x5 x8 x9 x10 x11 x5 (((9 : Int32) * x11) + (1 : Int32)) (0 : Int32))
      else
        (b_L_act_432 rec392 h x0 x1 x5 x8 x9 x10 x11 x5 (((9 : Int32) * x11) + (1 : Int32)) (1 : Int32)))
    else
      (b_L_act_433 rec392 h x0 x1 x5 x8 x9 x10 x11))
def f_L_act_392 : Nat → MH → Nat → Int32 → Nat → Nat → Int32 → Int32 → Int32 → Option (Int32 × MH)
  | 0 => fun _ _ _ _ _ _ _ _ => none
  | n + 1 => fun h x0 x1 x5 x8 x9 x10 x11 => b_L_act_392 (f_L_act_392 n) h x0 x1 x5 x8 x9 x10 x11
def b_L_act_380 (h : MH) (x0 : Nat) (x1 : Int32) (x5 : Nat) (x8 : Nat) (x9 : Int32) (s0 : Int32) (s1 : Int32) : Option (Int32 × MH) :=
  (f_L_closed h s0 s1 x5 x8).bind fun v24 =>
  f_L_act_392 FU h x0 x1 x5 x8 x9 v24 (0 : Int32)
def b_L_act_365 (h : MH) (x0 : Nat) (x1 : Int32) (x5 : Nat) (x8 : Nat) (s0 : Int32) : Option (Int32 × MH) :=
  if x1 = (9 : Int32) then
    (b_L_act_380 h x0 x1 x5 x8 s0 s0 (1 : Int32))
  else
    (b_L_act_380 h x0 x1 x5 x8 s0 s0 (0 : Int32))
def b_L_act_664 (h : MH) (s0 : Int32) : Option (Int32 × MH) :=
  some ((s0 &&& 1), h)
def b_L_act_640 (rec535 : MH → Nat → Nat → Nat → Nat → Nat → Int32 → Int32 → Int32 → Option (Int32 × MH)) (h : MH) (x0 : Nat) (x5 : Nat) (x6 : Nat) (x7 : Nat) (x8 : Nat) (x9 : Int32) (x11 : Int32) (x12 : Int32) : Option (Int32 × MH) :=
  rec535 h x0 x5 x6 x7 x8 x9 x11 (x12 + (1 : Int32))
def b_L_act_607 (rec535 : MH → Nat → Nat → Nat → Nat → Nat → Int32 → Int32 → Int32 → Option (Int32 × MH)) (h : MH) (x0 : Nat) (x5 : Nat) (x6 : Nat) (x7 : Nat) (x8 : Nat) (x9 : Int32) (x11 : Int32) (x12 : Int32) (x13 : Int32) : Option (Int32 × MH) :=
  (sI h x5 (x13 + (7 : Int32)) (0 : Int32)).bind fun h25 =>
  (sI h25 x5 (x13 + (8 : Int32)) x9).bind fun h26 =>
  (f_L_enter h26 x12 (4 : Int32) x5 x6 x7 x8).bind fun h27 =>
  b_L_act_640 rec535 h27 x0 x5 x6 x7 x8 x9 x11 x12
def b_L_act_535 (rec535 : MH → Nat → Nat → Nat → Nat → Nat → Int32 → Int32 → Int32 → Option (Int32 × MH)) (h : MH) (x0 : Nat) (x5 : Nat) (x6 : Nat) (x7 : Nat) (x8 : Nat) (x9 : Int32) (x11 : Int32) (x12 : Int32) : Option (Int32 × MH) :=
  (aI h x8 (0 : Int32)).bind fun v28 =>
  if v28 ≤ x12 then
    ((vcall h 3 x0 (f_X3_restart h x0 x9)).bind fun p29 =>
    (aI p29.2 x8 (4 : Int32)).bind fun v30 =>
    if p29.1 = v30 then
      (b_L_act_664 p29.2 (1 : Int32))
    else
      (b_L_act_664 p29.2 (0 : Int32)))
  else
    ((some ((9 : Int32) * x12)).bind fun v31 =>
    if ((x11 >>> (x12 &&& 31)) &&& (1 : Int32)) = 0 then
      (b_L_act_640 rec535 h x0 x5 x6 x7 x8 x9 x11 x12)
    else
      ((aI h x5 (v31 + (2 : Int32))).bind fun v32 =>
      if v32 = (2 : Int32) then
        (b_L_act_607 rec535 h x0 x5 x6 x7 x8 x9 x11 x12 v31)
      else
        ((aI h x5 (v31 + (2 : Int32))).bind fun v33 =>
        if v33 = (3 : Int32) then
          (b_L_act_607 rec535 h x0 x5 x6 x7 x8 x9 x11 x12 v31)
        else
          ((aI h x5 (v31 + (2 : Int32))).bind fun v34 =>
          if v34 = (5 : Int32) then
            ((aI h x5 (v31 + (1 : Int32))).bind fun v35 =>
            if v35 = 0 then
              (b_L_act_640 rec535 h x0 x5 x6 x7 x8 x9 x11 x12)
            else
              (b_L_act_607 rec535 h x0 x5 x6 x7 x8 x9 x11 x12 v31))
          else
            (b_L_act_640 rec535 h x0 x5 x6 x7 x8 x9 x11 x12)))))
def f_L_act_535 : Nat → MH → Nat → Nat → Nat → Nat → Nat → Int32 → Int32 → Int32 → Option (Int32 × MH)
  | 0 => fun _ _ _ _ _ _ _ _ _ => none
  | n + 1 => fun h x0 x5 x6 x7 x8 x9 x11 x12 => b_L_act_535 (f_L_act_535 n) h x0 x5 x6 x7 x8 x9 x11 x12
def b_L_act_716 (h : MH) (s0 : Int32) : Option (Int32 × MH) :=
  some ((s0 &&& 1), h)
def b_L_act_767 (h : MH) (s0 : Int32) : Option (Int32 × MH) :=
  some ((s0 &&& 1), h)
def b_L_act_844 (h : MH) (s0 : Int32) : Option (Int32 × MH) :=
  some ((s0 &&& 1), h)
def b_L_act_886 (h : MH) (s0 : Int32) : Option (Int32 × MH) :=
  some ((s0 &&& 1), h)
def b_L_act_955 (h : MH) (s0 : Int32) : Option (Int32 × MH) :=
  some ((s0 &&& 1), h)
def b_L_act_914 (h : MH) (x0 : Nat) (x3 : Int32) (x5 : Nat) (x9 : Int32) (x10 : Int32) : Option (Int32 × MH) :=
  (aI h x5 x10).bind fun v36 =>
  (f_L_at h x3 ((1 : Int32) <<< (x9 &&& 31))).bind fun v37 =>
  (sI h x5 x10 v37).bind fun h38 =>
  (aI h38 x5 x10).bind fun v39 =>
  (vcall h38 3 x0 (f_X3_setNeeds h38 x0 x9 v39)).bind fun p40 =>
  if p40.1 = v36 then
    (b_L_act_955 p40.2 (1 : Int32))
  else
    (b_L_act_955 p40.2 (0 : Int32))
def b_L_act_1038 (rec976 : MH → Nat → Nat → Nat → Int32 → Int32 → Int32 → Int32 → Option (Int32 × MH)) (h : MH) (x0 : Nat) (x7 : Nat) (x8 : Nat) (x9 : Int32) (x11 : Int32) (x12 : Int32) (x13 : Int32) : Option (Int32 × MH) :=
  rec976 h x0 x7 x8 x9 x11 x12 (x13 + (1 : Int32))
def b_L_act_1003 (rec976 : MH → Nat → Nat → Nat → Int32 → Int32 → Int32 → Int32 → Option (Int32 × MH)) (rec1003 : MH → Nat → Nat → Nat → Int32 → Int32 → Int32 → Int32 → Int32 → Option (Int32 × MH)) (h : MH) (x0 : Nat) (x7 : Nat) (x8 : Nat) (x9 : Int32) (x11 : Int32) (x12 : Int32) (x13 : Int32) (x14 : Int32) : Option (Int32 × MH) :=
  if (4 : Int32) ≤ x14 then
    (b_L_act_1038 rec976 h x0 x7 x8 x9 (x11 + (1 : Int32)) x12 x13)
  else
    ((aI h x7 (((4 : Int32) * x13) + x14)).bind fun v41 =>
    (sI h x7 (((4 : Int32) * x11) + x14) v41).bind fun h42 =>
    rec1003 h42 x0 x7 x8 x9 x11 x12 x13 (x14 + (1 : Int32)))
def f_L_act_1003 (rec976 : MH → Nat → Nat → Nat → Int32 → Int32 → Int32 → Int32 → Option (Int32 × MH)) : Nat → MH → Nat → Nat → Nat → Int32 → Int32 → Int32 → Int32 → Int32 → Option (Int32 × MH)
  | 0 => fun _ _ _ _ _ _ _ _ _ => none
  | n + 1 => fun h x0 x7 x8 x9 x11 x12 x13 x14 => b_L_act_1003 rec976 (f_L_act_1003 rec976 n) h x0 x7 x8 x9 x11 x12 x13 x14
def b_L_act_1069 (h : MH) (s0 : Int32) : Option (Int32 × MH) :=
  some ((s0 &&& 1), h)
def b_L_act_976 (rec976 : MH → Nat → Nat → Nat → Int32 → Int32 → Int32 → Int32 → Option (Int32 × MH)) (h : MH) (x0 : Nat) (x7 : Nat) (x8 : Nat) (x9 : Int32) (x11 : Int32) (x12 : Int32) (x13 : Int32) : Option (Int32 × MH) :=
  if x12 ≤ x13 then
    ((sI h x8 (3 : Int32) x11).bind fun h43 =>
    (vcall h43 3 x0 (f_X3_forget h43 x0 x9)).bind fun p44 =>
    if p44.1 = (x12 - x11) then
      (b_L_act_1069 p44.2 (1 : Int32))
    else
      (b_L_act_1069 p44.2 (0 : Int32)))
  else
    ((aI h x7 (((4 : Int32) * x13) + (1 : Int32))).bind fun v45 =>
    if v45 = x9 then
      (b_L_act_1038 rec976 h x0 x7 x8 x9 x11 x12 x13)
    else
      (f_L_act_1003 rec976 FU h x0 x7 x8 x9 x11 x12 x13 (0 : Int32)))
def f_L_act_976 : Nat → MH → Nat → Nat → Nat → Int32 → Int32 → Int32 → Int32 → Option (Int32 × MH)
  | 0 => fun _ _ _ _ _ _ _ _ => none
  | n + 1 => fun h x0 x7 x8 x9 x11 x12 x13 => b_L_act_976 (f_L_act_976 n) h x0 x7 x8 x9 x11 x12 x13
def b_L_act_956 (h : MH) (x0 : Nat) (x1 : Int32) (x7 : Nat) (x8 : Nat) (x9 : Int32) : Option (Int32 × MH) :=
  if (17 : Int32) ≤ x1 then
    ((aI h x8 (3 : Int32)).bind fun v46 =>
    f_L_act_976 FU h x0 x7 x8 x9 (0 : Int32) v46 (0 : Int32))
  else
    (some (((1 : Int32) &&& 1), h))
def f_L_act (h : MH) (x0 : Nat) (x1 : Int32) (x2 : Int32) (x3 : Int32) (x4 : Nat) (x5 : Nat) (x6 : Nat) (x7 : Nat) (x8 : Nat) : Option (Int32 × MH) :=
  if (2 : Int32) ≤ x1 then
    (if (7 : Int32) ≤ x1 then
      (if (10 : Int32) ≤ x1 then
        ((aI h x8 (0 : Int32)).bind fun v47 =>
        (f_L_at h x2 v47).bind fun v48 =>
        (some ((9 : Int32) * v48)).bind fun v49 =>
        if x1 = (10 : Int32) then
          ((aI h x5 (v49 + (1 : Int32))).bind fun v73 =>
          if v73 = 0 then
            (some (((1 : Int32) &&& 1), h))
          else
            ((f_L_closed h ((1 : Int32) <<< (v48 &&& 31)) (1 : Int32) x5 x8).bind fun v74 =>
            (sI h x8 (4 : Int32) (0 : Int32)).bind fun h75 =>
            f_L_act_535 FU h75 x0 x5 x6 x7 x8 v48 v74 (0 : Int32)))
        else
          (if x1 = (11 : Int32) then
            ((aI h x5 (v49 + (5 : Int32))).bind fun v68 =>
            (f_L_at h x3 (40 : Int32)).bind fun v69 =>
            (sI h x5 (v49 + (5 : Int32)) v69).bind fun h70 =>
            (aI h70 x5 (v49 + (5 : Int32))).bind fun v71 =>
            (vcall h70 3 x0 (f_X3_shortCircuit h70 x0 v48 v71)).bind fun p72 =>
            if p72.1 = v68 then
              (b_L_act_716 p72.2 (1 : Int32))
            else
              (b_L_act_716 p72.2 (0 : Int32)))
          else
            (if x1 = (12 : Int32) then
              ((aI h x5 (v49 + (4 : Int32))).bind fun v63 =>
              (f_L_at h x3 (3 : Int32)).bind fun v64 =>
              (sI h x5 (v49 + (4 : Int32)) v64).bind fun h65 =>
              (aI h65 x5 (v49 + (4 : Int32))).bind fun v66 =>
              (vcall h65 3 x0 (f_X3_stick h65 x0 v48 v66)).bind fun p67 =>
              if p67.1 = v63 then
                (b_L_act_767 p67.2 (1 : Int32))
              else
                (b_L_act_767 p67.2 (0 : Int32)))
            else
              (if (15 : Int32) ≤ x1 then
                (if x1 = (15 : Int32) then
                  ((aI h x8 (1 : Int32)).bind fun v52 =>
                  (f_L_at h x3 (501 : Int32)).bind fun v53 =>
                  (sI h x8 (1 : Int32) v53).bind fun h54 =>
                  (aI h54 x8 (1 : Int32)).bind fun v55 =>
                  (vcall h54 3 x0 (f_X3_setResidue h54 x0 v55)).bind fun p56 =>
                  if p56.1 = v52 then
                    (b_L_act_886 p56.2 (1 : Int32))
                  else
                    (b_L_act_886 p56.2 (0 : Int32)))
                else
                  (if x1 = (16 : Int32) then
                    ((aI h x5 (v49 + (2 : Int32))).bind fun v50 =>
                    if v50 = 0 then
                      (b_L_act_914 h x0 x3 x5 v48 v49)
                    else
                      ((aI h x5 (v49 + (2 : Int32))).bind fun v51 =>
                      if v51 = (5 : Int32) then
                        (b_L_act_914 h x0 x3 x5 v48 v49)
                      else
                        (b_L_act_956 h x0 x1 x7 x8 v48)))
                  else
                    (b_L_act_956 h x0 x1 x7 x8 v48)))
              else
                ((f_L_at h (x3 >>> ((7 : Int32) &&& 31)) (7 : Int32)).bind fun v57 =>
                (aI h x4 (((7 : Int32) * v48) + v57)).bind fun v58 =>
                (f_L_value h v57 x3).bind fun v59 =>
                (sI h x4 (((7 : Int32) * v48) + v57) v59).bind fun h60 =>
                (aI h60 x4 (((7 : Int32) * v48) + v57)).bind fun v61 =>
                (vcall h60 3 x0 (f_X3_set h60 x0 v48 v57 v61)).bind fun p62 =>
                if p62.1 = v58 then
                  (b_L_act_844 p62.2 (1 : Int32))
                else
                  (b_L_act_844 p62.2 (0 : Int32)))))))
      else
        (if (9 : Int32) ≤ x1 then
          ((aI h x8 (0 : Int32)).bind fun v76 =>
          (f_L_at h x2 ((1 : Int32) <<< (v76 &&& 31))).bind fun v77 =>
          (aI h x8 (0 : Int32)).bind fun v78 =>
          (f_L_at h x3 ((1 : Int32) <<< (v78 &&& 31))).bind fun v79 =>
          b_L_act_365 h x0 x1 x5 x8 (v77 &&& v79))
        else
          ((aI h x8 (0 : Int32)).bind fun v80 =>
          (f_L_at h x2 ((1 : Int32) <<< (v80 &&& 31))).bind fun v81 =>
          (aI h x8 (0 : Int32)).bind fun v82 =>
          (f_L_at h x3 ((1 : Int32) <<< (v82 &&& 31))).bind fun v83 =>
          b_L_act_365 h x0 x1 x5 x8 (v81 ||| v83))))
    else
      ((f_L_at h x2 (3 : Int32)).bind fun v84 =>
      if v84 = 0 then
        (b_L_act_249 h x0 x4 x5 x6 x7 x8 (1 : Int32) x3 (60 : Int32))
      else
        (b_L_act_249 h x0 x4 x5 x6 x7 x8 (1 : Int32) x3 (12 : Int32))))
  else
    ((aI h x8 (0 : Int32)).bind fun v85 =>
    if v85 = (6 : Int32) then
      (some (((1 : Int32) &&& 1), h))
    else
      ((aI h x8 (0 : Int32)).bind fun v86 =>
      (nA h 0 (7, .inl (fun _ => 0))).bind fun h87 =>
      (some (h.length)).bind fun v88 =>
      (f_L_value h87 (0 : Int32) x2).bind fun v89 =>
      (sI h87 v88 (0 : Int32) v89).bind fun h90 =>
      (f_L_value h90 (1 : Int32) x3).bind fun v91 =>
      (firem v91 (900 : Int32)).bind fun v92 =>
      (sI h90 v88 (1 : Int32) ((20 : Int32) + v92)).bind fun h93 =>
      (f_L_value h93 (2 : Int32) (x2 >>> ((3 : Int32) &&& 31))).bind fun v94 =>
      (firem v94 (900 : Int32)).bind fun v95 =>
      (sI h93 v88 (2 : Int32) ((20 : Int32) + v95)).bind fun h96 =>
      (sI h96 v88 (3 : Int32) (90 : Int32)).bind fun h97 =>
      (sI h97 v88 (4 : Int32) (2 : Int32)).bind fun h98 =>
      (sI h98 v88 (5 : Int32) (40 : Int32)).bind fun h99 =>
      (sI h99 v88 (6 : Int32) (2 : Int32)).bind fun h100 =>
      f_L_act_97 FU h100 x0 x3 x4 x5 x8 v86 v88 (0 : Int32)))
def b_L_law_66 (sc : Nat × (Nat → Int32)) (h : MH) : Option Int32 :=
  some (0 : Int32)
def b_L_law_171 (sc : Nat × (Nat → Int32)) (h : MH) : Option Int32 :=
  some (0 : Int32)
def b_L_law_203 (sc : Nat × (Nat → Int32)) (rec71 : MH → Nat → Nat → Nat → Nat → Nat → Nat → Int32 → Option Int32) (h : MH) (x1 : Nat) (x2 : Nat) (x3 : Nat) (x4 : Nat) (x5 : Nat) (x6 : Nat) (x7 : Int32) : Option Int32 :=
  rec71 h x1 x2 x3 x4 x5 x6 (x7 + (1 : Int32))
def b_L_law_138 (sc : Nat × (Nat → Int32)) (rec71 : MH → Nat → Nat → Nat → Nat → Nat → Nat → Int32 → Option Int32) (h : MH) (x1 : Nat) (x2 : Nat) (x3 : Nat) (x4 : Nat) (x5 : Nat) (x6 : Nat) (x7 : Int32) (x8 : Int32) (x9 : Int32) (s0 : Nat) (s1 : Int32) : Option Int32 :=
  (f_L_act h s0 s1 x8 x9 x2 x3 x4 x5 x6).bind fun p1 =>
  if p1.1 = 0 then
    (b_L_law_171 sc p1.2)
  else
    ((f_L_told p1.2 x1 x2 x3 x4 x5 x6).bind fun p2 =>
    if p2.1 = 0 then
      (b_L_law_171 sc p2.2)
    else
      ((firem x7 (6 : Int32)).bind fun v3 =>
      if v3 = (5 : Int32) then
        ((f_L_ahead p2.2 x1 (x9 >>> ((2 : Int32) &&& 31)) (x8 >>> ((2 : Int32) &&& 31)) x2 x3 x6).bind fun p4 =>
        if p4.1 = 0 then
          (some (0 : Int32))
        else
          (b_L_law_203 sc rec71 p4.2 x1 x2 x3 x4 x5 x6 x7))
      else
        (b_L_law_203 sc rec71 p2.2 x1 x2 x3 x4 x5 x6 x7)))
def b_L_law_223 (sc : Nat × (Nat → Int32)) (h : MH) (s0 : Int32) : Option Int32 :=
  some s0
def b_L_law_71 (sc : Nat × (Nat → Int32)) (rec71 : MH → Nat → Nat → Nat → Nat → Nat → Nat → Int32 → Option Int32) (h : MH) (x1 : Nat) (x2 : Nat) (x3 : Nat) (x4 : Nat) (x5 : Nat) (x6 : Nat) (x7 : Int32) : Option Int32 :=
  if (24 : Int32) ≤ x7 then
    ((vcall h 3 x1 (f_X3_count h x1 (8 : Int32))).bind fun p5 =>
    if p5.1 ≤ 0 then
      (b_L_law_223 sc p5.2 (0 : Int32))
    else
      (b_L_law_223 sc p5.2 (1 : Int32)))
  else
    ((f_L_cell sc h ((2 : Int32) * x7)).bind fun v6 =>
    (some (v6 &&& (2147483647 : Int32))).bind fun v7 =>
    (f_L_cell sc h (((2 : Int32) * x7) + (1 : Int32))).bind fun v8 =>
    (some (v8 &&& (2147483647 : Int32))).bind fun v9 =>
    if (3 : Int32) ≤ x7 then
      (if x7 = (3 : Int32) then
        (b_L_law_138 sc rec71 h x1 x2 x3 x4 x5 x6 x7 v7 v9 x1 (7 : Int32))
      else
        ((f_L_at h (v7 >>> ((13 : Int32) &&& 31)) (18 : Int32)).bind fun v10 =>
        b_L_law_138 sc rec71 h x1 x2 x3 x4 x5 x6 x7 v7 v9 x1 v10))
    else
      (b_L_law_138 sc rec71 h x1 x2 x3 x4 x5 x6 x7 v7 v9 x1 (0 : Int32)))
def f_L_law_71 (sc : Nat × (Nat → Int32)) : Nat → MH → Nat → Nat → Nat → Nat → Nat → Nat → Int32 → Option Int32
  | 0 => fun _ _ _ _ _ _ _ _ => none
  | n + 1 => fun h x1 x2 x3 x4 x5 x6 x7 => b_L_law_71 sc (f_L_law_71 sc n) h x1 x2 x3 x4 x5 x6 x7
def f_L_law (sc : Nat × (Nat → Int32)) (h : MH) : Option Int32 :=
  (nO h 3 [.null, .null, .null, .int 0, .null, .int 0, .null]).bind fun h11 =>
  (f_X3_init h11 (h.length)).bind fun h12 =>
  (some (h.length)).bind fun v13 =>
  (nA h12 0 (42, .inl (fun _ => 0))).bind fun h14 =>
  (some (h12.length)).bind fun v15 =>
  (nA h14 0 (54, .inl (fun _ => 0))).bind fun h16 =>
  (some (h14.length)).bind fun v17 =>
  (nA h16 0 (24, .inl (fun _ => 0))).bind fun h18 =>
  (some (h16.length)).bind fun v19 =>
  (nA h18 0 (64, .inl (fun _ => 0))).bind fun h20 =>
  (some (h18.length)).bind fun v21 =>
  (nA h20 0 (6, .inl (fun _ => 0))).bind fun h22 =>
  (some (h20.length)).bind fun v23 =>
  (sI h22 v23 (1 : Int32) (100 : Int32)).bind fun h24 =>
  (f_L_told h24 v13 v15 v17 v19 v21 v23).bind fun p25 =>
  if p25.1 = 0 then
    (b_L_law_66 sc p25.2)
  else
    ((vcall p25.2 3 v13 (f_X3_count p25.2 v13 (8 : Int32))).bind fun p26 =>
    if p26.1 = 0 then
      (f_L_law_71 sc FU p26.2 v13 v15 v17 v19 v21 v23 (0 : Int32))
    else
      (b_L_law_66 sc p26.2))
